/-! one symbol, many symbols -/
def phN (w : Nat → Int32) : Nat := (w 14).toNatClampNeg
def LL (m : hM) (F B D P W : Nat) : Prop := Ln m 0 F B D P W ∧ Lm m P W ∧ Lw m W
def stC (m : hM) (F B D P W : Nat) (s : (Nat → Int32) × Int64) : (Nat → Int32) × Int64 := (TD m 0 F B D P (phN s.1) (dnv s.2 (s.1 20)) (s.1 1088) (Tw m 0 W s.1), dnx s.2 (s.1 20))
def wM (m : hM) (W : Nat) (v : Nat → Int32) : Nat → Int32 := nxv (jn (v 49) (v 50)) (Tw m 0 W v)
def nM (v : Nat → Int32) : Int32 := dnv (jn (v 49) (v 50)) (v 20)
def stM (m : hM) (F B D P W : Nat) (g : Int32) (v : Nat → Int32) : Nat → Int32 := TM m F B D P (phN v) (nM v) g (wM m W v)
def wrM (m : hM) (F B D P W : Nat) (v : Nat → Int32) : Int32 := Twr m 0 F B D P (phN v) (nM v) (wM m W v)
def RS (B : Nat) (g : Int32) (w : Nat → Int32) (x : Int64) (v : Nat → Int32) (t : Nat) : Prop := Eq9 w v ∧ x = jn (v 49) (v 50) ∧ VW B v t ∧ w 1088 = g ∧ t < 2 ^ 30
theorem ph_of {w : Nat → Int32} (h : bw (w 14) 0 3) : w 14 = nI (phN w) ∧ phN w ≤ 3 := by
  obtain ⟨j, hj, e⟩ := bw_n (n := 3) h
  unfold phN
  rw [e, nI_clamp (by omega)]
  exact ⟨rfl, hj⟩
theorem Rwr_b (a b : Int32) : Rwr a b = 0 ∨ Rwr a b = 1 := by
  unfold Rwr
  repeat' split
  all_goals first | exact Or.inl rfl | exact Or.inr rfl
theorem jretZ_b {a : Int32} {m : hM} (h : a = 0 ∨ a = 1) : jretZ a m = some (some (.inl a), m) := if_pos h
section
variable {m m2 : hM} {n F B D P W t : Nat} {g : Int32} {w v : Nat → Int32} {x : Int64}
theorem c_step (h : RS B g w x v t) (hl : Ln m 0 F B D P W) : JX8_pass n 0 (Sm m n w x) = some (none, Sm m n (stC m F B D P W (w, x)).1 (stC m F B D P W (w, x)).2) := by
  obtain ⟨h1, h2, h3, h4, h5⟩ := h
  obtain ⟨a1, a2, a3, a4, a5, a6, a7, a8, a9⟩ := VW_q h1 h3
  obtain ⟨k, hk, ek⟩ := bw_n (n := 4) a6
  have hp := ph_of a3
  rw [c_pass hp.1 hp.2 ek hk a9 (by omega) hl]
  rfl
theorem wM_g {k : Nat} (h : k < 49) : wM m W v k = Tw m 0 W v k := nxv_g (by omega) (by omega)
theorem m_sym0 (h : VW B v t) (ht : t < 2 ^ 30) (hn : m.1 40 0 23 = -1000000000) (hl : LL m F B D P W) : JX12_symbol (Nm m v) = nte (if wM m W v 22 = 0 then Rsm m 0 P (phN v) (nM v) (wM m W v) else -1000000000) (Rmk (nbv m 0 W v) (Tdec m 0 F B P (phN v) (nM v) (wM m W v)) (wrM m F B D P W v) (TA m 0 F B P (phN v) (nM v) (wM m W v) 17) (Tls m 0 F B P (phN v) (nM v) (wM m W v)) (Ttr D (wM m W v))) (wrM m F B D P W v) (Nm m (stM m F B D P W (m.1 40 0 22) v)) := by
  obtain ⟨a1, a2, a3, a4, a5, a6, a7, ⟨r, a8, a8b⟩, a9⟩ := h
  obtain ⟨k, hk, ek⟩ := bw_n (n := 4) a6
  have hp := ph_of a3
  have hb2 : B ≤ 3 := hl.1.2.2.2.2.2.2.2.1
  have e20 : Tw m 0 W v 20 = v 20 := Tw_g (by decide) (by decide)
  have e49 : Tw m 0 W v 49 = v 49 := Tw_g (by decide) (by decide)
  have e50 : Tw m 0 W v 50 = v 50 := Tw_g (by decide) (by decide)
  have en : JX12_noise (Nm m (Tw m 0 W v)) = some (some (.inl (nM v)), Nm m (wM m W v)) := by
    rw [m_noiseD hn (k := k) (by rw [e20, ek]) hk, e49, e50, e20]
    rfl
  exact m_symbol a9 (by omega) hp.1 hp.2 (nbv_b hl.2.2) (bw_01 a7) (gd_of hb2 a8 a8b) (bw_01 a5) en (fun k hk => wM_g hk) hl.1 hl.2.1
theorem m_stepT (h : VW B v t) (ht : t < 2 ^ 30) (hn : m.1 40 0 23 = -1000000000) (hi : m.1 40 0 24 = 1) (hl : LL m F B D P W) : JX12_symbol (Nm m v) = some (some (.inl (wrM m F B D P W v)), Nm m (stM m F B D P W (m.1 40 0 22) v)) := by
  rw [m_sym0 h ht hn hl]
  unfold nte JX12_note
  rw [Nm_o (by decide), hi, if_neg (by decide), calV_s]
  exact jretZ_b (Rwr_b _ _)
theorem wM_q (h : RS B g w x v t) (hm : Lsm m m2) : Eq9 (Tw m 0 W w) (wM m2 W v) := by
  intro k hk
  rw [wM_g hk, q_Tw h.1 hm k hk]
theorem VW_wM (h : VW B v t) : VW B (wM m W v) t := VW_q (fun k hk => wM_g hk) (VW_Tw h)
theorem RS_ph (h : RS B g w x v t) : phN w = phN v ∧ dnv x (w 20) = nM v := by
  obtain ⟨h1, h2, h3, h4, h5⟩ := h
  unfold phN nM
  rw [h1 14 (by decide), h1 20 (by decide), h2]
  exact ⟨rfl, rfl⟩
theorem TM_g {ph k : Nat} {nz : Int32} (hF : F ≤ 3) (hB : B ≤ 3) (hk : 49 ≤ k) : TM m F B D P ph nz g v k = v k := by
  unfold TM
  rw [pk_un (by omega), pk_un (by omega), pk_un (by omega), pk_un (by omega), pk_un (by omega), TC_g hF hB (by omega) (by omega) (by omega) (by omega)]
theorem RS_step (h : RS B g w x v t) (hm : Lsm m m2) (hl : Ln m 0 F B D P W) (ht : t + 1 < 2 ^ 30) : RS B g (stC m F B D P W (w, x)).1 (stC m F B D P W (w, x)).2 (stM m2 F B D P W g v) (t + 1) := by
  have hp := RS_ph h
  have hq := wM_q (W := W) h hm
  obtain ⟨l0, l1, l2, l3, l4, f1, f2, b2, d2, p2, w2⟩ := hl
  refine ⟨?_, ?_, ?_, ?_, ht⟩
  · show Eq9 (TD m 0 F B D P (phN w) (dnv x (w 20)) (w 1088) (Tw m 0 W w)) (TM m2 F B D P (phN v) (nM v) g (wM m2 W v))
    rw [hp.1, hp.2, h.2.2.2.1]
    exact q_sym hq hm f2 b2 d2
  · show dnx x (w 20) = jn (TM m2 F B D P (phN v) (nM v) g (wM m2 W v) 49) (TM m2 F B D P (phN v) (nM v) g (wM m2 W v) 50)
    rw [TM_g f2 b2 (by decide), TM_g f2 b2 (by decide)]
    unfold wM
    rw [nxv_x (by rw [Tw_g (by decide) (by decide), Tw_g (by decide) (by decide)]), Tw_g (by decide) (by decide), h.1 20 (by decide), h.2.1]
  · exact VW_TM f2 b2 (VW_wM h.2.2.1)
  · show TD m 0 F B D P (phN w) (dnv x (w 20)) (w 1088) (Tw m 0 W w) 1088 = g
    unfold TD RD
    rw [pk_un (by decide), pk_un (by decide), pk_un (by decide), pk_un (by decide), pk_un (by decide), pk_un (by decide), pk_un (by decide), TC_g f2 b2 (by decide) (by decide) (by decide) (by decide), Tw_g (by decide) (by decide), h.2.2.2.1]
/-- the count of wrong ones grows by the symbol's -/
theorem TC_25 {ph : Nat} {nz : Int32} (hF : F ≤ 3) (hB : B ≤ 3) : TC m 0 F B D P ph nz g v 25 = v 25 + Twr m 0 F B D P ph nz v := by
  have e : ∀ u : Nat → Int32, RC B (Twr m 0 F B D P ph nz v) (Tkp m 0 F B D P ph nz v) u 25 = u 25 + Twr m 0 F B D P ph nz v := by
    intro u
    unfold RC
    have e2 : shv u 37 3 (Tkp m 0 F B D P ph nz v) 25 = u 25 := shv_g (by decide) (by decide)
    generalize shv u 37 3 (Tkp m 0 F B D P ph nz v) = u2 at e2
    have hb := Rwr_b (v (31 + D)) (Tdec m 0 F B P ph nz v)
    show jgv (Twr m 0 F B D P ph nz v) (nI B) u2 25 = _
    change Twr m 0 F B D P ph nz v = 0 ∨ Twr m 0 F B D P ph nz v = 1 at hb
    unfold jgv
    rcases hb with h | h
    · rw [h, if_pos rfl, Int32.add_zero]
      split
      · exact e2
      · split
        · rw [pk_un (by decide), pk_un (by decide), e2]
        · rw [pk_un (by decide), pk_un (by decide), pk_un (by decide), pk_un (by decide), e2]
    · rw [h, if_neg (by decide), pk_un (by decide), pk_un (by decide), pk_us, e2]
  unfold TC
  rw [e, RB_g hF hB (by decide) (by decide)]
  unfold TA
  rw [RA_g hB (by decide) (by decide) (by decide) (by decide)]
theorem stM_25 (hF : F ≤ 3) (hB : B ≤ 3) : stM m F B D P W g v 25 = v 25 + wrM m F B D P W v := by
  unfold stM TM wrM
  rw [pk_un (by decide), pk_un (by decide), pk_un (by decide), pk_un (by decide), pk_un (by decide), TC_25 hF hB, wM_g (by decide), Tw_g (by decide) (by decide)]
/-! many -/
def itC (m : hM) (F B D P W : Nat) (s : (Nat → Int32) × Int64) (N : Nat) : (Nat → Int32) × Int64 := fr (fun _ s => stC m F B D P W s) s N
def itM (m : hM) (F B D P W : Nat) (g : Int32) (v : Nat → Int32) (N : Nat) : Nat → Int32 := fr (fun _ v => stM m F B D P W g v) v N
def wrS (m : hM) (F B D P W : Nat) (g : Int32) (v : Nat → Int32) (N : Nat) : Int32 := sumN (fun i => wrM m F B D P W (itM m F B D P W g v i)) N
theorem RS_it (h : RS B g w x v t) (hm : Lsm m m2) (hl : Ln m 0 F B D P W) : ∀ N, t + N < 2 ^ 30 → RS B g (itC m F B D P W (w, x) N).1 (itC m F B D P W (w, x) N).2 (itM m2 F B D P W g v N) (t + N) := by
  intro N
  induction N with
  | zero => intro _; exact h
  | succ N ih => intro hN; exact RS_step (ih (by omega)) hm hl (by omega)
theorem it_25 (hF : F ≤ 3) (hB : B ≤ 3) : ∀ N, itM m F B D P W g v N 25 = v 25 + wrS m F B D P W g v N := by
  intro N
  induction N with
  | zero => exact (Int32.add_zero _).symm
  | succ N ih =>
    show stM m F B D P W g (itM m F B D P W g v N) 25 = v 25 + (wrS m F B D P W g v N + wrM m F B D P W (itM m F B D P W g v N))
    rw [stM_25 hF hB, ih, Int32.add_assoc]
theorem c_wrongIn {N : Nat} (h : RS B g w x v t) (hl : Ln m 0 F B D P W) (hN : N < 10000) (ht : t < 100000) : JX8_wrongIn n 0 (nI N) (Sm m n w x) = some (some (.inl ((itC m F B D P W (w, x) N).1 25 - w 25)), Sm m n (itC m F B D P W (w, x) N).1 (itC m F B D P W (w, x) N).2) := by
  unfold JX8_wrongIn
  rw [lt_s9, Sm_r (by decide), show ix 18 3 = 25 from rfl]
  refine Eq.trans (lpF (fun f (a : Int32 × hM) => JX8_wrongIn_11 (fun m3 => some (some (.inl ((m3.1 18 n 3) - w 25)), m3)) n 0 (nI N) (w 25) f a.1 a.2) (fun i => (nI i, Sm m n (itC m F B D P W (w, x) i).1 (itC m F B D P W (w, x) i).2)) N (by omega) (by
    intro i f hi
    show bJX8_wrongIn_11 _ _ n 0 _ _ (nI i) _ = _
    unfold bJX8_wrongIn_11
    rw [if_neg (nI_ge hi (by omega)), c_step (RS_it (m2 := m) h (fun _ _ _ _ => rfl) hl i (by omega)) hl, calV_s]
    show JX8_wrongIn_11 _ n 0 _ _ f (nI i + 1) _ = JX8_wrongIn_11 _ n 0 _ _ f _ _
    rw [← nI_succ]
    rfl)) ?_
  show bJX8_wrongIn_11 _ _ n 0 _ _ (nI N) _ = _
  unfold bJX8_wrongIn_11
  rw [if_pos (nI_le (by omega) (by omega))]
  show (some (some (.inl ((Sm m n (itC m F B D P W (w, x) N).1 (itC m F B D P W (w, x) N).2).1 18 n 3 - w 25)), Sm m n (itC m F B D P W (w, x) N).1 (itC m F B D P W (w, x) N).2) : hR) = _
  rw [Sm_r (by decide), show ix 18 3 = 25 from rfl]
theorem VW_it (h : VW B v t) (hF : F ≤ 3) (hB : B ≤ 3) : ∀ N, VW B (itM m F B D P W g v N) (t + N) := by
  intro N
  induction N with
  | zero => exact h
  | succ N ih => exact VW_TM hF hB (VW_wM ih)
theorem m_symbolsT {N : Nat} (h : VW B v t) (hn : m.1 40 0 23 = -1000000000) (hi : m.1 40 0 24 = 1) (hl : LL m F B D P W) (hN : N < 10000) (ht : t < 100000) : JX12_symbols (nI N) (Nm m v) = some (some (.inl (wrS m F B D P W (m.1 40 0 22) v N)), Nm m (itM m F B D P W (m.1 40 0 22) v N)) := by
  unfold JX12_symbols
  have hF : F ≤ 3 := hl.1.2.2.2.2.2.2.1
  have hB : B ≤ 3 := hl.1.2.2.2.2.2.2.2.1
  refine Eq.trans (lpF (fun f (a : Int32 × Int32 × hM) => JX12_symbols_4 (fun v2 m4 => some (some (.inl v2), m4)) (nI N) f a.1 a.2.1 a.2.2) (fun i => (wrS m F B D P W (m.1 40 0 22) v i, nI i, Nm m (itM m F B D P W (m.1 40 0 22) v i))) N (by omega) (by
    intro i f hi2
    show bJX12_symbols_4 _ _ _ _ (nI i) _ = _
    unfold bJX12_symbols_4 JX12_symbols_22
    rw [if_neg (nI_ge hi2 (by omega)), m_stepT (VW_it h hF hB i) (by omega) hn hi hl, calI_s]
    show (if wrM m F B D P W (itM m F B D P W (m.1 40 0 22) v i) = 0 then JX12_symbols_4 _ _ f (_ + 0) (nI i + 1) _ else JX12_symbols_4 _ _ f (_ + 1) (nI i + 1) _) = JX12_symbols_4 _ _ f (wrS m F B D P W (m.1 40 0 22) v i + wrM m F B D P W (itM m F B D P W (m.1 40 0 22) v i)) (nI (i + 1)) _
    rw [← nI_succ]
    have hb : wrM m F B D P W (itM m F B D P W (m.1 40 0 22) v i) = 0 ∨ wrM m F B D P W (itM m F B D P W (m.1 40 0 22) v i) = 1 := Rwr_b _ _
    rcases hb with h | h
    · rw [h, if_pos rfl]; rfl
    · rw [h, if_neg (by decide)]; rfl)) ?_
  show bJX12_symbols_4 _ _ _ _ (nI N) _ = _
  unfold bJX12_symbols_4
  rw [if_pos (nI_le (by omega) (by omega))]
/-- both count the same -/
theorem it_same {N : Nat} (h : RS B g w x v t) (hm : Lsm m m2) (hl : Ln m 0 F B D P W) (hN : N < 10000) (ht : t < 100000) : (itC m F B D P W (w, x) N).1 25 - w 25 = wrS m2 F B D P W g v N := by
  have hF : F ≤ 3 := hl.2.2.2.2.2.2.1
  have hB : B ≤ 3 := hl.2.2.2.2.2.2.2.1
  have e := RS_it h hm hl N (by omega)
  rw [e.1 25 (by decide), it_25 hF hB, h.1 25 (by decide), Int32.add_comm, Int32.add_sub_cancel]
end
