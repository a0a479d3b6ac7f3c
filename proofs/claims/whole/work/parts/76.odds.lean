/-! odds -/
def noN (v : Nat → Int32) : Nat := (v 20).toNatClampNeg
def oW (m : hM) (F B D P W : Nat) (v : Nat → Int32) (i : Nat) : Int32 := Twr m 0 F B D P (phN v) (nI i - nI (noN v)) (Tw m 0 W v)
def oR (m : hM) (F B D P W : Nat) (g : Int32) (v : Nat → Int32) (i : Nat) : Nat → Int32 := TM m F B D P (phN v) (nI i - nI (noN v)) g (Tw m 0 W v)
def oC (m : hM) (F B D P W : Nat) (g : Int32) : Nat → (Nat → Int32) → Int32
  | 0, _ => 1
  | l + 1, v => sumN (fun i => if oW m F B D P W v i = 0 then oC m F B D P W g l (oR m F B D P W g v i) else 0) (2 * noN v + 1)
section
variable {m m2 : hM} {F B D P W t : Nat} {g : Int32} {v w : Nat → Int32} {x : Int64}
theorem no_of (h : VW B v t) : v 20 = nI (noN v) ∧ noN v ≤ 4 := by
  obtain ⟨j, hj, e⟩ := bw_n (n := 4) h.2.2.2.2.2.1
  unfold noN
  rw [e, nI_clamp (by omega)]
  exact ⟨rfl, hj⟩
theorem oW_b (i : Nat) : oW m F B D P W v i = 0 ∨ oW m F B D P W v i = 1 := Rwr_b _ _
theorem oW_m (hm : Lsm m m2) (hF : F ≤ 3) (hB : B ≤ 3) (hD : D ≤ 2) (i : Nat) : oW m F B D P W v i = oW m2 F B D P W v i := by
  unfold oW
  rw [Tw_m hm, q_Twr (m := m) (m2 := m2) (w := Tw m2 0 W v) (v := Tw m2 0 W v) (fun _ _ => rfl) hm hF hB hD]
theorem oR_m (hm : Lsm m m2) (hF : F ≤ 3) (hB : B ≤ 3) (hD : D ≤ 2) (i : Nat) : oR m F B D P W g v i = oR m2 F B D P W g v i := by
  unfold oR TM
  rw [Tw_m hm, TC_m hm hF hB hD, q_Tz (m := m) (m2 := m2) (w := Tw m2 0 W v) (v := Tw m2 0 W v) (fun _ _ => rfl) hm hF hB, q_Ter (m := m) (m2 := m2) (w := Tw m2 0 W v) (v := Tw m2 0 W v) (fun _ _ => rfl) hm hF hB hD]
theorem oR_vw (h : VW B v t) (hF : F ≤ 3) (hB : B ≤ 3) (i : Nat) : VW B (oR m F B D P W g v i) (t + 1) := VW_TM hF hB (VW_Tw h)
theorem oR_g (hF : F ≤ 3) (hB : B ≤ 3) {k : Nat} (hk : 49 ≤ k) (i : Nat) : oR m F B D P W g v i k = v k := by
  unfold oR
  rw [TM_g hF hB hk, Tw_g (by omega) (by omega)]
theorem phT : phN (Tw m 0 W v) = phN v := by
  unfold phN
  rw [Tw_g (by decide) (by decide)]
/-- whether a State would err -/
theorem c_would {n : Nat} {ph : Nat} {nz : Int32} (hp : w 14 = nI ph) (hp2 : ph ≤ 3) (hl : Ln m 0 F B D P W) : JX8_wouldErr n 0 nz (Sm m n w x) = some (some (.inl (Twr m 0 F B D P ph nz w)), Sm m n w x) := by
  unfold JX8_wouldErr JX8_wouldErr_41
  rw [c_sampleWith hp hp2 hl, calI_s, c_foreSum hl, calI_s, c_backSum hl, calI_s, lt_s9, c_truthNow hl, calI_s]
  show _ = (some (some (.inl (Rwr (w (31 + D)) (Rdec (Tz m 0 F B P ph nz w)))), _) : hR)
  have ez : fsv w (if w 22 = 0 then nz + smv m 0 P ph w else 0) F - bsv w F B = Tz m 0 F B P ph nz w := rfl
  rw [ez]
  unfold Rwr Rdec
  by_cases c0 : w (31 + D) = 0
  · rw [if_pos c0, if_pos c0, jretZ_0]
  · rw [if_neg c0, if_neg c0]
    by_cases c1 : Tz m 0 F B P ph nz w < 0
    · rw [if_pos c1, if_pos c1]
      by_cases c2 : w (31 + D) = -1
      · rw [if_pos c2, if_pos c2.symm, jretZ_0]
      · rw [if_neg c2, if_neg (fun z => c2 z.symm), jretZ_1]
    · rw [if_neg c1, if_neg c1]
      by_cases c2 : w (31 + D) = 1
      · rw [if_pos c2, if_pos c2.symm, jretZ_0]
      · rw [if_neg c2, if_neg (fun z => c2 z.symm), jretZ_1]
/-- States from n on may differ -/
def Ss (n : Nat) (m m2 : hM) : Prop := (∀ a b k, ¬ (12 ≤ a ∧ a ≤ 19 ∧ n ≤ b) → m2.1 a b k = m.1 a b k) ∧ ∀ a b k, ¬ (a = 12 ∧ n ≤ b) → m2.2 a b k = m.2 a b k
theorem Ss_r (n : Nat) (m : hM) : Ss n m m := ⟨fun _ _ _ _ => rfl, fun _ _ _ _ => rfl⟩
theorem Ss_t {n k : Nat} {a b c : hM} (h : Ss n a b) (h2 : Ss k b c) (hk : n ≤ k) : Ss n a c := ⟨fun x y z q => (h2.1 x y z (by omega)).trans (h.1 x y z q), fun x y z q => (h2.2 x y z (by omega)).trans (h.2 x y z q)⟩
theorem Ss_Sm {n : Nat} {m : hM} {w : Nat → Int32} {x : Int64} : Ss n m (Sm m n w x) := ⟨fun a b k q => if_neg (by omega), fun a b k q => if_neg (by omega)⟩
theorem Ss_Ln {n : Nat} {m m2 : hM} (h : Ss n m m2) (hl : Ln m 0 F B D P W) : Ln m2 0 F B D P W := Ln_w (fun c => h.1 5 0 c (by omega)) hl
theorem Ss_vec {n k : Nat} {m m2 : hM} (h : Ss n m m2) (hk : k < n) : vec m2 k = vec m k ∧ m2.2 12 k 17 = m.2 12 k 17 := by
  refine ⟨?_, h.2 12 k 17 (by omega)⟩
  funext i
  unfold vec
  exact h.1 _ _ _ (by omega)
theorem sw_neg {no i : Nat} (hn : no ≤ 4) (hi : i ≤ 2 * no) : ¬ nI no < nI i - nI no := by
  rw [Int32.lt_iff_toInt_lt, pk_sub_toInt (by omega) (by omega), nI_toInt (by omega)]
  omega
theorem sw_end {no : Nat} (hn : no ≤ 4) : nI no < nI (2 * no + 1) - nI no := by
  rw [pk_sub (by omega)]
  exact nI_lt (by omega) (by omega)
theorem sw_nx {no i : Nat} : nI i - nI no + 1 = nI (i + 1) - nI no := by
  rw [nI_succ, Int32.sub_eq_add_neg, Int32.sub_eq_add_neg, Int32.add_assoc, Int32.add_assoc, Int32.add_comm 1]
theorem aal35 {d : Nat} {K : Nat → hR} (h : d < 4) : aal 35 (nI d) K = K d := by
  unfold aal
  rw [if_pos ⟨by decide, inb_nI (show d < sLen 35 0 from h) (sLen_le _ _)⟩, nI_clamp (by omega)]
/-- the class counts -/
theorem c_odds {N : Nat} (hN : N ≤ 4) : ∀ l d q M v t, d + (l + 1) = N → l < q → Ln M 0 F B D P W → Lsm M m → t + l < 100000 → RS B g (vec M (42 + d)) (M.2 12 (42 + d) 17) v t → F ≤ 3 → B ≤ 3 → D ≤ 2 → ∃ m2, JX0_rightBehind q 0 (nI d) (nI N) M = some (some (.inl (oC m F B D P W g (l + 1) v)), m2) ∧ Ss (42 + d) M m2 := by
  intro l
  induction l with
  | zero =>
    intro d q M v t hd hq hl hm ht h hF hB hD
    obtain ⟨q, rfl⟩ : ∃ x, q = x + 1 := ⟨q - 1, by omega⟩
    have hv := VW_q h.1 h.2.2.1
    have no := no_of h.2.2.1
    have e20 : vec M (42 + d) 20 = nI (noN v) := by rw [h.1 20 (by decide)]; exact no.1
    have sb := c_sendBit (m := M) (n := 42 + d) (ln := 0) (w := vec M (42 + d)) (x := M.2 12 (42 + d) 17) hv.2.2.2.2.2.2.2.2 (by omega) hl
    rw [Sm_self] at sb
    have hp := ph_of hv.2.2.1
    have hph : phN (vec M (42 + d)) = phN v := (RS_ph h).1
    have tw14 : Tw M 0 W (vec M (42 + d)) 14 = nI (phN v) := by rw [Tw_g (by decide) (by decide), ← hph]; exact hp.1
    have qT : Eq9 (Tw M 0 W (vec M (42 + d))) (Tw m 0 W v) := q_Tw h.1 hm
    have w3 : hwi (nI d) 0 3 = 1 := by
      have e : ∀ d, d < 4 → hwi (nI d) 0 3 = 1 := by decide +kernel
      exact e d (by omega)
    refine ⟨Sm M (42 + d) (Tw M 0 W (vec M (42 + d))) (M.2 12 (42 + d) 17), ?_, Ss_Sm⟩
    show JX0_rightBehindB _ 0 (nI d) (nI N) M = _
    unfold JX0_rightBehindB
    rw [e_within, calI_s, w3, if_neg (by decide)]
    unfold aal
    rw [if_pos ⟨by decide, inb_nI (show d < sLen 35 0 from (show d < 4 by omega)) (sLen_le _ _)⟩, nI_clamp (by omega)]
    show calV (JX8_sendBit (42 + d) 0 M) _ = _
    rw [sb, calV_s]
    show lt (-((Sm M (42 + d) (Tw M 0 W (vec M (42 + d))) (M.2 12 (42 + d) 17)).1 12 (42 + d) 12)) _ = _
    have r20 : (Sm M (42 + d) (Tw M 0 W (vec M (42 + d))) (M.2 12 (42 + d) 17)).1 12 (42 + d) 12 = nI (noN v) := by rw [Sm_r (by decide), show ix 12 12 = 20 from rfl, Tw_g (by decide) (by decide)]; exact e20
    rw [lt_s9, r20, show -(nI (noN v)) = nI 0 - nI (noN v) from by show _ = (0 : Int32) - nI (noN v); rw [Int32.zero_sub]]
    refine Eq.trans (lpF (fun f (a : Int32 × Int32) => JX0_rightBehindB_36 (JX0_rightIfHeardB (JX0_rightBehind q)) (fun v5 m11 => some (some (.inl v5), m11)) 0 (nI d) (nI N) (42 + d) f a.1 a.2 (Sm M (42 + d) (Tw M 0 W (vec M (42 + d))) (M.2 12 (42 + d) 17))) (fun i => (sumN (fun i => if oW m F B D P W v i = 0 then oC m F B D P W g 0 (oR m F B D P W g v i) else 0) i, nI i - nI (noN v))) (2 * noN v + 1) (by omega) (by
      intro i f hi
      show bJX0_rightBehindB_36 _ _ _ _ _ _ _ _ _ _ = JX0_rightBehindB_36 _ _ _ _ _ _ f (sumN (fun i => if oW m F B D P W v i = 0 then oC m F B D P W g 0 (oR m F B D P W g v i) else 0) i + (if oW m F B D P W v i = 0 then 1 else 0)) (nI (i + 1) - nI (noN v)) _
      generalize sumN (fun i => if oW m F B D P W v i = 0 then oC m F B D P W g 0 (oR m F B D P W g v i) else 0) i = s
      unfold bJX0_rightBehindB_36 JX0_rightBehindB_79 JX0_rightBehindB_82
      have ew : Twr M 0 F B D P (phN v) (nI i - nI (noN v)) (Tw M 0 W (vec M (42 + d))) = oW m F B D P W v i := q_Twr qT hm hF hB hD
      have cl : ¬ nI d + 1 < nI N := by rw [← nI_succ]; exact nI_nlt (by omega) (by omega)
      show (if (Sm M (42 + d) (Tw M 0 W (vec M (42 + d))) (M.2 12 (42 + d) 17)).1 12 (42 + d) 12 < nI i - nI (noN v) then _ else _) = _
      rw [r20, if_neg (sw_neg no.2 (by omega)), c_would tw14 (by rw [← hph]; exact hp.2) hl, calI_s, ew, if_neg cl, lt_s9, sw_nx]
      by_cases c : oW m F B D P W v i = 0
      · rw [if_pos c, if_pos c]
      · rw [if_neg c, if_neg c, Int32.add_zero])) ?_
    show bJX0_rightBehindB_36 _ _ _ _ _ _ _ _ (nI (2 * noN v + 1) - nI (noN v)) _ = _
    unfold bJX0_rightBehindB_36
    rw [r20, if_pos (sw_end no.2)]
    rfl
  | succ l ih =>
    intro d q M v t hd hq hl hm ht h hF hB hD
    obtain ⟨q, rfl⟩ : ∃ x, q = x + 1 := ⟨q - 1, by omega⟩
    have hv := VW_q h.1 h.2.2.1
    have no := no_of h.2.2.1
    have e20 : vec M (42 + d) 20 = nI (noN v) := by rw [h.1 20 (by decide)]; exact no.1
    have sb := c_sendBit (m := M) (n := 42 + d) (ln := 0) (w := vec M (42 + d)) (x := M.2 12 (42 + d) 17) hv.2.2.2.2.2.2.2.2 (by omega) hl
    rw [Sm_self] at sb
    have hp := ph_of hv.2.2.1
    have hph : phN (vec M (42 + d)) = phN v := (RS_ph h).1
    have qT : Eq9 (Tw M 0 W (vec M (42 + d))) (Tw m 0 W v) := q_Tw h.1 hm
    have w3 : hwi (nI d) 0 3 = 1 := by
      have e : ∀ d, d < 4 → hwi (nI d) 0 3 = 1 := by decide +kernel
      exact e d (by omega)
    have w2' : hwi (nI d) 0 2 = 1 := by
      have e : ∀ d, d < 3 → hwi (nI d) 0 2 = 1 := by decide +kernel
      exact e d (by omega)
    have sbT : JX8_sendBit (42 + d) 0 M = some (none, Sm M (42 + d) (Tw M 0 W (vec M (42 + d))) (M.2 12 (42 + d) 17)) := sb
    have vwT : VW B (Tw m 0 W v) t := VW_Tw h.2.2.1
    -- the State behind its bit
    have M1v := vec_Sm (m := M) (n := 42 + d) (w := Tw M 0 W (vec M (42 + d))) (x := M.2 12 (42 + d) 17)
    have M1x : (Sm M (42 + d) (Tw M 0 W (vec M (42 + d))) (M.2 12 (42 + d) 17)).2 12 (42 + d) 17 = M.2 12 (42 + d) 17 := Sm_x
    have M1s : Ss (42 + d) M (Sm M (42 + d) (Tw M 0 W (vec M (42 + d))) (M.2 12 (42 + d) 17)) := Ss_Sm
    generalize hM1 : Sm M (42 + d) (Tw M 0 W (vec M (42 + d))) (M.2 12 (42 + d) 17) = M1 at M1v M1x M1s sbT
    have b1 : Eq9 (vec M1 (42 + d)) (Tw m 0 W v) := fun k hk => (M1v.1 k hk).trans (qT k hk)
    have gk : vec M1 (42 + d) 1088 = g := by rw [M1v.2, Tw_g (by decide) (by decide)]; exact h.2.2.2.1
    have one : ∀ (i : Nat) (X : hM) (s : Int32), i ≤ 2 * noN v → Ss (43 + d) M1 X → ∃ X2, Ss (43 + d) M1 X2 ∧ ∀ K f, JX0_rightBehindB_36 (JX0_rightIfHeardB (JX0_rightBehind q)) K 0 (nI d) (nI N) (42 + d) (f + 1) s (nI i - nI (noN v)) X = JX0_rightBehindB_36 (JX0_rightIfHeardB (JX0_rightBehind q)) K 0 (nI d) (nI N) (42 + d) f (s + (if oW m F B D P W v i = 0 then oC m F B D P W g (l + 1) (oR m F B D P W g v i) else 0)) (nI (i + 1) - nI (noN v)) X2 := by
      intro i X s hi hX
      have xv := Ss_vec hX (k := 42 + d) (by omega)
      have hlX : Ln X 0 F B D P W := Ss_Ln hX (Ss_Ln M1s hl)
      have hmX : Lsm X m := fun a c x y => by rw [hX.1 a 0 c (by omega), M1s.1 a 0 c (by omega)]; exact hm a c x y
      have x20 : X.1 12 (42 + d) 12 = nI (noN v) := by
        rw [vec_at (by decide), xv.1, show ix 12 12 = 20 from rfl, b1 20 (by decide), Tw_g (by decide) (by decide)]
        exact no.1
      have x14 : vec X (42 + d) 14 = nI (phN v) := by
        rw [xv.1, b1 14 (by decide), Tw_g (by decide) (by decide), ← hph]
        have := hp.1
        rw [h.1 14 (by decide)] at this
        exact this
      have eX : Eq9 (vec X (42 + d)) (Tw m 0 W v) := by rw [xv.1]; exact b1
      have ew : Twr X 0 F B D P (phN v) (nI i - nI (noN v)) (vec X (42 + d)) = oW m F B D P W v i := q_Twr eX hmX hF hB hD
      have wd := c_would (m := X) (n := 42 + d) (w := vec X (42 + d)) (x := X.2 12 (42 + d) 17) (ph := phN v) (nz := nI i - nI (noN v)) x14 (by rw [← hph]; exact hp.2) hlX
      rw [Sm_self, ew] at wd
      have cl : nI d + 1 < nI N := by rw [← nI_succ]; exact nI_lt (by omega) (by omega)
      by_cases c : oW m F B D P W v i = 0
      · have vX := VW_q eX vwT
        obtain ⟨w2, y1, y2, y3, _⟩ := c_copy (m := X) (n := 42 + (d + 1)) (n1 := 42 + d) (by omega) (bw_01 vX.2.2.2.2.1) (bw_01 vX.2.2.2.1) (bw_01 vX.2.2.2.2.2.2.1)
        have e2 : Eq9 w2 (Tw m 0 W v) := fun k hk => (y2 k hk).trans (eX k hk)
        have w14 : w2 14 = nI (phN v) := by rw [y2 14 (by decide)]; exact x14
        have rc := c_receive (m := X) (n := 42 + (d + 1)) (ln := 0) (w := w2) (x := X.2 12 (42 + d) 17) (nz := nI i - nI (noN v)) w14 (by rw [← hph]; exact hp.2) hlX
        have g2 : w2 1088 = g := by rw [y3, xv.1]; exact gk
        rw [g2] at rc
        have rs : RS B g (TD X 0 F B D P (phN v) (nI i - nI (noN v)) g w2) (X.2 12 (42 + d) 17) (oR m F B D P W g v i) (t + 1) := by
          refine ⟨q_sym e2 hmX hF hB hD, ?_, oR_vw h.2.2.1 hF hB i, ?_, by omega⟩
          · rw [oR_g hF hB (by decide), oR_g hF hB (by decide), xv.2, M1x]
            exact h.2.1
          · unfold TD RD
            rw [pk_un (by decide), pk_un (by decide), pk_un (by decide), pk_un (by decide), pk_un (by decide), pk_un (by decide), pk_un (by decide), TC_g hF hB (by decide) (by decide) (by decide) (by decide)]
            exact g2
        have Yv := vec_Sm (m := X) (n := 42 + (d + 1)) (w := TD X 0 F B D P (phN v) (nI i - nI (noN v)) g w2) (x := X.2 12 (42 + d) 17)
        have Yx : (Sm X (42 + (d + 1)) (TD X 0 F B D P (phN v) (nI i - nI (noN v)) g w2) (X.2 12 (42 + d) 17)).2 12 (42 + (d + 1)) 17 = X.2 12 (42 + d) 17 := Sm_x
        have Ys : Ss (43 + d) X (Sm X (42 + (d + 1)) (TD X 0 F B D P (phN v) (nI i - nI (noN v)) g w2) (X.2 12 (42 + d) 17)) := by
          rw [show 43 + d = 42 + (d + 1) from by omega]
          exact Ss_Sm
        generalize hY : Sm X (42 + (d + 1)) (TD X 0 F B D P (phN v) (nI i - nI (noN v)) g w2) (X.2 12 (42 + d) 17) = Y at rc Yv Yx Ys
        obtain ⟨Z, z1, z2⟩ := ih (d + 1) q Y (oR m F B D P W g v i) (t + 1) (by omega) (by omega) (Ss_Ln Ys hlX) (fun a c x y => by rw [Ys.1 a 0 c (by omega)]; exact hmX a c x y) (by omega) (by rw [Yx]; exact RS_g rs Yv.1 Yv.2) hF hB hD
        refine ⟨Z, Ss_t (Ss_t hX Ys (Nat.le_refl _)) z2 (by omega), fun K f => ?_⟩
        show bJX0_rightBehindB_36 _ _ _ _ _ _ _ _ _ _ = _
        unfold bJX0_rightBehindB_36 JX0_rightBehindB_79 JX0_rightBehindB_82
        rw [x20, if_neg (sw_neg no.2 hi), wd, calI_s, if_pos c, if_pos cl, if_pos c, sw_nx]
        have heard : JX0_rightIfHeardB (JX0_rightBehind q) 0 (nI d) (nI N) (nI i - nI (noN v)) X = some (some (.inl (oC m F B D P W g (l + 1) (oR m F B D P W g v i))), Z) := by
          unfold JX0_rightIfHeardB
          rw [e_within, calI_s, w2', if_neg (by decide), ← nI_succ]
          rw [aal35 (by omega), aal35 (by omega)]
          show calV (JX8_copy (42 + (d + 1)) (42 + d) X) _ = _
          rw [y1, calV_s]
          show calV (JX8_receive (42 + (d + 1)) 0 (nI i - nI (noN v)) _) _ = _
          rw [rc, calV_s, z1, calI_s]
        rw [heard, calI_s, lt_s9]
      · refine ⟨X, hX, fun K f => ?_⟩
        show bJX0_rightBehindB_36 _ _ _ _ _ _ _ _ _ _ = _
        unfold bJX0_rightBehindB_36 JX0_rightBehindB_82
        rw [x20, if_neg (sw_neg no.2 hi), wd, calI_s, if_neg c, if_neg c, Int32.add_zero, sw_nx]
    have all : ∀ i, i ≤ 2 * noN v + 1 → ∃ X, Ss (43 + d) M1 X ∧ ∀ K f, JX0_rightBehindB_36 (JX0_rightIfHeardB (JX0_rightBehind q)) K 0 (nI d) (nI N) (42 + d) (f + i) 0 (nI 0 - nI (noN v)) M1 = JX0_rightBehindB_36 (JX0_rightIfHeardB (JX0_rightBehind q)) K 0 (nI d) (nI N) (42 + d) f (sumN (fun i => if oW m F B D P W v i = 0 then oC m F B D P W g (l + 1) (oR m F B D P W g v i) else 0) i) (nI i - nI (noN v)) X := by
      intro i
      induction i with
      | zero => intro _; exact ⟨M1, Ss_r _ _, fun _ _ => rfl⟩
      | succ i ihi =>
        intro hi
        obtain ⟨X, x1, x2⟩ := ihi (by omega)
        obtain ⟨X2, y1, y2⟩ := one i X (sumN (fun i => if oW m F B D P W v i = 0 then oC m F B D P W g (l + 1) (oR m F B D P W g v i) else 0) i) (by omega) x1
        refine ⟨X2, y1, fun K f => ?_⟩
        rw [show f + (i + 1) = f + 1 + i from by omega, x2, y2]
        rfl
    obtain ⟨X, x1, x2⟩ := all (2 * noN v + 1) (Nat.le_refl _)
    have x20 : X.1 12 (42 + d) 12 = nI (noN v) := by
      rw [vec_at (by decide), (Ss_vec x1 (k := 42 + d) (by omega)).1, show ix 12 12 = 20 from rfl, b1 20 (by decide), Tw_g (by decide) (by decide)]
      exact no.1
    have m20 : M1.1 12 (42 + d) 12 = nI (noN v) := by
      rw [vec_at (by decide), show ix 12 12 = 20 from rfl, b1 20 (by decide), Tw_g (by decide) (by decide)]
      exact no.1
    refine ⟨X, ?_, Ss_t M1s x1 (by omega)⟩
    show JX0_rightBehindB _ 0 (nI d) (nI N) M = _
    unfold JX0_rightBehindB
    rw [e_within, calI_s, w3, if_neg (by decide)]
    unfold aal
    rw [if_pos ⟨by decide, inb_nI (show d < sLen 35 0 from (show d < 4 by omega)) (sLen_le _ _)⟩, nI_clamp (by omega)]
    show calV (JX8_sendBit (42 + d) 0 M) _ = _
    rw [sbT, calV_s]
    show lt (-(M1.1 12 (42 + d) 12)) _ = _
    rw [lt_s9, m20, show -(nI (noN v)) = nI 0 - nI (noN v) from by show _ = (0 : Int32) - nI (noN v); rw [Int32.zero_sub], show FU = 100000 - (2 * noN v + 1) - 1 + 1 + (2 * noN v + 1) from by rw [FU_eq]; have := no.2; omega, x2]
    show bJX0_rightBehindB_36 _ _ _ _ _ _ _ _ (nI (2 * noN v + 1) - nI (noN v)) _ = _
    unfold bJX0_rightBehindB_36
    rw [x20, if_pos (sw_end no.2)]
    rfl
end
