/-! the class's pass -/
def trn (x : Int64) : Int64 := (x * 6364136223846793005) + 1442695040888963407
def drv (y : Int64) (j : Int32) : Int32 := (jlushr y (33 : Int32) - jlushr y (33 : Int32) / j.toInt64 * j.toInt64).toInt32
def dnv (x : Int64) (no : Int32) : Int32 := if no = 0 then 0 else drv (trn x) (2 * no + 1) - no
def dnx (x : Int64) (no : Int32) : Int64 := if no = 0 then x else trn x
theorem k_noise : ∀ k, k < 5 → ¬ (2 * nI k + 1 : Int32) ≤ 0 ∧ ¬ (2 * nI k + 1 : Int32).toInt64 = 0 := by decide +kernel
theorem c_drawnNoise {m : hM} {n k : Nat} {w : Nat → Int32} {x : Int64} (hk : w 20 = nI k) (hk2 : k ≤ 4) : JX8_drawnNoise n (Sm m n w x) = some (some (.inl (dnv x (w 20))), Sm m n w (dnx x (w 20))) := by
  unfold JX8_drawnNoise dnv dnx
  rw [Sm_r (by decide), show ix 12 12 = 20 from rfl]
  by_cases c : k = 0
  · rw [hk, c, if_neg (by decide), if_pos (by decide), if_pos (by decide)]
  · rw [if_pos (by rw [hk]; exact nI_lt (a := 0) (b := k) (by omega) (by omega)), if_neg (by rw [hk]; exact nI_ne0 (by omega) (by omega)), if_neg (by rw [hk]; exact nI_ne0 (by omega) (by omega)), Sm_x, e_turned, calL_s, stL_s, Sm_uL, Sm_x, Sm_r (by decide), show ix 12 12 = 20 from rfl]
    unfold JX11_drawn jlrem
    have e := k_noise k (by omega)
    rw [← hk] at e
    rw [if_neg e.1, if_neg e.2, calI_s, Sm_r (by decide), show ix 12 12 = 20 from rfl]
    rfl
/-- the row when its bit was sent -/
def Tw (m : hM) (ln W : Nat) (w : Nat → Int32) : Nat → Int32 := sbv (nbv m ln W w) (nbw W w)
theorem nbw_g {W k : Nat} {w : Nat → Int32} (h : k ≠ 21) : nbw W w k = w k := by
  unfold nbw
  split
  · rw [pk_un h]
  · rfl
theorem Tw_g {m : hM} {ln W k : Nat} {w : Nat → Int32} (h : k ≠ 21) (h2 : k < 31 ∨ 37 ≤ k) : Tw m ln W w k = w k := by
  unfold Tw sbv
  rw [shv_g (by omega) (by omega), nbw_g h]
theorem c_pass {m : hM} {n ln F B D P W ph k t : Nat} {w : Nat → Int32} {x : Int64} (hp : w 14 = nI ph) (hp2 : ph ≤ 3) (hk : w 20 = nI k) (hk2 : k ≤ 4) (ht : w 18 = nI t) (ht2 : t < 2 ^ 31) (hl : Ln m ln F B D P W) : JX8_pass n ln (Sm m n w x) = some (none, Sm m n (TD m ln F B D P ph (dnv x (w 20)) (w 1088) (Tw m ln W w)) (dnx x (w 20))) := by
  unfold JX8_pass
  rw [c_sendBit ht ht2 hl, calV_s]
  show calI (JX8_drawnNoise n (Sm m n (Tw m ln W w) x)) _ = _
  have e20 : Tw m ln W w 20 = w 20 := Tw_g (by decide) (by decide)
  have e14 : Tw m ln W w 14 = w 14 := Tw_g (by decide) (by decide)
  have eg : Tw m ln W w 1088 = w 1088 := Tw_g (by decide) (by decide)
  rw [c_drawnNoise (k := k) (by rw [e20, hk]) hk2, calI_s, c_receive (ph := ph) (by rw [e14, hp]) hp2 hl, calV_s, e20, eg]
/-! the reference's pieces -/
def Lm (m : hM) (P W : Nat) : Prop := (∀ j, j < 13 → m.1 45 0 j = m.1 5 0 j) ∧ (∀ j, j < P → m.1 46 0 j = m.1 6 0 j) ∧ (∀ j, j < W → m.1 47 0 j = m.1 7 0 j)
section
variable {m : hM} {F B D P W : Nat} {w : Nat → Int32}
theorem m_nextBit {t : Nat} (ht : w 18 = nI t) (ht2 : t < 2 ^ 31) (hl : Ln m 0 F B D P W) (hm : Lm m P W) : JX12_nextBit (Nm m w) = some (some (.inl (nbv m 0 W w)), Nm m (nbw W w)) := by
  obtain ⟨l0, l1, l2, l3, l4, f1, f2, b2, d2, p2, w2⟩ := hl
  unfold JX12_nextBit nbv nbw
  rw [NL12, hm.1 12 (by decide), l4]
  by_cases h : W = 0
  · subst h
    rw [if_pos (by decide), if_pos rfl, if_pos rfl, NR21, NW21]
    rfl
  · rw [if_neg (nI_nle (by omega) (by omega)), if_neg h, if_neg h, NR18, NL12, hm.1 12 (by decide), l4, ht]
    unfold jirem
    rw [if_neg (nI_ne0 (by omega) (by omega)), pk_rem ht2 (by omega) (by omega), nI_clamp ht2]
    have hj : t % W < W := Nat.mod_lt _ (by omega)
    show ald (Nm m w) 47 0 (nI (t % W)) _ = _
    rw [Nbit (t % W) rfl (by omega), hm.2.2 _ hj]
theorem m_clean {ph : Nat} {a : Int32} (ha : a = nI ph) (hp2 : ph ≤ 3) (hl : Ln m 0 F B D P W) (hm : Lm m P W) : JX12_clean a (Nm m w) = some (some (.inl (smv m 0 P ph w)), Nm m w) := by
  obtain ⟨l0, l1, l2, l3, l4, f1, f2, b2, d2, p2, w2⟩ := hl
  subst ha
  unfold JX12_clean
  refine Eq.trans (lpF (fun f (a : Int32 × Int32) => JX12_clean_4 (fun v2 m5 => some (some (.inl v2), m5)) (nI ph) f a.1 a.2 (Nm m w)) (fun i => (sumN (fun k => pav m 0 P (4 * k + ph) * w (31 + k)) i, nI i)) ((P + 3 - ph) / 4) (by omega) (by
    intro i f hi
    show bJX12_clean_4 _ _ _ _ (nI i) _ = _
    unfold bJX12_clean_4
    rw [NL0, hm.1 0 (by decide), l0, show (4 : Int32) * nI i + nI ph = nI (4 * i + ph) from by rw [show (4 : Int32) = nI 4 from rfl, pk_mul, nI_add], if_neg (nI_ge (by omega) (by omega)), Npul (4 * i + ph) rfl (by omega), show (31 : Int32) + nI i = nI (31 + i) from by rw [show (31 : Int32) = nI 31 from rfl, nI_add], Nald (31 + i) rfl (by omega), lt_s9, hm.2.1 _ (by omega)]
    show JX12_clean_4 _ _ f _ (nI i + 1) _ = JX12_clean_4 _ _ f _ _ _
    rw [← nI_succ]
    congr 1
    show _ = sumN _ i + pav m 0 P (4 * i + ph) * w (31 + i)
    unfold pav
    rw [if_pos (by omega)])) ?_
  show bJX12_clean_4 _ _ _ _ (nI ((P + 3 - ph) / 4)) _ = _
  unfold bJX12_clean_4
  rw [NL0, hm.1 0 (by decide), l0, show (4 : Int32) * nI ((P + 3 - ph) / 4) + nI ph = nI (4 * ((P + 3 - ph) / 4) + ph) from by rw [show (4 : Int32) = nI 4 from rfl, pk_mul, nI_add], if_pos (nI_le (by omega) (by omega))]
  unfold smv
  rw [sumN_tail (k := (P + 3 - ph) / 4) 6 (by omega)]
  intro i h1 h2
  unfold pav
  rw [if_neg (by omega), Int32.zero_mul]
/-! sums -/
theorem m_takenOff (hl : Ln m 0 F B D P W) (hm : Lm m P W) : JX12_takenOff (Nm m w) = some (some (.inl (64 * sumN (fun j => w (46 + j) * w (37 + j)) B)), Nm m w) := by
  obtain ⟨l0, l1, l2, l3, l4, f1, f2, b2, d2, p2, w2⟩ := hl
  unfold JX12_takenOff
  refine Eq.trans (lpF (fun f (a : Int32 × Int32) => JX12_takenOff_4 (fun v1 m5 => some (some (.inl (64 * v1)), m5)) f a.1 a.2 (Nm m w)) (fun i => (sumN (fun j => w (46 + j) * w (37 + j)) i, nI i)) B (by omega) (by
    intro i f hi
    show bJX12_takenOff_4 _ _ _ (nI i) _ = _
    unfold bJX12_takenOff_4
    rw [NL2, hm.1 2 (by decide), l2, if_neg (nI_ge (by omega) (by omega)), show (46 : Int32) + nI i = nI (46 + i) from by rw [show (46 : Int32) = nI 46 from rfl, nI_add], Nald (46 + i) rfl (by omega), show (37 : Int32) + nI i = nI (37 + i) from by rw [show (37 : Int32) = nI 37 from rfl, nI_add], Nald (37 + i) rfl (by omega), lt_s9]
    show JX12_takenOff_4 _ f _ (nI i + 1) _ = JX12_takenOff_4 _ f _ _ _
    rw [← nI_succ]
    rfl)) ?_
  show bJX12_takenOff_4 _ _ _ (nI B) _ = _
  unfold bJX12_takenOff_4
  rw [NL2, hm.1 2 (by decide), l2, if_pos (nI_le (by omega) (by omega))]
theorem m_weighNow (hl : Ln m 0 F B D P W) (hm : Lm m P W) : JX12_weighNow (Nm m w) = some (none, Nm m (upd (tbv (upd w 45 (sumN (fun i => w i * w (40 + i)) F)) F B) 44 (sumN (fun i => w i * w (40 + i)) F - 64 * sumN (fun j => tbv (upd w 45 (sumN (fun i => w i * w (40 + i)) F)) F B (46 + j) * tbv (upd w 45 (sumN (fun i => w i * w (40 + i)) F)) F B (37 + j)) B))) := by
  have hl2 := hl
  obtain ⟨l0, l1, l2, l3, l4, f1, f2, b2, d2, p2, w2⟩ := hl
  unfold JX12_weighNow
  generalize hK : (fun v1 m5 => ast m5 50 0 45 v1 fun m6 =>
  JX12_weighNow_51 (fun m11 => calI (JX12_takenOff m11) fun x13 m12 =>
  ast m12 50 0 44 (v1 - x13) fun m14 =>
  some (none, m14)) v1 FU 0 m6) = KK
  refine Eq.trans (lpF (fun f (a : Int32 × Int32) => JX12_weighNow_4 KK f a.1 a.2 (Nm m w)) (fun i => (sumN (fun i => w i * w (40 + i)) i, nI i)) F (by omega) (by
    intro i f hi
    show bJX12_weighNow_4 _ _ _ (nI i) _ = _
    unfold bJX12_weighNow_4
    rw [NL1, hm.1 1 (by decide), l1, if_neg (nI_ge (by omega) (by omega)), show (0 : Int32) + nI i = nI i from Int32.zero_add _, Nald i rfl (by omega), show (40 : Int32) + nI i = nI (40 + i) from by rw [show (40 : Int32) = nI 40 from rfl, nI_add], Nald (40 + i) rfl (by omega), lt_s9]
    show JX12_weighNow_4 _ f _ (nI i + 1) _ = JX12_weighNow_4 _ f _ _ _
    rw [← nI_succ]
    rfl)) ?_
  show bJX12_weighNow_4 _ _ _ (nI F) _ = _
  unfold bJX12_weighNow_4
  rw [NL1, hm.1 1 (by decide), l1, if_pos (nI_le (by omega) (by omega))]
  show KK (sumN (fun i => w i * w (40 + i)) F) (Nm m w) = _
  subst hK
  generalize sumN (fun i => w i * w (40 + i)) F = fs
  show ast (Nm m w) 50 0 45 fs _ = _
  rw [NW45]
  generalize hK : (fun m11 => calI (JX12_takenOff m11) fun x13 m12 => ast m12 50 0 44 (fs - x13) fun m14 => some (none, m14)) = KK
  refine Eq.trans (lpF (fun f (a : Int32 × hM) => JX12_weighNow_51 KK fs f a.1 a.2) (fun i => (nI i, Nm m (tbv (upd w 45 fs) F i))) B (by omega) (by
    intro i f hi
    show bJX12_weighNow_51 _ _ _ (nI i) _ = _
    unfold bJX12_weighNow_51
    rw [NL2, hm.1 2 (by decide), l2, if_neg (nI_ge (by omega) (by omega)), NL1, hm.1 1 (by decide), l1, show ((0 : Int32) + nI F) + nI i = nI (F + i) from by rw [Int32.zero_add, nI_add], Nald (F + i) rfl (by omega), show (46 : Int32) + nI i = nI (46 + i) from by rw [show (46 : Int32) = nI 46 from rfl, nI_add], Nast (46 + i) rfl (by omega)]
    show JX12_weighNow_51 _ _ f (nI i + 1) _ = JX12_weighNow_51 _ _ f _ _
    rw [← nI_succ]
    rfl)) ?_
  show bJX12_weighNow_51 _ _ _ (nI B) _ = _
  unfold bJX12_weighNow_51
  rw [NL2, hm.1 2 (by decide), l2, if_pos (nI_le (by omega) (by omega))]
  show KK _ = _
  subst hK
  show calI (JX12_takenOff _) _ = _
  rw [m_takenOff hl2 hm, calI_s, NW44]
/-! learning -/
theorem m_learn {kp err : Int32} (hl : Ln m 0 F B D P W) (hm : Lm m P W) : JX12_learn err kp (Nm m w) = some (none, Nm m (lev F B (m.1 5 0 10) (m.1 5 0 11) kp err (m.1 40 0 22) (upd w 26 (w 26 + 1)))) := by
  obtain ⟨l0, l1, l2, l3, l4, f1, f2, b2, d2, p2, w2⟩ := hl
  unfold JX12_learn
  rw [NR26, NW26]
  generalize upd w 26 (w 26 + 1) = w
  generalize hg : m.1 40 0 22 = g
  generalize hK1 : (fun m14 => ald m14 45 0 10 fun x15 =>
  if x15 = 1 then (calV (JX12_vote 13 (kp * err) (m14.1 40 0 22) 12 1 99 m14) fun m21 =>
  JX12_learn_158 err kp m21) else (JX12_learn_158 err kp m14)) = K1
  generalize hK : (fun m8 => JX12_learn_67 K1 err kp FU 0 m8) = KK
  refine Eq.trans (lpF (fun f (a : Int32 × hM) => JX12_learn_13 KK err kp f a.1 a.2) (fun i => (nI i, Nm m (fr (lfv err g) w i))) F (by omega) (by
    intro i f hi
    show bJX12_learn_13 _ _ _ _ (nI i) _ = _
    unfold bJX12_learn_13
    rw [NL1, hm.1 1 (by decide), l1, if_neg (nI_ge (by omega) (by omega)), show (40 : Int32) + nI i = nI (40 + i) from by rw [show (40 : Int32) = nI 40 from rfl, nI_add], Nald (40 + i) rfl (by omega), e_sign, calI_s, Nm_o (by decide), hg, m_vote (vi := 6 + i) (ai := i) (by rw [show (6 : Int32) = nI 6 from rfl, nI_add]) (Int32.zero_add _) (by omega) (by omega) (by omega), calV_s]
    show JX12_learn_13 _ _ _ f (nI i + 1) _ = JX12_learn_13 _ _ _ f _ _
    rw [← nI_succ]
    rfl)) ?_
  show bJX12_learn_13 _ _ _ _ (nI F) _ = _
  unfold bJX12_learn_13
  rw [NL1, hm.1 1 (by decide), l1, if_pos (nI_le (by omega) (by omega))]
  show KK _ = _
  subst hK
  show JX12_learn_67 K1 err kp FU 0 _ = _
  refine Eq.trans (lpF (fun f (a : Int32 × hM) => JX12_learn_67 K1 err kp f a.1 a.2) (fun i => (nI i, Nm m (fr (lbv F err g) (fr (lfv err g) w F) i))) B (by omega) (by
    intro i f hi
    show bJX12_learn_67 _ _ _ _ (nI i) _ = _
    unfold bJX12_learn_67
    rw [NL2, hm.1 2 (by decide), l2, if_neg (nI_ge (by omega) (by omega)), NL1, hm.1 1 (by decide), l1, show (37 : Int32) + nI i = nI (37 + i) from by rw [show (37 : Int32) = nI 37 from rfl, nI_add], Nald (37 + i) rfl (by omega), NL1, hm.1 1 (by decide), l1, Nm_o (by decide), hg, m_vote (vi := 6 + (F + i)) (ai := F + i) (by rw [show (6 : Int32) = nI 6 from rfl, nI_add, nI_add, Nat.add_assoc]) (by rw [Int32.zero_add, nI_add]) (by omega) (by omega) (by omega), calV_s]
    show JX12_learn_67 _ _ _ f (nI i + 1) _ = JX12_learn_67 _ _ _ f _ _
    rw [← nI_succ]
    rfl)) ?_
  show bJX12_learn_67 _ _ _ _ (nI B) _ = _
  unfold bJX12_learn_67
  rw [NL2, hm.1 2 (by decide), l2, if_pos (nI_le (by omega) (by omega))]
  show K1 _ = _
  subst hK1
  unfold lev
  generalize fr (lbv F err g) (fr (lfv err g) w F) B = v
  have last : ∀ v : Nat → Int32, JX12_learn_158 err kp (Nm m v) = some (none, Nm m (lkv (m.1 5 0 11) kp err v)) := by
    intro v
    unfold JX12_learn_158 lkv
    rw [NL11, hm.1 11 (by decide)]
    by_cases c : m.1 5 0 11 ≤ 0
    · rw [if_pos c, if_pos c]
    · rw [if_neg c, if_neg c, NR37, NR43, NL11, hm.1 11 (by decide), m_vote (a1 := 15) (a4 := 14) (vi := 15) (ai := 14) rfl rfl (by decide) (by decide) (by decide), calV_s]
  show (ald (Nm m v) 45 0 10 fun x15 => if x15 = 1 then (calV (JX12_vote 13 (kp * err) ((Nm m v).1 40 0 22) 12 1 99 (Nm m v)) fun m21 => JX12_learn_158 err kp m21) else (JX12_learn_158 err kp (Nm m v))) = _
  rw [NL10, hm.1 10 (by decide)]
  unfold ltv
  by_cases c : m.1 5 0 10 = 1
  · rw [if_pos c, if_pos c, Nm_o (by decide), hg, m_vote (a1 := 13) (a4 := 12) (vi := 13) (ai := 12) rfl rfl (by decide) (by decide) (by decide), calV_s, last]
  · rw [if_neg c, if_neg c, last]
/-! runs -/
theorem m_runOn {wr : Int32} {r : Nat} (hr : w 30 = nI r) (hr2 : nI r + 1 < hmx (nI B) 1 ∨ nI r + 1 = hmx (nI B) 1) (hr3 : hmx 1 (nI B) = hmx (nI B) 1) (hl : Ln m 0 F B D P W) (hm : Lm m P W) : JX12_runOn wr (Nm m w) = some (none, Nm m (jgv wr (nI B) w)) := by
  obtain ⟨l0, l1, l2, l3, l4, f1, f2, b2, d2, p2, w2⟩ := hl
  unfold JX12_runOn jgv
  by_cases c : wr = 0
  · rw [if_pos c, if_pos c, NR29]
    by_cases c2 : w 29 ≤ 0
    · rw [if_pos c2, if_pos c2]
    · rw [if_neg c2, if_neg c2, NR29, NW29, NR30, NW30, NR30, NL2, hm.1 2 (by decide), l2, e_max, calI_s, hr3, pk_un (show 30 ≠ 29 by decide), pk_us, hr]
      rcases hr2 with h | h
      · rw [if_pos h, if_neg (show ¬ nI r + 1 = hmx (nI B) 1 from fun e => by rw [e] at h; exact absurd h Int32.lt_irrefl)]
      · rw [if_neg (show ¬ nI r + 1 < hmx (nI B) 1 from fun e => by rw [h] at e; exact absurd e Int32.lt_irrefl), if_pos h, NR27, NW27, NR28, NR29, NR30, e_max, calI_s, NW28, NW29, NW30]
        congr 3
        funext k
        simp only [upd_a, Nat.reduceEqDiff, if_true, if_false]
        repeat' split
        all_goals first | rfl | omega
  · rw [if_neg c, if_neg c, NR25, NW25, NR29, NW29, NW30, pk_un (show 29 ≠ 25 by decide)]
end
