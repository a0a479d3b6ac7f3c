/-! the reference's symbol -/
def TM (m : hM) (F B D P ph : Nat) (nz g : Int32) (w : Nat → Int32) : Nat → Int32 := upd (upd (upd (upd (upd (TC m 0 F B D P ph nz g w) 22 0) 44 (Tz m 0 F B P ph nz w)) 19 (hmx (w 19 - 1) 0)) 43 (Ter m 0 F B D P ph nz w)) 18 (w 18 + 1)
theorem hrv_b {w : Nat → Int32} {q : Int32} (h : w 17 = 0 ∨ w 17 = 1) : hrv w q 17 = 0 ∨ hrv w q 17 = 1 := by
  unfold hrv
  repeat' split
  all_goals simp only [upd_a, Nat.reduceEqDiff, if_true, if_false]
  all_goals first | exact h | exact Or.inl trivial | exact Or.inr trivial
section
variable {m : hM} {F B D P W ph : Nat} {w : Nat → Int32}
theorem m_51 {b nz v2 ms : Int32} (hv2 : v2 = nz + smv m 0 P ph w) (hms : ms = w 22) (hg : gdv B (w 30)) (hd : w 17 = 0 ∨ w 17 = 1) (hl : Ln m 0 F B D P W) (hm : Lm m P W) :
    JX12_symbol_51 b v2 ms (Nm m w) = nte (if w 22 = 0 then Rsm m 0 P ph nz w else -1000000000) (Rmk b (Tdec m 0 F B P ph nz w) (Twr m 0 F B D P ph nz w) (TA m 0 F B P ph nz w 17) (Tls m 0 F B P ph nz w) (Ttr D w)) (Twr m 0 F B D P ph nz w) (Nm m (TM m F B D P ph nz (m.1 40 0 22) w)) := by
  have hl2 := hl
  obtain ⟨l0, l1, l2, l3, l4, f1, f2, b2, d2, p2, w2⟩ := hl
  have hFB : F + B ≤ 6 := by omega
  unfold JX12_symbol_51
  rw [NW22]
  have e1 : (if ms = 0 then JX12_symbol_73 b v2 ms v2 3 40 (Nm m (upd w 22 0)) else JX12_symbol_73 b v2 ms 0 3 40 (Nm m (upd w 22 0))) = JX12_symbol_73 b v2 ms (Rsm m 0 P ph nz w) 3 40 (Nm m (upd w 22 0)) := by
    unfold Rsm
    rw [hms, ← hv2]
    by_cases c : w 22 = 0
    · rw [if_pos c, if_pos c]
    · rw [if_neg c, if_neg c]
  rw [e1]
  unfold JX12_symbol_73
  rw [show (40 : Int32) = nI 40 from rfl, show (3 : Int32) = nI (2 + 1) from rfl, e_shift (by decide), calV_s, m_weighNow hl2 hm, calV_s]
  generalize hsm : Rsm m 0 P ph nz w = sm
  have efs : sumN (fun i => shv (upd w 22 0) 40 (2 + 1) sm i * shv (upd w 22 0) 40 (2 + 1) sm (40 + i)) F = fsv w sm F := by
    unfold fsv
    apply sumN_congr
    intro i hi
    rw [shv_g (by omega) (by omega), pk_un (by omega)]
    congr 1
    show (if 40 + i = 40 then sm else if 40 < 40 + i ∧ 40 + i < 40 + (2 + 1) then upd w 22 0 (40 + i - 1) else upd w 22 0 (40 + i)) = _
    by_cases c : i = 0
    · rw [if_pos (by omega), if_pos c]
    · rw [if_neg (by omega), if_neg c, if_pos (by omega), pk_un (by omega)]
      congr 1
      omega
  rw [efs]
  generalize hfs : fsv w sm F = fs
  have eS : tbv (upd (shv (upd w 22 0) 40 (2 + 1) sm) 45 fs) F B = upd (shv (tbv (upd w 45 fs) F B) 40 3 sm) 22 0 := by
    rw [shv_upd (by omega) (by omega), upd_o (by decide), tbv_upd hFB b2 (by decide) (by decide), ← shv_upd (by decide) (by decide), tbv_shv hFB b2]
  rw [eS]
  have ez : fs - 64 * sumN (fun j => upd (shv (tbv (upd w 45 fs) F B) 40 3 sm) 22 0 (46 + j) * upd (shv (tbv (upd w 45 fs) F B) 40 3 sm) 22 0 (37 + j)) B = Tz m 0 F B P ph nz w := by
    unfold Tz
    rw [hsm, hfs]
    congr 1
    rw [sumN_mul]
    unfold bsv
    apply sumN_congr
    intro j hj
    rw [pk_un (by omega), pk_un (by omega), shv_g (by omega) (by omega), shv_g (by omega) (by omega), tbv_e hFB, tbv_e hFB, if_pos (by omega), if_neg (by omega), pk_un (by omega), pk_un (by omega), Int32.mul_assoc]
    congr 3
    omega
  rw [ez]
  generalize hS0 : shv (tbv (upd w 45 fs) F B) 40 3 sm = S0
  have s0 : ∀ k, k < 40 → S0 k = w k := fun k hk => by rw [← hS0, shv_g (by omega) (by omega), tbv_g (by omega) b2, pk_un (by omega)]
  rw [NR44, pk_us]
  have e2 : (if Tz m 0 F B P ph nz w < 0 then JX12_symbol_95 b v2 ms (-1) (Nm m (upd (upd S0 22 0) 44 (Tz m 0 F B P ph nz w))) else JX12_symbol_95 b v2 ms 1 (Nm m (upd (upd S0 22 0) 44 (Tz m 0 F B P ph nz w)))) = JX12_symbol_95 b v2 ms (Tdec m 0 F B P ph nz w) (Nm m (upd (upd S0 22 0) 44 (Tz m 0 F B P ph nz w))) := by
    unfold Tdec Rdec
    split <;> rfl
  rw [e2]
  generalize hz : Tz m 0 F B P ph nz w = z
  have eD : upd (upd S0 22 0) 44 z (31 + D) = w (31 + D) := by rw [pk_un (by omega), pk_un (by omega), s0 _ (by omega)]
  have e19 : upd (upd S0 22 0) 44 z 19 = w 19 := by rw [pk_un (by decide), pk_un (by decide), s0 _ (by decide)]
  rw [m_95 hl2 hm, eD, e19]
  show JX12_symbol_147 b v2 ms _ _ (Ttr D w) (Tkp m 0 F B D P ph nz w) _ = _
  rw [m_147, e19]
  show JX12_symbol_186 b v2 ms _ (Ttr D w) _ (Twr m 0 F B D P ph nz w) _ = _
  have e44 : upd (upd (upd S0 22 0) 44 z) 19 (hmx (w 19 - 1) 0) 44 = z := by rw [pk_un (by decide), pk_us]
  have e12 : upd (upd (upd S0 22 0) 44 z) 19 (hmx (w 19 - 1) 0) 12 = w 12 := by rw [pk_un (by decide), pk_un (by decide), pk_un (by decide), s0 _ (by decide)]
  have eqt : Rqt ms (m.1 5 0 6) v2 = Rqt (w 22) (m.1 5 0 6) (Rsm m 0 P ph nz w) := by
    unfold Rqt Rsm
    rw [hms, ← hv2]
    by_cases c : w 22 = 0
    · rw [if_pos c, if_pos c, if_pos c]
    · rw [if_neg c, if_neg c]
  have eA : TA m 0 F B P ph nz w = hrv S0 (Rqt (w 22) (m.1 5 0 6) (Rsm m 0 P ph nz w)) := by
    unfold TA RA
    rw [hsm, hfs, hS0]
  have hdA : TA m 0 F B P ph nz w 17 = 0 ∨ TA m 0 F B P ph nz w 17 = 1 := by
    rw [eA]
    exact hrv_b (by rw [s0 _ (by decide)]; exact hd)
  have eer : hsg (z - 64 * w 12 * Tkp m 0 F B D P ph nz w) = Ter m 0 F B D P ph nz w := by
    unfold Ter
    rw [hz]
  rw [m_186 hm, e44, e12, eer, eqt, m_238, hrv_upd (by decide) (by decide) (by decide), hrv_upd (by decide) (by decide) (by decide), hrv_upd (by decide) (by decide) (by decide), ← eA]
  generalize hA : TA m 0 F B P ph nz w = A at *
  have a16 : upd (upd (upd A 22 0) 44 z) 19 (hmx (w 19 - 1) 0) 16 = A 16 := by rw [pk_un (by decide), pk_un (by decide), pk_un (by decide)]
  have a17 : upd (upd (upd A 22 0) 44 z) 19 (hmx (w 19 - 1) 0) 17 = A 17 := by rw [pk_un (by decide), pk_un (by decide), pk_un (by decide)]
  have a18 : upd (upd (upd A 22 0) 44 z) 19 (hmx (w 19 - 1) 0) 18 = w 18 := by rw [pk_un (by decide), pk_un (by decide), pk_un (by decide), eA, hrv_g (by decide) (by decide) (by decide), s0 _ (by decide)]
  have a30 : upd (upd (upd A 22 0) 44 z) 19 (hmx (w 19 - 1) 0) 30 = w 30 := by rw [pk_un (by decide), pk_un (by decide), pk_un (by decide), eA, hrv_g (by decide) (by decide) (by decide), s0 _ (by decide)]
  have els : Rls ms (A 16) (A 17) = Tls m 0 F B P ph nz w := by
    unfold Tls
    rw [hms, hA]
  rw [a16, a17, els, m_270 (by rw [a30]; exact hg) (by rw [a17]; exact hdA) hl2 hm, a17, a18]
  unfold TM TC
  rw [hz, hA]
  congr 1
  · rw [hms]
    by_cases c : w 22 = 0
    · rw [if_pos c, if_pos c, ← hsm]
      unfold Rsm
      rw [if_pos c, hv2]
    · rw [if_neg c, if_neg c]
  · rw [RB_upd f2 b2 (by decide) (by decide) (by decide), RB_upd f2 b2 (by decide) (by decide) (by decide), RB_upd f2 b2 (by decide) (by decide) (by decide), RC_upd (by decide) (by decide) (by decide), RC_upd (by decide) (by decide) (by decide), RC_upd (by decide) (by decide) (by decide)]
end
/-- a symbol of the reference, when its noise is told -/
theorem m_symbol {m : hM} {F B D P W ph t : Nat} {w w2 : Nat → Int32} {nz : Int32} (ht : w 18 = nI t) (ht2 : t < 2 ^ 31) (hp : w 14 = nI ph) (hp2 : ph ≤ 3) (hb : nbv m 0 W w = 0 ∨ nbv m 0 W w = 1) (hms : w 22 = 0 ∨ w 22 = 1) (hg : gdv B (w 30)) (hd : w 17 = 0 ∨ w 17 = 1)
    (hn : JX12_noise (Nm m (Tw m 0 W w)) = some (some (.inl nz), Nm m w2)) (hw2 : ∀ k, k < 49 → w2 k = Tw m 0 W w k) (hl : Ln m 0 F B D P W) (hm : Lm m P W) :
    JX12_symbol (Nm m w) = nte (if w2 22 = 0 then Rsm m 0 P ph nz w2 else -1000000000) (Rmk (nbv m 0 W w) (Tdec m 0 F B P ph nz w2) (Twr m 0 F B D P ph nz w2) (TA m 0 F B P ph nz w2 17) (Tls m 0 F B P ph nz w2) (Ttr D w2)) (Twr m 0 F B D P ph nz w2) (Nm m (TM m F B D P ph nz (m.1 40 0 22) w2)) := by
  unfold JX12_symbol
  rw [m_nextBit ht ht2 hl hm, calI_s, show (31 : Int32) = nI 31 from rfl, show (6 : Int32) = nI (5 + 1) from rfl, e_shift (by decide), calV_s]
  have e : shv (nbw W w) 31 (5 + 1) (2 * nbv m 0 W w - 1) = Tw m 0 W w := by
    unfold Tw sbv
    congr 1
    rcases hb with h | h <;> rw [h] <;> decide
  have e14 : Tw m 0 W w 14 = nI ph := by rw [Tw_g (by decide) (by decide), hp]
  have e22 : w2 22 = w 22 := by rw [hw2 22 (by decide), Tw_g (by decide) (by decide)]
  have e30 : w2 30 = w 30 := by rw [hw2 30 (by decide), Tw_g (by decide) (by decide)]
  have e17 : w2 17 = w 17 := by rw [hw2 17 (by decide), Tw_g (by decide) (by decide)]
  have es : smv m 0 P ph (Tw m 0 W w) = smv m 0 P ph w2 := by
    unfold smv
    apply sumN_congr
    intro i hi
    rw [hw2 _ (by omega)]
  rw [e, NR14, m_clean e14 hp2 hl hm, calI_s, hn, calI_s, lt_s9, NR22, e22]
  have hv : smv m 0 P ph (Tw m 0 W w) + nz = nz + smv m 0 P ph w2 := by rw [es, Int32.add_comm]
  rcases hms with h | h
  · rw [if_neg (by rw [h]; decide), m_51 hv (by rw [e22, h]) (by rw [e30]; exact hg) (by rw [e17]; exact hd) hl hm, e22]
  · rw [if_pos h, m_51 hv (by rw [e22, h]) (by rw [e30]; exact hg) (by rw [e17]; exact hd) hl hm, e22]
