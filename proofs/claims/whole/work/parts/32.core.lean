/-! reading and writing by place -/
theorem ia50 : iaOK 50 = true := rfl
theorem clampL (n : Nat) (h : n < 2 ^ 31) : (OfNat.ofNat n : Int32).toNatClampNeg = n := nI_clamp h
theorem Nald {m : hM} {w : Nat → Int32} {i : Int32} {k : Int32 → hR} (j : Nat) (hi : i = nI j) (hj : j < 232) : ald (Nm m w) 50 0 i k = k (w j) := by
  rw [ald_n j hi ia50 hj, Nm_r]
theorem Nast {m : hM} {w : Nat → Int32} {i x : Int32} {k : hM → hR} (j : Nat) (hi : i = nI j) (hj : j < 232) : ast (Nm m w) 50 0 i x k = k (Nm m (upd w j x)) := by
  rw [ast_n j hi ia50 hj, Nm_u]
theorem NaldL {m : hM} {w : Nat → Int32} {n : Nat} {k : Int32 → hR} (hj : n < 232) : ald (Nm m w) 50 0 (OfNat.ofNat n) k = k (w n) := Nald n rfl hj
theorem NastL {m : hM} {w : Nat → Int32} {n : Nat} {x : Int32} {k : hM → hR} (hj : n < 232) : ast (Nm m w) 50 0 (OfNat.ofNat n) x k = k (Nm m (upd w n x)) := Nast n rfl hj
theorem NrulL {m : hM} {w : Nat → Int32} {n : Nat} {k : Int32 → hR} (hj : n < 13) : ald (Nm m w) 45 0 (OfNat.ofNat n) k = k (m.1 45 0 n) := by
  rw [ald_n n rfl (by decide) hj, Nm_o (by decide)]
theorem upd_a (w : Nat → Int32) (k : Nat) (x : Int32) (j : Nat) : upd w k x j = if j = k then x else w j := rfl
/-! a vote -/
def vtv (w : Nat → Int32) (vi : Nat) (b en : Int32) (ai : Nat) (lo hi : Int32) : Nat → Int32 :=
  if hsz (w vi + b) < en then upd w vi (w vi + b) else upd (upd (upd w vi (w vi + b)) ai (hhl (w ai + hsg (w vi + b)) lo hi)) vi 0
theorem m_vote {m : hM} {w : Nat → Int32} {vi ai : Nat} {b en lo hi : Int32} (h1 : vi < 232) (h2 : ai < 232) (hne : ai ≠ vi) : JX12_vote (nI vi) b en (nI ai) lo hi (Nm m w) = some (none, Nm m (vtv w vi b en ai lo hi)) := by
  unfold JX12_vote
  rw [Nald vi rfl h1, Nast vi rfl h1, Nald vi rfl h1, e_size, calI_s, pk_us]
  unfold vtv
  by_cases c : hsz (w vi + b) < en
  · rw [if_pos c, if_pos c]
  · rw [if_neg c, if_neg c, Nald ai rfl h2, Nald vi rfl h1, pk_us, pk_un hne, e_sign, calI_s, e_held, calI_s, Nast ai rfl h2, Nast vi rfl h1]
/-! quiet, dark -/
def hrv (w : Nat → Int32) (q : Int32) : Nat → Int32 :=
  if q = 0 then (if hmn (w 24 + 1) 4 = 4 then upd (upd (upd w 23 0) 24 (hmn (w 24 + 1) 4)) 17 0 else upd (upd w 23 0) 24 (hmn (w 24 + 1) 4))
  else (if hmn (w 23 + 1) 4 = 4 then upd (upd (upd w 23 (hmn (w 23 + 1) 4)) 24 0) 17 1 else upd (upd w 23 (hmn (w 23 + 1) 4)) 24 0)
theorem hmn4 (a : Int32) : hmn 4 a = hmn a 4 := by
  unfold hmn
  simp only [Int32.lt_iff_toInt_lt]
  by_cases h1 : a.toInt < (4 : Int32).toInt
  · rw [if_pos h1, if_neg (by omega)]
  · rw [if_neg h1]
    by_cases h2 : (4 : Int32).toInt < a.toInt
    · rw [if_pos h2]
    · rw [if_neg h2]
      exact Int32.toInt_inj.mp (by omega)
theorem m_hush {m : hM} {w : Nat → Int32} {q : Int32} : JX12_hush q (Nm m w) = some (none, Nm m (hrv w q)) := by
  unfold JX12_hush JX12_hush_27 JX12_hush_55 JX12_hush_78 hrv
  by_cases h : q = 0
  · simp only [h, if_true, NastL, NaldL, e_min, calI_s, upd_a, hmn4, Nat.reduceLT, Nat.reduceEqDiff, if_false, ite_true, ite_false]
    sorry
  · simp only [h, if_false, NastL, NaldL, e_min, calI_s, upd_a, hmn4, Nat.reduceLT, Nat.reduceEqDiff, ite_true, ite_false]
    sorry
