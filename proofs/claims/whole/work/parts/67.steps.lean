/-! steps of a script -/
theorem SV_k {k a b : Int32} (h : SV k a b) : ∃ kk, kk ≤ 7 ∧ k = nI kk ∧ (kk = 0 → bw a 1 60) ∧ (kk = 1 → bw a 0 3) ∧ (kk = 2 → bw a 0 1) ∧ (kk = 3 → bw a 0 5 ∧ bw b (-255) 255) ∧ (kk = 5 → bw a 0 4) ∧ (kk = 6 → bw a 0 99) := by
  have no : ∀ (x y : Nat) (q : Prop), x ≠ y → (x = y → q) := fun x y q h e => absurd e h
  rcases h with ⟨e, h⟩ | ⟨e, h⟩ | ⟨e, h⟩ | ⟨e, h⟩ | e | ⟨e, h⟩ | ⟨e, h⟩ | e
  · exact ⟨0, by decide, e, fun _ => h, no _ _ _ (by decide), no _ _ _ (by decide), no _ _ _ (by decide), no _ _ _ (by decide), no _ _ _ (by decide)⟩
  · exact ⟨1, by decide, e, no _ _ _ (by decide), fun _ => h, no _ _ _ (by decide), no _ _ _ (by decide), no _ _ _ (by decide), no _ _ _ (by decide)⟩
  · exact ⟨2, by decide, e, no _ _ _ (by decide), no _ _ _ (by decide), fun _ => h, no _ _ _ (by decide), no _ _ _ (by decide), no _ _ _ (by decide)⟩
  · exact ⟨3, by decide, e, no _ _ _ (by decide), no _ _ _ (by decide), no _ _ _ (by decide), fun _ => h, no _ _ _ (by decide), no _ _ _ (by decide)⟩
  · exact ⟨4, by decide, e, no _ _ _ (by decide), no _ _ _ (by decide), no _ _ _ (by decide), no _ _ _ (by decide), no _ _ _ (by decide), no _ _ _ (by decide)⟩
  · exact ⟨5, by decide, e, no _ _ _ (by decide), no _ _ _ (by decide), no _ _ _ (by decide), no _ _ _ (by decide), fun _ => h, no _ _ _ (by decide)⟩
  · exact ⟨6, by decide, e, no _ _ _ (by decide), no _ _ _ (by decide), no _ _ _ (by decide), no _ _ _ (by decide), no _ _ _ (by decide), fun _ => h⟩
  · exact ⟨7, by decide, e, no _ _ _ (by decide), no _ _ _ (by decide), no _ _ _ (by decide), no _ _ _ (by decide), no _ _ _ (by decide), no _ _ _ (by decide)⟩
theorem bw_hwi {a lo hi : Int32} (h : bw a lo.toInt hi.toInt) : hwi a lo hi = 1 := by
  unfold hwi
  rw [if_neg (by rw [Int32.lt_iff_toInt_lt]; have := h.1; omega), if_neg (by rw [Int32.lt_iff_toInt_lt]; have := h.2; omega)]
/-- what of the reference a step rests on, tried or not -/
def RT (m : hM) (F B D P W : Nat) (v : Nat → Int32) (t : Nat) : Prop := LL m F B D P W ∧ m.1 40 0 15 = 1 ∧ m.1 50 0 = v ∧ VW B v t ∧ t ≤ 9999
theorem RP_RT {m : hM} {F B D P W t c : Nat} {v : Nat → Int32} {kr : Nat → Nat → Int32} (q : RP m F B D P W v t c kr) : RT m F B D P W v t := ⟨q.1, q.2.2.2.2.1, q.2.2.2.2.2.1, q.2.2.2.2.2.2.2.2.1, q.2.2.2.2.2.2.2.2.2.2⟩
section
variable {m : hM} {F B D P W t : Nat} {v : Nat → Int32}
theorem m_betT (q : RT m F B D P W v t) : ∃ h l, JX12_better (v 14) m = some (some (.inl (bet (hts (m.1 6 0) F B D P v) (phN v))), HL m h l) ∧ ((bet (hts (m.1 6 0) F B D P v) (phN v) = -1) ↔ nbk (hts (m.1 6 0) F B D P v) (phN v) 3 = phN v) := by
  obtain ⟨q1, q5, q6, q9, q10⟩ := q
  have hph := ph_of q9.2.2.1
  obtain ⟨h, l, e⟩ := m_better (m := m) q1 hph.2 (m.1 40 0 25) (m.1 40 0 26)
  rw [HL_self, q6, ← hph.1] at e
  refine ⟨h, l, e, ?_⟩
  generalize hts (m.1 6 0) F B D P v = H
  rw [bet_m hph.2]
  constructor
  · intro z
    show nb H (nb H (nb H (phN v))) = _
    rw [z, z, z]
  · intro z
    have fx := nb_fix H (phN v) hph.2
    rw [z] at fx
    exact fx
theorem rts_m {a lo hi x : Int32} (h : hwi a lo hi = 1) : (if rts a lo hi x = -1 then (1 : Int32) else 0) = if x = a then 0 else 1 := by
  have w : ¬ hwi a lo hi = 0 := by rw [h]; decide
  unfold rts
  rw [if_neg w]
  by_cases c : a = x
  · rw [if_pos c, if_pos c.symm, if_neg (by decide)]
  · rw [if_neg c, if_neg (fun z : x = a => c z.symm), if_pos rfl]
theorem m_isTapT (q : RT m F B D P W v t) (a : Int32) : JX12_isTap a m = some (some (.inl (hwi a 0 (nI (F + B) - 1))), m) := by
  unfold JX12_isTap
  rw [m_taps (by rw [q.2.1]; decide) q.1, calI_s, e_in, calI_s, jretZ_b (hwi_b _ _ _)]
theorem m_canStep {k j : Nat} {a b : Int32} (q : RT m F B D P W v t) (hj : j + 2 < 180) (h0 : m.1 48 0 j = nI k) (h1 : m.1 48 0 (j + 1) = a) (h2 : m.1 48 0 (j + 2) = b) (sv : SV (nI k) a b) (hk : k ≤ 7) : ∃ h l, JX12_canStep (nI j) m = some (some (.inl (if rfG (m.1 6 0) F B D P k a b v = -1 then 1 else 0)), HL m h l) := by
  obtain ⟨kk, hkk, ek, v0, v1, v2, v3, v5, v6⟩ := SV_k sv
  have : k = kk := (nI_eq (by omega) (by omega)).mp ek
  subst this
  have hF : F ≤ 3 := q.1.1.2.2.2.2.2.2.1
  have hB : B ≤ 3 := q.1.1.2.2.2.2.2.2.2.1
  have me : ∀ x, JX12_canStep (nI j) m = some (some (.inl x), m) → x = (if rfG (m.1 6 0) F B D P k a b v = -1 then 1 else 0) → ∃ h l, JX12_canStep (nI j) m = some (some (.inl (if rfG (m.1 6 0) F B D P k a b v = -1 then 1 else 0)), HL m h l) := fun x e1 e2 => by
    obtain ⟨h, l, e⟩ := HL_me m
    exact ⟨h, l, by rw [← e2, ← e]; exact e1⟩
  have i1 : nI j + 1 = nI (j + 1) := (nI_succ j).symm
  have i2 : nI j + 2 = nI (j + 2) := by rw [show (2 : Int32) = nI 2 from rfl, nI_add]
  have row : ∀ (i : Nat) (K : Int32 → hR), i < 232 → ald m 50 0 (nI i) K = K (v i) := fun i K hi => by rw [rd i rfl hi, q.2.2.1]
  have r14 : ∀ (K : Int32 → hR), ald m 50 0 14 K = K (v 14) := fun K => row 14 K (by decide)
  have r16 : ∀ (K : Int32 → hR), ald m 50 0 16 K = K (v 16) := fun K => row 16 K (by decide)
  have r18 : ∀ (K : Int32 → hR), ald m 50 0 18 K = K (v 18) := fun K => row 18 K (by decide)
  have r19 : ∀ (K : Int32 → hR), ald m 50 0 19 K = K (v 19) := fun K => row 19 K (by decide)
  have r20 : ∀ (K : Int32 → hR), ald m 50 0 20 K = K (v 20) := fun K => row 20 K (by decide)
  have r22 : ∀ (K : Int32 → hR), ald m 50 0 22 K = K (v 22) := fun K => row 22 K (by decide)
  have st : ∀ x : Int32, (if x = a then jretZ 0 m else jretZ 1 m) = some (some (.inl (if x = a then 0 else 1)), m) := fun x => by
    by_cases c : x = a
    · rw [if_pos c, if_pos c, jretZ_0]
    · rw [if_neg c, if_neg c, jretZ_1]
  have bg : JX12_canStep (nI j) m = swL (nI k) [(0, ald m 50 0 18 fun x3 => if 9999 < (x3 + a) then (jretZ 0 m) else (jretZ 1 m)), (1, ald m 50 0 14 fun x4 => if x4 = a then (jretZ 0 m) else (jretZ 1 m)), (2, ald m 50 0 16 fun x5 => if x5 = a then (jretZ 0 m) else (jretZ 1 m)), (3, calI (JX12_isTap a m) fun x7 m6 => if x7 = 0 then (jretZ 0 m6) else (ald m6 50 0 (0 + a) fun x8 => ald m6 48 0 (nI j + 2) fun x9 => if x8 = x9 then (jretZ 0 m6) else (jretZ 1 m6))), (4, ald m 50 0 22 fun x10 => if x10 = 0 then (jretZ 1 m) else (jretZ 0 m)), (5, ald m 50 0 20 fun x11 => if x11 = a then (jretZ 0 m) else (jretZ 1 m)), (6, ald m 50 0 19 fun x12 => if x12 = a then (jretZ 0 m) else (jretZ 1 m))] (ald m 50 0 14 fun x13 => calI (JX12_better x13 m) fun x15 m14 => if x15 = (-1) then (jretZ 0 m14) else (jretZ 1 m14)) := by
    unfold JX12_canStep
    rw [i1, ald_n (t := 48) (n := 0) (j + 1) rfl (by decide) (show j + 1 < 180 by omega), ald_n (t := 48) (n := 0) j rfl (by decide) (show j < 180 by omega), h0, h1]
  rcases (by omega : k = 0 ∨ k = 1 ∨ k = 2 ∨ k = 3 ∨ k = 4 ∨ k = 5 ∨ k = 6 ∨ k = 7) with e | e | e | e | e | e | e | e <;> subst e
  · have w := bw_hwi (lo := 1) (hi := 60) (v0 rfl)
    apply me (if 9999 < v 18 + a then 0 else 1)
    · rw [bg, swL_p (by decide), r18]
      by_cases c : 9999 < v 18 + a
      · rw [if_pos c, if_pos c, jretZ_0]
      · rw [if_neg c, if_neg c, jretZ_1]
    · have w0 : ¬ hwi a 1 60 = 0 := by rw [w]; decide
      rw [rfG_0, if_neg w0]
      by_cases c : v 18 + a ≤ 9999
      · have c2 : ¬ 9999 < v 18 + a := by rw [Int32.lt_iff_toInt_lt]; rw [Int32.le_iff_toInt_le] at c; omega
        rw [if_pos c, if_neg c2, if_pos rfl]
      · have c2 : 9999 < v 18 + a := by rw [Int32.lt_iff_toInt_lt]; rw [Int32.le_iff_toInt_le] at c; omega
        rw [if_neg c, if_pos c2, if_neg (by decide)]
  · apply me _ (by rw [bg, swL_n (by decide), swL_p (by decide), r14]; exact st _)
    rw [rfG_1, rts_m (bw_hwi (lo := 0) (hi := 3) (v1 rfl))]
  · apply me _ (by rw [bg, swL_n (by decide), swL_n (by decide), swL_p (by decide), r16]; exact st _)
    rw [rfG_2, rts_m (bw_hwi (lo := 0) (hi := 1) (v2 rfl))]
  · obtain ⟨ha, hb⟩ := v3 rfl
    rcases hw a (nI (F + B) - 1) (F + B) (by omega) rfl with ⟨i, hi, ea, e1⟩ | ⟨e1, _⟩
    · subst ea
      apply me (if v i = b then 0 else 1)
      · rw [bg, swL_n (by decide), swL_n (by decide), swL_n (by decide), swL_p (by decide), m_isTapT q, calI_s, e1, if_neg (by decide), z0n, row i _ (by omega), i2, ald_n (t := 48) (n := 0) (j + 2) rfl (by decide) (show j + 2 < 180 by omega), h2]
        by_cases c : v i = b
        · rw [if_pos c, if_pos c, jretZ_0]
        · rw [if_neg c, if_neg c, jretZ_1]
      · have w0 : ¬ hwi (nI i) 0 (nI (F + B) - 1) = 0 := by rw [e1]; decide
        rw [rfG_3, if_neg w0, nI_clamp (by omega), rts_m (bw_hwi (lo := -255) (hi := 255) hb)]
    · apply me 0
      · rw [bg, swL_n (by decide), swL_n (by decide), swL_n (by decide), swL_p (by decide), m_isTapT q, calI_s, e1, if_pos rfl, jretZ_0]
      · rw [rfG_3, if_pos e1, if_neg (by decide)]
  · apply me (if v 22 = 0 then 1 else 0)
    · rw [bg, swL_n (by decide), swL_n (by decide), swL_n (by decide), swL_n (by decide), swL_p (by decide), r22]
      by_cases c : v 22 = 0
      · rw [if_pos c, if_pos c, jretZ_1]
      · rw [if_neg c, if_neg c, jretZ_0]
    · rw [rfG_4]
      by_cases c : v 22 = 0
      · rw [if_pos c, if_pos c, if_pos rfl]
      · rw [if_neg c, if_neg c, if_neg (by decide)]
  · apply me _ (by rw [bg, swL_n (by decide), swL_n (by decide), swL_n (by decide), swL_n (by decide), swL_n (by decide), swL_p (by decide), r20]; exact st _)
    rw [rfG_5, rts_m (bw_hwi (lo := 0) (hi := 4) (v5 rfl))]
  · apply me _ (by rw [bg, swL_n (by decide), swL_n (by decide), swL_n (by decide), swL_n (by decide), swL_n (by decide), swL_n (by decide), swL_p (by decide), r19]; exact st _)
    rw [rfG_6, rts_m (bw_hwi (lo := 0) (hi := 99) (v6 rfl))]
  · obtain ⟨h, l, e1, e2⟩ := m_betT q
    refine ⟨h, l, ?_⟩
    rw [bg, swL_n (by decide), swL_n (by decide), swL_n (by decide), swL_n (by decide), swL_n (by decide), swL_n (by decide), swL_n (by decide), swL_0, r14, e1, calI_s, rfG_7]
    by_cases c : nbk (hts (m.1 6 0) F B D P v) (phN v) 3 = phN v
    · rw [if_pos (e2.mpr c), if_pos c, if_neg (by decide), jretZ_0]
    · rw [if_neg (fun z => c (e2.mp z)), if_neg c, if_pos rfl, jretZ_1]
theorem m_doStep {k j : Nat} {a b : Int32} {S : (Nat → Int32) → Nat → Nat → Int32} {Wf : Nat → Int32} (q : RT m F B D P W v t) (hj : j + 2 < 180) (h0 : m.1 48 0 j = nI k) (h1 : m.1 48 0 (j + 1) = a) (h2 : m.1 48 0 (j + 2) = b) (hv : AV F B k a b) (hs : k = 0 → ∀ N, N ≤ 60 → a = nI N → JX12_symbols (nI N) m = some (some (.inl (Wf N)), Nm m (S v N))) : ∃ h l, JX12_doStep (nI j) m = some (some (.inl (if k = 0 then Wf a.toNatClampNeg else 0)), HL (Nm m (gA (m.1 6 0) S F B D P k a b v)) h l) := by
  have hF : F ≤ 3 := q.1.1.2.2.2.2.2.2.1
  have hB : B ≤ 3 := q.1.1.2.2.2.2.2.2.2.1
  obtain ⟨hk, v0, v1, v2, v3, v5⟩ := hv
  have sf : Nm m v = m := by rw [← q.2.2.1, Nm_self]
  have i1 : nI j + 1 = nI (j + 1) := (nI_succ j).symm
  have i2 : nI j + 2 = nI (j + 2) := by rw [show (2 : Int32) = nI 2 from rfl, nI_add]
  have me : ∀ (V : Nat → Int32), JX12_doStep (nI j) m = some (some (.inl (if k = 0 then Wf a.toNatClampNeg else 0)), Nm m V) → V = gA (m.1 6 0) S F B D P k a b v → ∃ h l, JX12_doStep (nI j) m = some (some (.inl (if k = 0 then Wf a.toNatClampNeg else 0)), HL (Nm m (gA (m.1 6 0) S F B D P k a b v)) h l) := fun V e1 e2 => by
    obtain ⟨h, l, e⟩ := HL_me (Nm m V)
    exact ⟨h, l, by rw [← e2, ← e]; exact e1⟩
  have wr : ∀ (i : Nat) (x : Int32) (K : hM → hR), i < 232 → ast m 50 0 (nI i) x K = K (Nm m (upd v i x)) := fun i x K hi => by
    have e := Nast (m := m) (w := v) (x := x) (k := K) i rfl hi
    rw [sf] at e
    exact e
  have w14 : ∀ x (K : hM → hR), ast m 50 0 14 x K = K (Nm m (upd v 14 x)) := fun x K => wr 14 x K (by decide)
  have w16 : ∀ x (K : hM → hR), ast m 50 0 16 x K = K (Nm m (upd v 16 x)) := fun x K => wr 16 x K (by decide)
  have w19 : ∀ x (K : hM → hR), ast m 50 0 19 x K = K (Nm m (upd v 19 x)) := fun x K => wr 19 x K (by decide)
  have w20 : ∀ x (K : hM → hR), ast m 50 0 20 x K = K (Nm m (upd v 20 x)) := fun x K => wr 20 x K (by decide)
  have w22 : ∀ x (K : hM → hR), ast m 50 0 22 x K = K (Nm m (upd v 22 x)) := fun x K => wr 22 x K (by decide)
  have bg : JX12_doStep (nI j) m = swL (nI k) [(0, calI (JX12_symbols a m) fun x4 m3 => some (some (.inl x4), m3)), (1, ast m 50 0 14 a fun m5 => some (some (.inl 0), m5)), (2, ast m 50 0 16 a fun m6 => some (some (.inl 0), m6)), (3, ald m 48 0 (nI j + 2) fun x7 => ast m 50 0 (0 + a) x7 fun m8 => ast m8 50 0 (6 + a) 0 fun m9 => some (some (.inl 0), m9)), (4, ast m 50 0 22 1 fun m10 => some (some (.inl 0), m10)), (5, ast m 50 0 20 a fun m11 => some (some (.inl 0), m11)), (6, ast m 50 0 19 a fun m12 => some (some (.inl 0), m12))] (calV (JX12_seekNow m) fun m13 => some (some (.inl 0), m13)) := by
    unfold JX12_doStep
    rw [i1, ald_n (t := 48) (n := 0) (j + 1) rfl (by decide) (show j + 1 < 180 by omega), ald_n (t := 48) (n := 0) j rfl (by decide) (show j < 180 by omega), h0, h1]
  rcases (by omega : k = 0 ∨ k = 1 ∨ k = 2 ∨ k = 3 ∨ k = 4 ∨ k = 5 ∨ k = 6 ∨ k = 7) with e | e | e | e | e | e | e | e <;> subst e
  · obtain ⟨N, hN1, hN2, ea⟩ := bw1_n (v0 rfl)
    have es := hs rfl N hN2 ea
    subst ea
    have cl : (nI N).toNatClampNeg = N := nI_clamp (by omega)
    apply me (S v N)
    · rw [bg, swL_p (by decide), es, calI_s, if_pos rfl, cl]
    · show S v N = S v (nI N).toNatClampNeg
      rw [cl]
  · exact me (upd v 14 a) (by rw [bg, swL_n (by decide), swL_p (by decide), w14, if_neg (by decide)]) rfl
  · exact me (upd v 16 a) (by rw [bg, swL_n (by decide), swL_n (by decide), swL_p (by decide), w16, if_neg (by decide)]) rfl
  · obtain ⟨⟨i, hi, ea⟩, hb⟩ := v3 rfl
    subst ea
    have cl : (nI i).toNatClampNeg = i := nI_clamp (by omega)
    have e6 : (6 : Int32) + nI i = nI (6 + i) := by rw [show (6 : Int32) = nI 6 from rfl, nI_add]
    apply me (upd (upd v i b) (6 + i) 0)
    · rw [bg, swL_n (by decide), swL_n (by decide), swL_n (by decide), swL_p (by decide), i2, ald_n (t := 48) (n := 0) (j + 2) rfl (by decide) (show j + 2 < 180 by omega), h2, z0n, wr i _ _ (by omega), e6, Nast (6 + i) rfl (by omega), if_neg (by decide)]
    · show _ = upd (upd v (nI i).toNatClampNeg b) (6 + (nI i).toNatClampNeg) 0
      rw [cl]
  · exact me (upd v 22 1) (by rw [bg, swL_n (by decide), swL_n (by decide), swL_n (by decide), swL_n (by decide), swL_p (by decide), w22, if_neg (by decide)]) rfl
  · exact me (upd v 20 a) (by rw [bg, swL_n (by decide), swL_n (by decide), swL_n (by decide), swL_n (by decide), swL_n (by decide), swL_p (by decide), w20, if_neg (by decide)]) rfl
  · exact me (upd v 19 a) (by rw [bg, swL_n (by decide), swL_n (by decide), swL_n (by decide), swL_n (by decide), swL_n (by decide), swL_n (by decide), swL_p (by decide), w19, if_neg (by decide)]) rfl
  · have hph := ph_of q.2.2.2.1.2.2.1
    obtain ⟨h3, l3, b1⟩ := m_seekNow (m := m) (v := v) q.1 hph.2 hph.1 (m.1 40 0 25) (m.1 40 0 26)
    rw [sf, HL_self] at b1
    refine ⟨h3, l3, ?_⟩
    rw [bg, swL_n (by decide), swL_n (by decide), swL_n (by decide), swL_n (by decide), swL_n (by decide), swL_n (by decide), swL_n (by decide), swL_0, b1, calV_s, if_neg (by decide)]
    rfl
end
