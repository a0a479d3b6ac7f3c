/-! rows: Z of a row -/
def bsg (row k : Int32) : Int32 := if hbt row k = 1 then 1 else -1
/-- how many numbers of pulse a phase has -/
def Kn (P ph : Nat) : Nat := (P + 3 - ph) / 4
def shF (p : Nat → Int32) (P ph : Nat) (row : Int32) (t : Nat) : Int32 := sumN (fun k => p (4 * k + ph) * bsg row (nI (t + k))) (Kn P ph)
def zBk (F D : Nat) (v : Nat → Int32) (row wr : Int32) : Nat → Int32 → Int32 := fun j z => z - 64 * (if (if hbt row (nI (D + 1 + j)) = 1 then (1 : Int32) else 0) = (if hbt wr (nI j) = 1 then 1 else 0) then -(v (F + j)) else v (F + j))
def zFo (p : Nat → Int32) (P ph : Nat) (v : Nat → Int32) (row : Int32) (F : Nat) : Int32 := sumN (fun i => v i * shF p P ph row i) F
def zRw (p : Nat → Int32) (F B D P ph : Nat) (v : Nat → Int32) (row wr : Int32) : Int32 := fr (zBk F D v row wr) (zFo p P ph v row F) B
section
variable {m : hM} {n F B D P W ph : Nat}
theorem g_fore (hl : Ln m 0 F B D P W) : JX4_foreTaps 0 m = some (some (.inl (nI F)), m) := by
  unfold JX4_foreTaps
  rw [ald_n (i := 1) (t := 5) (n := 0) 1 rfl (by decide) (by decide), hl.2.1]
theorem g_back (hl : Ln m 0 F B D P W) : JX4_backTaps 0 m = some (some (.inl (nI B)), m) := by
  unfold JX4_backTaps
  rw [ald_n (i := 2) (t := 5) (n := 0) 2 rfl (by decide) (by decide), hl.2.2.1]
theorem g_delay (hl : Ln m 0 F B D P W) : JX4_delay 0 m = some (some (.inl (nI D)), m) := by
  unfold JX4_delay
  rw [ald_n (i := 3) (t := 5) (n := 0) 3 rfl (by decide) (by decide), hl.2.2.2.1]
theorem g_plen (hl : Ln m 0 F B D P W) : JX4_pulseLength 0 m = some (some (.inl (nI P)), m) := by
  unfold JX4_pulseLength
  rw [ald_n (i := 0) (t := 5) (n := 0) 0 rfl (by decide) (by decide), hl.1]
theorem g_all (hl : Ln m 0 F B D P W) : JX4_allTaps 0 m = some (some (.inl (nI (F + B))), m) := by
  unfold JX4_allTaps
  rw [ald_n (i := 1) (t := 5) (n := 0) 1 rfl (by decide) (by decide), ald_n (i := 2) (t := 5) (n := 0) 2 rfl (by decide) (by decide), hl.2.1, hl.2.2.1, nI_add]
theorem g_pulse (hl : Ln m 0 F B D P W) {j : Nat} (hj : j < P) : JX4_pulseAt 0 (nI j) m = some (some (.inl (m.1 6 0 j)), m) := by
  have p2 : P ≤ 16 := hl.2.2.2.2.2.2.2.2.2.1
  unfold JX4_pulseAt
  rw [if_neg (nI_pos (by omega)), ald_n (i := 0) (t := 5) (n := 0) 0 rfl (by decide) (by decide), hl.1, if_neg (nI_ge hj (by omega)), if_neg (show ¬ (16 : Int32) ≤ nI j from nI_ge (a := j) (b := 16) (by omega) (by decide)), ald_n (t := 6) (n := 0) j rfl (by decide) (show j < 16 by omega)]
theorem g_truth (hl : Ln m 0 F B D P W) (row : Int32) : JX11_truthOf 0 row m = some (some (.inl (bsg row (nI D))), m) := by
  unfold JX11_truthOf
  rw [g_delay hl, calI_s, e_bitSign, calI_s]
  rfl
theorem i4n (k ph : Nat) : (4 : Int32) * nI k + nI ph = nI (4 * k + ph) := by rw [show (4 : Int32) = nI 4 from rfl, pk_mul, nI_add]
theorem c_share1 {row : Int32} {t : Nat} (hl : Ln m 0 F B D P W) (hp : ph ≤ 3) (ht : t < F) : JX3_share 0 row (nI ph) (nI t) m = some (some (.inl (shF (m.1 6 0) P ph row t)), m) := by
  have p2 : P ≤ 16 := hl.2.2.2.2.2.2.2.2.2.1
  have f2 : F ≤ 3 := hl.2.2.2.2.2.2.1
  have hk : Kn P ph ≤ 4 := by unfold Kn; omega
  unfold JX3_share
  rw [g_fore hl, calI_s, if_pos (nI_lt ht (by omega))]
  refine Eq.trans (lpF (fun f (a : Int32 × Int32) => JX3_share_37 (fun v5 m10 => some (some (.inl v5), m10)) 0 row (nI ph) (nI t) f a.1 a.2 m) (fun i => (sumN (fun k => m.1 6 0 (4 * k + ph) * bsg row (nI (t + k))) i, nI i)) (Kn P ph) (by omega) (by
    intro i f hi
    have hb : 4 * i + ph < P := by unfold Kn at hi; omega
    show bJX3_share_37 _ _ _ _ _ _ _ (nI i) _ = _
    unfold bJX3_share_37
    rw [g_plen hl, calI_s, i4n, if_neg (nI_ge hb (by omega)), if_neg (n6 (by omega)), g_pulse hl hb, calI_s, nI_add, e_bitSign, calI_s, lt_s9]
    show JX3_share_37 _ _ _ _ _ f _ (nI i + 1) _ = JX3_share_37 _ _ _ _ _ f _ _ _
    rw [← nI_succ]
    rfl)) ?_
  show bJX3_share_37 _ _ _ _ _ _ _ (nI (Kn P ph)) _ = _
  unfold bJX3_share_37
  rw [g_plen hl, calI_s, i4n, if_pos (nI_le (by unfold Kn; omega) (by omega))]
  rfl
theorem c_share2 {row : Int32} {j : Nat} (hl : Ln m 0 F B D P W) (hj : j < B) : JX3_share 0 row (nI ph) (nI (F + j)) m = some (some (.inl ((-64) * bsg row (nI (D + 1 + j)))), m) := by
  have f2 : F ≤ 3 := hl.2.2.2.2.2.2.1
  have b2 : B ≤ 3 := hl.2.2.2.2.2.2.2.1
  unfold JX3_share
  have e : nI D + nI (F + j) - nI F + 1 = nI (D + 1 + j) := by
    rw [nI_add, pk_sub (by omega), ← nI_succ]
    congr 1
    omega
  rw [g_fore hl, calI_s, if_neg (nI_nlt (by omega) (by omega)), g_delay hl, calI_s, e, e_bitSign, calI_s]
  rfl
theorem zs_m (z x : Int32) (row : Int32) (k : Nat) : z + x * ((-64) * bsg row (nI k)) = z - 64 * (if (if hbt row (nI k) = 1 then (1 : Int32) else 0) = 0 then -x else x) := by
  unfold bsg
  by_cases c : hbt row (nI k) = 1
  · rw [if_pos c, if_pos c, if_neg (by decide), Int32.mul_one, Int32.sub_eq_add_neg, Int32.mul_comm x, Int32.neg_mul]
  · rw [if_neg c, if_neg c, if_pos rfl, Int32.mul_neg, Int32.mul_one, Int32.mul_neg, Int32.sub_eq_add_neg, Int32.mul_neg, Int32.mul_neg, Int32.mul_comm x]
theorem hbt_0 (j : Nat) (hj : j < 3) : ¬ hbt 0 (nI j) = 1 := by
  have e : ∀ j, j < 3 → ¬ hbt 0 (nI j) = 1 := by decide +kernel
  exact e j hj
/-- the class's Z of a row -/
theorem c_rowZ {row : Int32} {v : Nat → Int32} (hl : Ln m 0 F B D P W) (hp : ph ≤ 3) (hv : ∀ i, i < 6 → m.1 13 n i = v i) : JX3_rowZ 0 n row (nI ph) m = some (some (.inl (zRw (m.1 6 0) F B D P ph v row 0)), m) := by
  have f2 : F ≤ 3 := hl.2.2.2.2.2.2.1
  have b2 : B ≤ 3 := hl.2.2.2.2.2.2.2.1
  unfold JX3_rowZ
  have key : ∀ i, i ≤ F + B → ∀ f, JX3_rowZ_6 (fun v5 m7 => some (some (.inl v5), m7)) 0 n row (nI ph) (f + i) 0 0 m = JX3_rowZ_6 (fun v5 m7 => some (some (.inl v5), m7)) 0 n row (nI ph) f (if i ≤ F then zFo (m.1 6 0) P ph v row i else fr (zBk F D v row 0) (zFo (m.1 6 0) P ph v row F) (i - F)) (nI i) m := by
    intro i
    induction i with
    | zero => intro _ f; rw [if_pos (by omega)]; rfl
    | succ i ih =>
      intro hi f
      rw [show f + (i + 1) = f + 1 + i from by omega, ih (by omega)]
      show bJX3_rowZ_6 _ _ _ _ _ _ _ (nI i) _ = _
      unfold bJX3_rowZ_6
      rw [g_all hl, calI_s, if_neg (nI_ge (by omega) (by omega)), if_neg (n6 (by omega)), ald_n (t := 13) (n := n) i rfl (by decide) (show i < 6 by omega), hv i (by omega)]
      by_cases c : i < F
      · rw [c_share1 hl hp c, calI_s, lt_s9, if_pos (by omega), if_pos (by omega)]
        show JX3_rowZ_6 _ _ _ _ _ f _ (nI i + 1) _ = _
        rw [← nI_succ]
        rfl
      · obtain ⟨j, rfl⟩ : ∃ j, i = F + j := ⟨i - F, by omega⟩
        rw [c_share2 hl (by omega), calI_s, lt_s9, if_neg (show ¬ F + j + 1 ≤ F by omega), zs_m]
        show JX3_rowZ_6 _ _ _ _ _ f _ (nI (F + j) + 1) _ = _
        rw [← nI_succ, show F + j + 1 - F = j + 1 from by omega]
        congr 1
        show _ = zBk F D v row 0 j (fr (zBk F D v row 0) (zFo (m.1 6 0) P ph v row F) j)
        unfold zBk
        rw [if_neg (hbt_0 j (by omega))]
        congr 1
        by_cases c0 : j = 0
        · subst c0
          rw [if_pos (by omega)]
          rfl
        · rw [if_neg (by omega), show F + j - F = j from by omega]
  have e := key (F + B) (Nat.le_refl _) (100000 - (F + B) - 1 + 1)
  rw [show 100000 - (F + B) - 1 + 1 + (F + B) = FU from by rw [FU_eq]; omega] at e
  rw [e]
  show bJX3_rowZ_6 _ _ _ _ _ _ _ (nI (F + B)) _ = _
  unfold bJX3_rowZ_6
  rw [g_all hl, calI_s, if_pos (nI_le (by omega) (by omega))]
  unfold zRw
  by_cases c0 : B = 0
  · subst c0
    rw [if_pos (by omega)]
    rfl
  · rw [if_neg (by omega), show F + B - F = B from by omega]
theorem bs_m (p row : Int32) (k : Nat) : p * bsg row (nI k) = if hbt row (nI k) = 1 then p else -p := by
  unfold bsg
  by_cases c : hbt row (nI k) = 1
  · rw [if_pos c, if_pos c, Int32.mul_one]
  · rw [if_neg c, if_neg c, Int32.mul_neg, Int32.mul_one]
/-- the reference's -/
theorem m_rowS {row : Int32} {wr z : Int32} {t : Nat} {K : Int32 → hM → hR} (hl : LL m F B D P W) (hp : ph ≤ 3) (ht : t < F) : JX12_weighRow_23 K row (nI ph) wr z (nI t) FU 0 0 m = K (shF (m.1 6 0) P ph row t) m := by
  have p2 : P ≤ 16 := hl.1.2.2.2.2.2.2.2.2.2.1
  have f2 : F ≤ 3 := hl.1.2.2.2.2.2.2.1
  have hk : Kn P ph ≤ 4 := by unfold Kn; omega
  refine Eq.trans (lpF (fun f (a : Int32 × Int32) => JX12_weighRow_23 K row (nI ph) wr z (nI t) f a.1 a.2 m) (fun i => (sumN (fun k => m.1 6 0 (4 * k + ph) * bsg row (nI (t + k))) i, nI i)) (Kn P ph) (by omega) (by
    intro i f hi
    have hb : 4 * i + ph < P := by unfold Kn at hi; omega
    show bJX12_weighRow_23 _ _ _ _ _ _ _ _ (nI i) _ = _
    unfold bJX12_weighRow_23 JX12_weighRow_78
    rw [ald_n (i := 0) (t := 45) (n := 0) 0 rfl (by decide) (by decide), hl.2.1.1 0 (by decide), hl.1.1, i4n, if_neg (nI_ge hb (by omega)), nI_add, e_has, calI_s, ald_n (t := 46) (n := 0) (4 * i + ph) rfl (by decide) (show 4 * i + ph < 16 by omega), ald_n (t := 46) (n := 0) (4 * i + ph) rfl (by decide) (show 4 * i + ph < 16 by omega), hl.2.1.2.1 _ hb, lt_s9, lt_s9]
    show _ = JX12_weighRow_23 _ _ _ _ _ _ f (sumN (fun k => m.1 6 0 (4 * k + ph) * bsg row (nI (t + k))) i + m.1 6 0 (4 * i + ph) * bsg row (nI (t + i))) (nI (i + 1)) m
    rw [bs_m, nI_succ i]
    by_cases c : hbt row (nI (t + i)) = 1
    · rw [if_pos c, if_neg (by decide), if_pos c]
    · rw [if_neg c, if_pos rfl, if_neg c])) ?_
  show bJX12_weighRow_23 _ _ _ _ _ _ _ _ (nI (Kn P ph)) _ = _
  unfold bJX12_weighRow_23
  rw [ald_n (i := 0) (t := 45) (n := 0) 0 rfl (by decide) (by decide), hl.2.1.1 0 (by decide), hl.1.1, i4n, if_pos (nI_le (by unfold Kn; omega) (by omega))]
  rfl
theorem z0n (k : Nat) : (0 : Int32) + nI k = nI k := Int32.zero_add _
theorem m_weighRow {row wr : Int32} (hl : LL m F B D P W) (hp : ph ≤ 3) : JX12_weighRow row (nI ph) wr m = some (some (.inl (zRw (m.1 6 0) F B D P ph (m.1 50 0) row wr)), m) := by
  have f2 : F ≤ 3 := hl.1.2.2.2.2.2.2.1
  have b2 : B ≤ 3 := hl.1.2.2.2.2.2.2.2.1
  unfold JX12_weighRow
  refine Eq.trans (lpF (fun f (a : Int32 × Int32) => JX12_weighRow_6 (fun v4 m11 => JX12_weighRow_113 (fun v4 m23 => some (some (.inl v4), m23)) row wr FU v4 0 m11) row (nI ph) wr f a.1 a.2 m) (fun i => (zFo (m.1 6 0) P ph (m.1 50 0) row i, nI i)) F (by omega) (by
    intro i f hi
    show bJX12_weighRow_6 _ _ _ _ _ _ (nI i) _ = _
    unfold bJX12_weighRow_6
    rw [ald_n (i := 1) (t := 45) (n := 0) 1 rfl (by decide) (by decide), hl.2.1.1 1 (by decide), hl.1.2.1, if_neg (nI_ge hi (by omega)), m_rowS hl hp hi, z0n, rd i rfl (by omega), lt_s9]
    show JX12_weighRow_6 _ _ _ _ f _ (nI i + 1) _ = _
    rw [← nI_succ]
    rfl)) ?_
  show bJX12_weighRow_6 _ _ _ _ _ _ (nI F) _ = _
  unfold bJX12_weighRow_6
  rw [ald_n (i := 1) (t := 45) (n := 0) 1 rfl (by decide) (by decide), hl.2.1.1 1 (by decide), hl.1.2.1, if_pos (nI_le (by omega) (by omega))]
  show JX12_weighRow_113 _ row wr FU (zFo (m.1 6 0) P ph (m.1 50 0) row F) 0 m = _
  refine Eq.trans (lpF (fun f (a : Int32 × Int32) => JX12_weighRow_113 (fun v4 m23 => some (some (.inl v4), m23)) row wr f a.1 a.2 m) (fun i => (fr (zBk F D (m.1 50 0) row wr) (zFo (m.1 6 0) P ph (m.1 50 0) row F) i, nI i)) B (by omega) (by
    intro i f hi
    show bJX12_weighRow_113 _ _ _ _ _ (nI i) _ = _
    unfold bJX12_weighRow_113 JX12_weighRow_153 JX12_weighRow_200
    have e3 : nI D + 1 + nI i = nI (D + 1 + i) := by rw [← nI_succ, nI_add]
    rw [ald_n (i := 2) (t := 45) (n := 0) 2 rfl (by decide) (by decide), hl.2.1.1 2 (by decide), hl.1.2.2.1, if_neg (nI_ge hi (by omega)), ald_n (i := 3) (t := 45) (n := 0) 3 rfl (by decide) (by decide), hl.2.1.1 3 (by decide), hl.1.2.2.2.1, e3, e_has, calI_s, e_has, calI_s]
    show _ = JX12_weighRow_113 _ _ _ f (zBk F D (m.1 50 0) row wr i (fr (zBk F D (m.1 50 0) row wr) (zFo (m.1 6 0) P ph (m.1 50 0) row F) i)) (nI (i + 1)) m
    rw [nI_succ i]
    unfold zBk
    by_cases c : (if hbt row (nI (D + 1 + i)) = 1 then (1 : Int32) else 0) = if hbt wr (nI i) = 1 then 1 else 0
    · rw [if_pos c, if_pos c, if_pos rfl, ald_n (i := 1) (t := 45) (n := 0) 1 rfl (by decide) (by decide), hl.2.1.1 1 (by decide), hl.1.2.1, z0n, nI_add, rd (F + i) rfl (by omega), lt_s9]
    · rw [if_neg c, if_neg c, if_neg (by decide : ¬ (1 : Int32) = 0), ald_n (i := 1) (t := 45) (n := 0) 1 rfl (by decide) (by decide), hl.2.1.1 1 (by decide), hl.1.2.1, z0n, nI_add, rd (F + i) rfl (by omega), lt_s9])) ?_
  show bJX12_weighRow_113 _ _ _ _ _ (nI B) _ = _
  unfold bJX12_weighRow_113
  rw [ald_n (i := 2) (t := 45) (n := 0) 2 rfl (by decide) (by decide), hl.2.1.1 2 (by decide), hl.1.2.2.1, if_pos (nI_le (by omega) (by omega))]
  rfl
end
