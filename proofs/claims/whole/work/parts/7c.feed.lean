/-! feed -/
theorem by_sh (x s : Int32) (n : Nat) (h1 : ((s.toUInt32 &&& Int32.toUInt32 31).toBitVec % 32#32).toNat = n) (h2 : ((s &&& 31).toBitVec.smod 32).toNat = n) (hn : n ≤ 24) : jushr x s &&& 255 = (x >>> (s &&& 31)) &&& 255 := by
  apply Int32.toBitVec_inj.mp
  unfold jushr
  rw [Int32.toBitVec_and, Int32.toBitVec_and, Int32.toBitVec_shiftRight]
  apply BitVec.eq_of_getLsbD_eq
  intro i hi
  rw [BitVec.getLsbD_and, BitVec.getLsbD_and]
  by_cases c : i < 8
  · congr 1
    show ((x.toUInt32 >>> (s.toUInt32 &&& Int32.toUInt32 31)).toBitVec).getLsbD i = _
    rw [UInt32.toBitVec_shiftRight, BitVec.ushiftRight_eq', BitVec.getLsbD_ushiftRight, BitVec.sshiftRight_eq', BitVec.getLsbD_sshiftRight, h2]
    rw [if_pos (by omega), show (!decide (32 ≤ i)) = true from by simp; omega, Bool.true_and]
    show x.toBitVec.getLsbD (((s.toUInt32 &&& Int32.toUInt32 31).toBitVec % 32#32).toNat + i) = _
    rw [h1]
  · have e : (255 : Int32).toBitVec.getLsbD i = false := by
      have : ∀ i, i < 32 → ¬ i < 8 → (255 : Int32).toBitVec.getLsbD i = false := by decide +kernel
      exact this i hi c
    rw [e, Bool.and_false, Bool.and_false]
/-- the byte k of a word -/
def bt (x : Int32) (k : Nat) : Int32 := (x >>> (nI (24 - 8 * k) &&& 31)) &&& 255
theorem bt_c (x : Int32) : ∀ k, k < 4 → jushr x (nI (24 - 8 * k)) &&& 255 = bt x k := fun k hk => by
  have e : ∀ k, k < 4 → (((nI (24 - 8 * k)).toUInt32 &&& Int32.toUInt32 31).toBitVec % 32#32).toNat = 24 - 8 * k ∧ (((nI (24 - 8 * k)) &&& 31).toBitVec.smod 32).toNat = 24 - 8 * k := by decide +kernel
  exact by_sh x _ (24 - 8 * k) (e k hk).1 (e k hk).2 (by omega)
theorem bt_b (x : Int32) (k : Nat) (h : bt x k ≠ 0) : bw (bt x k) 1 255 := by
  unfold bt at *
  obtain ⟨j, hj, e⟩ := pk_andE (x >>> (nI (24 - 8 * k) &&& 31)) (m := 255) 8 (by decide)
  rw [e] at h ⊢
  have j0 : j ≠ 0 := fun z => h (by rw [z]; rfl)
  have hj2 : j < 256 := hj
  have t := nI_toInt (n := j) (by omega)
  exact ⟨by rw [t]; omega, by rw [t]; omega⟩
/-- how many bytes that are not 0 lie before n, and the row with them behind l -/
def fC (b : Nat → Int32) : Nat → Nat
  | 0 => 0
  | n + 1 => fC b n + (if b n = 0 then 0 else 1)
def fT (b : Nat → Int32) (l : Nat) (x : Nat → Int32) : Nat → Nat → Int32
  | 0 => x
  | n + 1 => if b n = 0 then fT b l x n else upd (fT b l x n) (l + fC b n) (b n)
theorem fC_s (b : Nat → Int32) (n : Nat) : fC b (n + 1) = fC b n + (if b n = 0 then 0 else 1) := rfl
theorem fT_s (b : Nat → Int32) (l : Nat) (x : Nat → Int32) (n : Nat) : fT b l x (n + 1) = if b n = 0 then fT b l x n else upd (fT b l x n) (l + fC b n) (b n) := rfl
theorem fC_m (b : Nat → Int32) (n : Nat) : ∀ k, fC b n ≤ fC b (n + k) := by
  intro k
  induction k with
  | zero => exact Nat.le_refl _
  | succ k ih => show _ ≤ fC b (n + k + 1); rw [fC_s]; omega
theorem fT_q {b x y : Nat → Int32} {l : Nat} (hb : ∀ n, b n ≠ 0 → bw (b n) 1 255) (h : ∀ i, i < l → x i = y i ∧ bw (x i) 1 255) : ∀ n i, i < l + fC b n → fT b l x n i = fT b l y n i ∧ bw (fT b l x n i) 1 255 := by
  intro n
  induction n with
  | zero => exact h
  | succ n ih =>
    intro i hi
    rw [fC_s] at hi
    rw [fT_s, fT_s]
    by_cases c : b n = 0
    · rw [if_pos c] at hi
      rw [if_pos c, if_pos c]
      exact ih i hi
    · rw [if_neg c] at hi
      rw [if_neg c, if_neg c]
      by_cases e : i = l + fC b n
      · rw [e, pk_us, pk_us]; exact ⟨rfl, hb n c⟩
      · rw [pk_un e, pk_un e]; exact ih i (by omega)
def zn (x : Int32) : Nat := if x = 0 then 0 else 1
def wf (a1 a2 a3 a4 a5 : Int32) : Nat → Int32 := fun i => if i = 0 then a1 else if i = 1 then a2 else if i = 2 then a3 else if i = 3 then a4 else a5
def bf (w : Nat → Int32) : Nat → Int32 := fun j => bt (w (j / 4)) (j % 4)
theorem bf_b (w : Nat → Int32) (n : Nat) (h : bf w n ≠ 0) : bw (bf w n) 1 255 := bt_b _ _ h
theorem bf_k (w : Nat → Int32) (q : Nat) {k : Nat} (hk : k < 4) : bf w (4 * q + k) = bt (w q) k := by
  unfold bf
  rw [show (4 * q + k) / 4 = q from by omega, show (4 * q + k) % 4 = k from by omega]
def cw (x : Int32) : Nat := zn (bt x 0) + zn (bt x 1) + zn (bt x 2) + zn (bt x 3)
theorem fC_z (b : Nat → Int32) (n : Nat) : fC b (n + 1) = fC b n + zn (b n) := rfl
theorem fC_4 (w : Nat → Int32) (q : Nat) : fC (bf w) (4 * (q + 1)) = fC (bf w) (4 * q) + cw (w q) := by
  rw [show 4 * (q + 1) = 4 * q + 0 + 1 + 1 + 1 + 1 from by omega, fC_z, fC_z, fC_z, fC_z, show 4 * q + 0 + 1 + 1 + 1 = 4 * q + 3 from by omega, show 4 * q + 0 + 1 + 1 = 4 * q + 2 from by omega, show 4 * q + 0 + 1 = 4 * q + 1 from by omega, bf_k w q (by decide), bf_k w q (by decide), bf_k w q (by decide), show bf w (4 * q) = bt (w q) 0 from bf_k w q (k := 0) (by decide)]
  unfold cw
  omega
theorem sh_8 : nI (24 - 8 * 0) + -8 = nI (24 - 8 * 1) ∧ nI (24 - 8 * 1) + -8 = nI (24 - 8 * 2) ∧ nI (24 - 8 * 2) + -8 = nI (24 - 8 * 3) ∧ nI (24 - 8 * 3) + -8 = -8 := by decide
theorem sh_n : ∀ k, k < 4 → ¬ nI (24 - 8 * k) < 0 := by decide
theorem nI_zn (x v : Int32) (h : x = x) : (if x = 0 then v else v + 1) = v + nI (zn x) := by
  unfold zn
  by_cases c : x = 0
  · rw [if_pos c, if_pos c]; exact (Int32.add_zero v).symm
  · rw [if_neg c, if_neg c]; rfl
theorem c_bytes (a : Int32) (m : hM) : JX6_bytesIn a m = some (some (.inl (nI (cw a))), m) := by
  have st : ∀ (K : Int32 → hM → hR) F v k, k < 4 → JX6_bytesIn_5 K a (F + 1) v (nI (24 - 8 * k)) m = JX6_bytesIn_5 K a F (v + nI (zn (bt a k))) (nI (24 - 8 * k) + -8) m := fun K F v k hk => by
    show bJX6_bytesIn_5 _ _ _ _ _ _ = _
    unfold bJX6_bytesIn_5 JX6_bytesIn_22
    rw [if_neg (sh_n k hk), bt_c a k hk, ← nI_zn _ _ rfl]
    by_cases c : bt a k = 0
    · rw [if_pos c, if_pos c]
    · rw [if_neg c, if_neg c]
  unfold JX6_bytesIn
  show JX6_bytesIn_5 _ a (99995 + 1 + 1 + 1 + 1 + 1) (nI 0) (nI (24 - 8 * 0)) m = _
  rw [st _ _ _ 0 (by decide), sh_8.1, st _ _ _ 1 (by decide), sh_8.2.1, st _ _ _ 2 (by decide), sh_8.2.2.1, st _ _ _ 3 (by decide), sh_8.2.2.2]
  show bJX6_bytesIn_5 _ _ _ _ _ _ = _
  unfold bJX6_bytesIn_5 cw
  rw [if_pos (by decide), nI_add, nI_add, nI_add, nI_add, Nat.zero_add]
def Tx (m M : hM) : Prop := (∀ a b c, ¬ a = 2 → ¬ (a = 1 ∧ c = 4) → M.1 a b c = m.1 a b c) ∧ M.2 = m.2
theorem Tx_r (m : hM) : Tx m m := ⟨fun _ _ _ _ _ => rfl, rfl⟩
def TCf (m M : hM) (b : Nat → Int32) (l : Nat) (n : Nat) : Prop := Tx m M ∧ M.1 1 0 4 = nI (l + fC b n) ∧ ∀ i, M.1 2 0 i = fT b l (m.1 2 0) n i
theorem c_app1 {m M : hM} {w : Nat → Int32} {l q k : Nat} (hq : q < 5) (hk : k < 4) (hl : l + fC (bf w) 20 ≤ 240) (h : TCf m M (bf w) l (4 * q + k)) : ∃ M2, TCf m M2 (bf w) l (4 * q + k + 1) ∧ ∀ K F, JX6_append_3 K (w q) (F + 1) (nI (24 - 8 * k)) M = JX6_append_3 K (w q) F (nI (24 - 8 * k) + -8) M2 := by
  obtain ⟨h1, h2, h3⟩ := h
  have eb := bf_k w q hk
  have s1 := fC_s (bf w) (4 * q + k)
  have s2 := fT_s (bf w) l (m.1 2 0) (4 * q + k)
  rw [eb] at s1 s2
  by_cases c : bt (w q) k = 0
  · rw [if_pos c] at s1 s2
    refine ⟨M, ⟨h1, by rw [s1]; exact h2, fun i => by rw [s2]; exact h3 i⟩, fun K F => ?_⟩
    show bJX6_append_3 _ _ _ _ _ = _
    unfold bJX6_append_3 JX6_append_53
    rw [if_neg (sh_n k hk), bt_c _ k hk, lt_s9, if_pos c]
  · rw [if_neg c] at s1 s2
    have mo := fC_m (bf w) (4 * q + k + 1) (20 - (4 * q + k + 1))
    rw [show 4 * q + k + 1 + (20 - (4 * q + k + 1)) = 20 from by omega, s1] at mo
    generalize hL : l + fC (bf w) (4 * q + k) = L at *
    have hL2 : L < 240 := by omega
    refine ⟨uI (uI M 2 0 L (bt (w q) k)) 1 0 4 (nI (L + 1)), ⟨⟨fun a b d e1 e2 => ?_, h1.2⟩, ?_, fun i => ?_⟩, fun K F => ?_⟩
    · rw [uI_n (by omega), uI_n (by omega)]; exact h1.1 a b d e1 e2
    · rw [uI_s, s1, ← hL]; rfl
    · rw [uI_o (by decide), s2]
      by_cases e : i = L
      · rw [e, uI_s, pk_us]
      · rw [uI_n (Or.inr e), pk_un e]; exact h3 i
    · show bJX6_append_3 _ _ _ _ _ = _
      unfold bJX6_append_3 JX6_append_53
      have hw : hwi (nI L) 0 239 = 1 := by
        rcases hw (nI L) 239 240 (by decide) (by decide) with ⟨j, _, _, e1⟩ | ⟨_, e2⟩
        · exact e1
        · exact absurd rfl (e2 L hL2)
      rw [if_neg (sh_n k hk), bt_c _ k hk, lt_s9, if_neg c, h2, e_within, calI_s, hw, if_neg (by decide), h2, ast_n (t := 2) (n := 0) L rfl (by decide) (show L < 240 from hL2), stI_s, uI_o (by decide), h2, ← nI_succ]
theorem c_app {m M : hM} {w : Nat → Int32} {l q : Nat} (hq : q < 5) (hl : l + fC (bf w) 20 ≤ 240) (h : TCf m M (bf w) l (4 * q)) : ∃ M2, TCf m M2 (bf w) l (4 * (q + 1)) ∧ JX6_append (w q) M = some (none, M2) := by
  obtain ⟨M1, a1, a2⟩ := c_app1 (k := 0) hq (by decide) hl h
  obtain ⟨M2, b1, b2⟩ := c_app1 (k := 1) hq (by decide) hl a1
  obtain ⟨M3, c1, c2⟩ := c_app1 (k := 2) hq (by decide) hl b1
  obtain ⟨M4, d1, d2⟩ := c_app1 (k := 3) hq (by decide) hl c1
  refine ⟨M4, d1, ?_⟩
  unfold JX6_append
  show JX6_append_3 _ (w q) (99995 + 1 + 1 + 1 + 1 + 1) (nI (24 - 8 * 0)) M = _
  rw [a2, sh_8.1, b2, sh_8.2.1, c2, sh_8.2.2.1, d2, sh_8.2.2.2]
  show bJX6_append_3 _ _ _ _ _ = _
  unfold bJX6_append_3
  rw [if_pos (by decide)]
def Tr (m M : hM) : Prop := (∀ a b c, ¬ a = 41 → ¬ (a = 40 ∧ c = 2) → M.1 a b c = m.1 a b c) ∧ M.2 = m.2
def TR (m M : hM) (b : Nat → Int32) (l : Nat) (n : Nat) : Prop := Tr m M ∧ M.1 40 0 2 = nI (l + fC b n) ∧ ∀ i, M.1 41 0 i = fT b l (m.1 41 0) n i
theorem m_byte {a1 a2 a3 a4 a5 : Int32} {j : Nat} (m : hM) (hj : j < 20) : JX12_byteOf a1 a2 a3 a4 a5 (nI j) m = some (some (.inl (bf (wf a1 a2 a3 a4 a5) j)), m) := by
  have e45 : ∀ x, JX12_byteOf_45 (nI j) x m = some (some (.inl (bt x (j % 4))), m) := fun x => by
    unfold JX12_byteOf_45 jirem bt
    rw [if_neg (by decide), show (4 : Int32) = nI 4 from rfl, pk_rem (by omega) (by decide) (by decide)]
    have e : ∀ k, k < 4 → (24 : Int32) - 8 * nI k = nI (24 - 8 * k) := by decide
    show some (some (Sum.inl (x >>> (24 - 8 * nI (j % 4) &&& 31) &&& 255)), m) = _
    rw [e (j % 4) (Nat.mod_lt _ (by decide))]
  unfold JX12_byteOf bf wf
  rw [e45, e45, e45, e45, e45]
  have le : ∀ b : Nat, b ≤ j → b < 100 → nI b ≤ nI j := fun b h1 h2 => nI_le h1 (by omega)
  have ge : ∀ b : Nat, j < b → b < 100 → ¬ nI b ≤ nI j := fun b h1 h2 => nI_ge h1 (by omega)
  by_cases c1 : j < 4
  · rw [if_neg (show ¬ (4 : Int32) ≤ nI j from ge 4 c1 (by decide)), if_pos (show j / 4 = 0 by omega)]
  · rw [if_pos (show (4 : Int32) ≤ nI j from le 4 (by omega) (by decide)), if_neg (show ¬ j / 4 = 0 by omega)]
    by_cases c2 : j < 8
    · rw [if_neg (show ¬ (8 : Int32) ≤ nI j from ge 8 c2 (by decide)), if_pos (show j / 4 = 1 by omega)]
    · rw [if_pos (show (8 : Int32) ≤ nI j from le 8 (by omega) (by decide)), if_neg (show ¬ j / 4 = 1 by omega)]
      by_cases c3 : j < 12
      · rw [if_neg (show ¬ (12 : Int32) ≤ nI j from ge 12 c3 (by decide)), if_pos (show j / 4 = 2 by omega)]
      · rw [if_pos (show (12 : Int32) ≤ nI j from le 12 (by omega) (by decide)), if_neg (show ¬ j / 4 = 2 by omega)]
        by_cases c4 : j < 16
        · rw [if_neg (show ¬ (16 : Int32) ≤ nI j from ge 16 c4 (by decide)), if_pos (show j / 4 = 3 by omega)]
        · rw [if_pos (show (16 : Int32) ≤ nI j from le 16 (by omega) (by decide)), if_neg (show ¬ j / 4 = 3 by omega)]
theorem n20 {i : Nat} (h : i < 20) : ¬ (20 : Int32) ≤ nI i := nI_ge (a := i) (b := 20) h (by decide)
theorem m_count {a1 a2 a3 a4 a5 : Int32} {K : Int32 → hM → hR} (m : hM) : JX12_feed_6 K a1 a2 a3 a4 a5 FU 0 0 m = K (nI (fC (bf (wf a1 a2 a3 a4 a5)) 20)) m := by
  have st : ∀ i, i ≤ 20 → ∀ F, JX12_feed_6 K a1 a2 a3 a4 a5 (F + i) 0 0 m = JX12_feed_6 K a1 a2 a3 a4 a5 F (nI (fC (bf (wf a1 a2 a3 a4 a5)) i)) (nI i) m := by
    intro i
    induction i with
    | zero => intro _ F; rfl
    | succ i ih =>
      intro hi F
      rw [show F + (i + 1) = F + 1 + i from by omega, ih (by omega)]
      show bJX12_feed_6 _ _ _ _ _ _ _ _ _ _ = _
      unfold bJX12_feed_6 JX12_feed_35
      rw [if_neg (n20 (by omega)), m_byte m (by omega), calI_s, lt_s9, lt_s9, ← nI_succ, fC_z]
      unfold zn
      by_cases c : bf (wf a1 a2 a3 a4 a5) i = 0
      · rw [if_pos c, if_pos c]
        show JX12_feed_6 K a1 a2 a3 a4 a5 F (nI (fC (bf (wf a1 a2 a3 a4 a5)) i) + nI 0) _ m = _
        rw [nI_add]
      · rw [if_neg c, if_neg c]
        show JX12_feed_6 K a1 a2 a3 a4 a5 F (nI (fC (bf (wf a1 a2 a3 a4 a5)) i) + nI 1) _ m = _
        rw [nI_add]
  rw [show FU = 99979 + 1 + 20 from rfl, st 20 (Nat.le_refl _)]
  show bJX12_feed_6 _ _ _ _ _ _ _ _ (nI 20) _ = _
  unfold bJX12_feed_6
  rw [if_pos (by decide)]
theorem m_putT {a1 a2 a3 a4 a5 : Int32} {K : hM → hR} {m : hM} {l : Nat} (h0 : m.1 40 0 2 = nI l) (hl : l + fC (bf (wf a1 a2 a3 a4 a5)) 20 ≤ 240) : ∃ M2, TR m M2 (bf (wf a1 a2 a3 a4 a5)) l 20 ∧ JX12_feed_62 K a1 a2 a3 a4 a5 FU 0 m = K M2 := by
  generalize hb : bf (wf a1 a2 a3 a4 a5) = b at *
  have st : ∀ i, i ≤ 20 → ∃ M, TR m M b l i ∧ ∀ F, JX12_feed_62 K a1 a2 a3 a4 a5 (F + i) 0 m = JX12_feed_62 K a1 a2 a3 a4 a5 F (nI i) M := by
    intro i
    induction i with
    | zero => intro _; exact ⟨m, ⟨⟨fun _ _ _ _ _ => rfl, rfl⟩, h0, fun _ => rfl⟩, fun _ => rfl⟩
    | succ i ih =>
      intro hi
      obtain ⟨M, ⟨h1, h2, h3⟩, h4⟩ := ih (by omega)
      have s1 := fC_s b i
      have s2 := fT_s b l (m.1 41 0) i
      have by1 := m_byte (a1 := a1) (a2 := a2) (a3 := a3) (a4 := a4) (a5 := a5) (j := i) M (by omega)
      rw [hb] at by1
      by_cases c : b i = 0
      · rw [if_pos c] at s1 s2
        refine ⟨M, ⟨h1, by rw [s1]; exact h2, fun i => by rw [s2]; exact h3 i⟩, fun F => ?_⟩
        rw [show F + (i + 1) = F + 1 + i from by omega, h4]
        show bJX12_feed_62 _ _ _ _ _ _ _ _ _ = _
        unfold bJX12_feed_62 JX12_feed_109
        rw [if_neg (n20 (by omega)), by1, calI_s, if_pos c, ← nI_succ]
      · rw [if_neg c] at s1 s2
        have mo := fC_m b (i + 1) (20 - (i + 1))
        rw [show i + 1 + (20 - (i + 1)) = 20 from by omega, s1] at mo
        generalize hL : l + fC b i = L at *
        have hL2 : L < 240 := by omega
        refine ⟨uI (uI M 41 0 L (b i)) 40 0 2 (nI (L + 1)), ⟨⟨fun a d e e1 e2 => ?_, h1.2⟩, ?_, fun k => ?_⟩, fun F => ?_⟩
        · rw [uI_n (by omega), uI_n (by omega)]; exact h1.1 a d e e1 e2
        · rw [uI_s, s1, ← hL]; rfl
        · rw [uI_o (by decide), s2]
          by_cases e : k = L
          · rw [e, uI_s, pk_us]
          · rw [uI_n (Or.inr e), pk_un e]; exact h3 k
        · rw [show F + (i + 1) = F + 1 + i from by omega, h4]
          show bJX12_feed_62 _ _ _ _ _ _ _ _ _ = _
          unfold bJX12_feed_62 JX12_feed_109
          rw [if_neg (n20 (by omega)), by1, calI_s, if_neg c, h2, ast_n (t := 41) (n := 0) L rfl (by decide) (show L < 240 from hL2), stI_s, uI_o (by decide), h2, ← nI_succ, ← nI_succ]
  obtain ⟨M, h1, h2⟩ := st 20 (Nat.le_refl _)
  refine ⟨M, h1, ?_⟩
  rw [show FU = 99979 + 1 + 20 from rfl, h2]
  show bJX12_feed_62 _ _ _ _ _ _ _ (nI 20) _ = _
  unfold bJX12_feed_62
  rw [if_pos (by decide)]
theorem Inv_T {m m2 : hM} (hA : SmA m m2) (hC : SmP nsC m m2) (hR : SmP nsR m m2) (hH : SmP nsH m m2) (hT : IT m2) (q : Inv m) : Inv m2 := by
  obtain ⟨q1, q2, q3, q4, q5⟩ := q
  have e := IH_same hH hA ⟨q1, q2⟩
  exact ⟨e.1, e.2, IS_same hC q3, hT, IR_same hR q5⟩
theorem k_feed (a1 a2 a3 a4 a5 : Int32) : Ok1 (JX11_feed a1 a2 a3 a4 a5) (JX12_feed a1 a2 a3 a4 a5) := fun m hm => by
  obtain ⟨l, l1, l2, l3, l4⟩ := hm.2.2.2.1
  have hb := bf_b (wf a1 a2 a3 a4 a5)
  have f20 : fC (bf (wf a1 a2 a3 a4 a5)) 20 = cw a1 + cw a2 + cw a3 + cw a4 + cw a5 := by
    have e := fun q => fC_4 (wf a1 a2 a3 a4 a5) q
    have e0 := e 0; have e1 := e 1; have e2 := e 2; have e3 := e 3; have e4 := e 4
    have z0 : fC (bf (wf a1 a2 a3 a4 a5)) (4 * 0) = 0 := rfl
    have w0 : wf a1 a2 a3 a4 a5 0 = a1 := rfl
    have w1 : wf a1 a2 a3 a4 a5 1 = a2 := rfl
    have w2 : wf a1 a2 a3 a4 a5 2 = a3 := rfl
    have w3 : wf a1 a2 a3 a4 a5 3 = a4 := rfl
    have w4 : wf a1 a2 a3 a4 a5 4 = a5 := rfl
    rw [w0, z0] at e0; rw [w1] at e1; rw [w2] at e2; rw [w3] at e3; rw [w4] at e4
    have g : fC (bf (wf a1 a2 a3 a4 a5)) (4 * (4 + 1)) = cw a1 + cw a2 + cw a3 + cw a4 + cw a5 := by
      rw [e4, show (4 * 4 : Nat) = 4 * (3 + 1) from rfl, e3, show (4 * 3 : Nat) = 4 * (2 + 1) from rfl, e2, show (4 * 2 : Nat) = 4 * (1 + 1) from rfl, e1, show (4 * 1 : Nat) = 4 * (0 + 1) from rfl, e0, Nat.zero_add]
    exact g
  unfold JX11_feed JX6_join JX12_feed
  rw [c_bytes, calI_s, c_bytes, calI_s, c_bytes, calI_s, c_bytes, calI_s, c_bytes, calI_s, nI_add, nI_add, nI_add, nI_add, ← f20, lt_s9, l2, nI_add]
  have n20b : fC (bf (wf a1 a2 a3 a4 a5)) 20 ≤ 20 := by
    have e : ∀ b : Nat → Int32, ∀ n, fC b n ≤ n := by
      intro b n
      induction n with
      | zero => exact Nat.le_refl _
      | succ n ih =>
        rw [fC_z]
        unfold zn
        by_cases c : b n = 0
        · rw [if_pos c]; omega
        · rw [if_neg c]; omega
    exact e _ _
  by_cases c : l + fC (bf (wf a1 a2 a3 a4 a5)) 20 ≤ 240
  · have z0 : TCf m m (bf (wf a1 a2 a3 a4 a5)) l (4 * 0) := ⟨Tx_r m, l2, fun _ => rfl⟩
    obtain ⟨M1, p1, q1⟩ := c_app (q := 0) (by decide) c z0
    obtain ⟨M2, p2, q2⟩ := c_app (q := 1) (by decide) c p1
    obtain ⟨M3, p3, q3⟩ := c_app (q := 2) (by decide) c p2
    obtain ⟨M4, p4, q4⟩ := c_app (q := 3) (by decide) c p3
    obtain ⟨M5, p5, q5⟩ := c_app (q := 4) (by decide) c p4
    have t1 : ∀ a b d, ¬ a = 2 → ¬ (a = 1 ∧ d = 4) → M5.1 a b d = m.1 a b d := p5.1.1
    obtain ⟨N, r1, r2⟩ := m_putT (K := fun m9 => some (some (.inl (m9.1 40 0 2)), m9)) (a1 := a1) (a2 := a2) (a3 := a3) (a4 := a4) (a5 := a5) (m := M5) (l := l) (by rw [t1 40 0 2 (by decide) (by decide)]; exact l3) c
    have t2 : ∀ a b d, ¬ a = 41 → ¬ (a = 40 ∧ d = 2) → N.1 a b d = M5.1 a b d := r1.1.1
    refine ⟨nI (l + fC (bf (wf a1 a2 a3 a4 a5)) 20), M5, N, ?_, ?_, Inv_T ?_ ?_ ?_ ?_ ?_ hm⟩
    · rw [if_pos (show nI (l + fC (bf (wf a1 a2 a3 a4 a5)) 20) ≤ 240 from nI_le (a := l + fC (bf (wf a1 a2 a3 a4 a5)) 20) (b := 240) c (by decide))]
      show calI (calV (JX6_append (wf a1 a2 a3 a4 a5 0) m) fun m12 => calV (JX6_append (wf a1 a2 a3 a4 a5 1) m12) fun m13 => calV (JX6_append (wf a1 a2 a3 a4 a5 2) m13) fun m14 => calV (JX6_append (wf a1 a2 a3 a4 a5 3) m14) fun m15 => calV (JX6_append (wf a1 a2 a3 a4 a5 4) m15) fun m16 => some (some (.inl (m16.1 1 0 4)), m16)) _ = _
      rw [q1, calV_s, q2, calV_s, q3, calV_s, q4, calV_s, q5, calV_s, calI_s, p5.2.1]
    · rw [m_count, t1 40 0 2 (by decide) (by decide), l3, nI_add]
      rw [if_pos (show nI (l + fC (bf (wf a1 a2 a3 a4 a5)) 20) ≤ 240 from nI_le (a := l + fC (bf (wf a1 a2 a3 a4 a5)) 20) (b := 240) c (by decide)), r2, r1.2.1]
    · refine ⟨fun a b d z => ?_, fun n _ => by rw [r1.1.2, p5.1.2]⟩
      unfold nsA at z
      rw [t2 a b d (by omega) (by omega), t1 a b d (by omega) (by omega)]
    · intro a b d z
      unfold nsC at z
      rw [t2 a b d (by omega) (by omega), t1 a b d (by omega) (by omega)]
    · intro a b d z
      unfold nsR at z
      rw [t2 a b d (by omega) (by omega), t1 a b d (by omega) (by omega)]
    · intro a b d z
      unfold nsH at z
      rw [t2 a b d (by omega) (by omega), t1 a b d (by omega) (by omega)]
    · have q := fT_q (b := bf (wf a1 a2 a3 a4 a5)) (x := m.1 2 0) (y := m.1 41 0) (l := l) hb l4 20
      refine ⟨l + fC (bf (wf a1 a2 a3 a4 a5)) 20, c, ?_, r1.2.1, fun i hi => ?_⟩
      · rw [t2 1 0 4 (by decide) (by decide)]; exact p5.2.1
      · have e41 : M5.1 41 0 = m.1 41 0 := by funext i; exact t1 41 0 i (by decide) (by omega)
        rw [t2 2 0 i (by decide) (by omega), p5.2.2 i, r1.2.2 i, e41]
        exact q i hi
  · have ng : ¬ nI (l + fC (bf (wf a1 a2 a3 a4 a5)) 20) ≤ 240 := nI_ge (a := 240) (b := l + fC (bf (wf a1 a2 a3 a4 a5)) 20) (by omega) (by omega)
    exact ⟨-1, m, m, by rw [if_neg ng, calI_s], by rw [m_count, l3, nI_add, if_neg ng], hm⟩
