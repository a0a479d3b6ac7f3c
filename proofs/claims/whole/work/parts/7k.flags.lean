/-! the flags of a line -/
theorem hbt_g (x : Int32) {j : Nat} (hj : j < 13) : hbt x (nI j) = 1 ↔ x.toBitVec.getLsbD j = true := by
  have t : ∀ j, j < 13 → ((nI j &&& 31).toBitVec.smod 32).toNat = j := by decide +kernel
  have e := t j hj
  have q : hbt x (nI j) = nI (((x >>> (nI j &&& 31)).toBitVec.toNat) % 2 ^ 1) := pk_and _ 1 (by decide)
  have g : (x >>> (nI j &&& 31)).toBitVec.getLsbD 0 = x.toBitVec.getLsbD j := by
    rw [Int32.toBitVec_shiftRight, BitVec.sshiftRight_eq', BitVec.getLsbD_sshiftRight, e, if_pos (by omega)]
    rfl
  have g2 : (x >>> (nI j &&& 31)).toBitVec.getLsbD 0 = decide ((x >>> (nI j &&& 31)).toBitVec.toNat % 2 = 1) := Nat.testBit_zero _
  rw [q, ← g, g2, show (2 : Nat) ^ 1 = 2 from rfl]
  rcases Nat.mod_two_eq_zero_or_one ((x >>> (nI j &&& 31)).toBitVec.toNat) with z | z
  · rw [z]; decide
  · rw [z]; decide
theorem hbt_or (x : Int32) {j k : Nat} (hj : j < 13) (hk : k < 13) : hbt (x ||| ((1 : Int32) <<< (nI k &&& 31))) (nI j) = 1 ↔ (j = k ∨ hbt x (nI j) = 1) := by
  have t : ∀ k, k < 13 → ∀ j, j < 13 → ((1 : Int32) <<< (nI k &&& 31)).toBitVec.getLsbD j = decide (j = k) := by decide +kernel
  rw [hbt_g _ hj, hbt_g _ hj, Int32.toBitVec_or, BitVec.getLsbD_or, t k hk j hj, Bool.or_eq_true, decide_eq_true_eq]
  exact Or.comm
