/-! a State as one row of numbers, in the order of the reference's row; others of its slots from 1000 on -/
def lcL : List (Nat × Nat) := [(13, 0), (13, 1), (13, 2), (13, 3), (13, 4), (13, 5), (14, 0), (14, 1), (14, 2), (14, 3), (14, 4), (14, 5), (12, 9), (12, 10), (12, 7), (12, 8), (12, 15), (18, 2), (12, 6), (12, 13), (12, 12), (12, 14), (12, 16), (18, 0), (18, 1), (18, 3), (18, 4), (18, 5), (18, 6), (18, 7), (18, 8), (15, 0), (15, 1), (15, 2), (15, 3), (15, 4), (15, 5), (16, 0), (16, 1), (16, 2), (17, 0), (17, 1), (17, 2), (18, 12), (18, 10), (18, 11), (19, 0), (19, 1), (19, 2)]
/-- where number i of the row lies: kind and slot -/
def lc (i : Nat) : Nat × Nat := if i < 49 then lcL.getD i (0, 0) else (12 + (i - 1000) % 8, (i - 1000) / 8)
def ixL : List (List Nat) := [[1000, 1008, 1016, 1024, 1032, 1040, 18, 14, 15, 12, 13, 1088, 20, 19, 21, 16, 22, 1136], [0, 1, 2, 3, 4, 5], [6, 7, 8, 9, 10, 11], [31, 32, 33, 34, 35, 36], [37, 38, 39], [40, 41, 42], [23, 24, 17, 25, 26, 27, 28, 29, 30, 1078, 44, 45, 43, 1110, 1118], [46, 47, 48]]
def ix (t c : Nat) : Nat := ((ixL.getD (t - 12) []).getD c (1000 + (t - 12) + 8 * c))
theorem ix_big {t c : Nat} (h : (ixL.getD (t - 12) []).length ≤ c) : ix t c = 1000 + (t - 12) + 8 * c := by
  unfold ix
  rw [List.getD_eq_getElem?_getD, List.getElem?_eq_none h]
  rfl
theorem lc_big {t c : Nat} (h1 : 12 ≤ t) (h2 : t ≤ 19) : lc (1000 + (t - 12) + 8 * c) = (t, c) := by
  unfold lc
  rw [if_neg (by omega)]
  have e1 : 1000 + (t - 12) + 8 * c - 1000 = (t - 12) + 8 * c := by omega
  rw [e1]
  exact Prod.ext (by show 12 + ((t - 12) + 8 * c) % 8 = t; omega) (by show ((t - 12) + 8 * c) / 8 = c; omega)
theorem lc_small : ∀ t, t < 20 → 12 ≤ t → ∀ c, c < 18 → c < (ixL.getD (t - 12) []).length → lc (ix t c) = (t, c) := by decide +kernel
theorem ixL_len : ∀ t, t < 20 → 12 ≤ t → (ixL.getD (t - 12) []).length ≤ 18 := by decide +kernel
theorem lc_ix {t c : Nat} (h1 : 12 ≤ t) (h2 : t ≤ 19) : lc (ix t c) = (t, c) := by
  by_cases h : c < (ixL.getD (t - 12) []).length
  · exact lc_small t (by omega) h1 c (Nat.lt_of_lt_of_le h (ixL_len t (by omega) h1)) h
  · rw [ix_big (Nat.le_of_not_lt h), lc_big h1 h2]
theorem ix_inj {t c t2 c2 : Nat} (h1 : 12 ≤ t) (h2 : t ≤ 19) (h3 : 12 ≤ t2) (h4 : t2 ≤ 19) (h : ix t c = ix t2 c2) : t = t2 ∧ c = c2 := by
  have e := lc_ix (c := c) h1 h2
  rw [h, lc_ix h3 h4] at e
  cases e
  exact ⟨rfl, rfl⟩
/-- memory m, but State n holds the row w and the draw x -/
def Sm (m : hM) (n : Nat) (w : Nat → Int32) (x : Int64) : hM := (fun a b c => if b = n ∧ 12 ≤ a ∧ a ≤ 19 then w (ix a c) else m.1 a b c, fun a b c => if a = 12 ∧ b = n ∧ c = 17 then x else m.2 a b c)
def vec (m : hM) (n : Nat) : Nat → Int32 := fun i => m.1 (lc i).1 n (lc i).2
theorem Sm_self (m : hM) (n : Nat) : Sm m n (vec m n) (m.2 12 n 17) = m := by
  apply Prod.ext
  · funext a b c
    show (if b = n ∧ 12 ≤ a ∧ a ≤ 19 then vec m n (ix a c) else m.1 a b c) = m.1 a b c
    by_cases h : b = n ∧ 12 ≤ a ∧ a ≤ 19
    · rw [if_pos h, vec, lc_ix h.2.1 h.2.2, h.1]
    · rw [if_neg h]
  · funext a b c
    show (if a = 12 ∧ b = n ∧ c = 17 then m.2 12 n 17 else m.2 a b c) = m.2 a b c
    by_cases h : a = 12 ∧ b = n ∧ c = 17
    · rw [if_pos h, h.1, h.2.1, h.2.2]
    · rw [if_neg h]
theorem Sm_r {m : hM} {n : Nat} {w : Nat → Int32} {x : Int64} {t c : Nat} (h : 12 ≤ t ∧ t ≤ 19) : (Sm m n w x).1 t n c = w (ix t c) := if_pos ⟨rfl, h⟩
theorem Sm_o {m : hM} {n : Nat} {w : Nat → Int32} {x : Int64} {t b c : Nat} (h : ¬ (12 ≤ t ∧ t ≤ 19)) : (Sm m n w x).1 t b c = m.1 t b c := if_neg (fun e => h e.2)
theorem Sm_n {m : hM} {n : Nat} {w : Nat → Int32} {x : Int64} {t b c : Nat} (h : b ≠ n) : (Sm m n w x).1 t b c = m.1 t b c := if_neg (fun e => h e.1)
theorem Sm_x {m : hM} {n : Nat} {w : Nat → Int32} {x : Int64} : (Sm m n w x).2 12 n 17 = x := if_pos ⟨rfl, rfl, rfl⟩
theorem Sm_u {m : hM} {n : Nat} {w : Nat → Int32} {x : Int64} {t c : Nat} {v : Int32} (h : 12 ≤ t ∧ t ≤ 19) : uI (Sm m n w x) t n c v = Sm m n (upd w (ix t c) v) x := by
  apply Prod.ext
  · funext a b c2
    show (if a = t ∧ b = n ∧ c2 = c then v else if b = n ∧ 12 ≤ a ∧ a ≤ 19 then w (ix a c2) else m.1 a b c2) = if b = n ∧ 12 ≤ a ∧ a ≤ 19 then (if ix a c2 = ix t c then v else w (ix a c2)) else m.1 a b c2
    by_cases h1 : b = n ∧ 12 ≤ a ∧ a ≤ 19
    · rw [if_pos h1, if_pos h1]
      by_cases h2 : a = t ∧ c2 = c
      · rw [if_pos ⟨h2.1, h1.1, h2.2⟩, if_pos (by rw [h2.1, h2.2])]
      · rw [if_neg (fun e => h2 ⟨e.1, e.2.2⟩), if_neg (fun e => h2 (ix_inj h1.2.1 h1.2.2 h.1 h.2 e))]
    · rw [if_neg h1, if_neg h1, if_neg (fun e => h1 ⟨e.2.1, by rw [e.1]; exact h⟩)]
  · rfl
theorem Sm_uL {m : hM} {n : Nat} {w : Nat → Int32} {x v : Int64} : uL (Sm m n w x) 12 n 17 v = Sm m n w v := by
  apply Prod.ext
  · rfl
  · funext a b c
    show (if a = 12 ∧ b = n ∧ c = 17 then v else if a = 12 ∧ b = n ∧ c = 17 then x else m.2 a b c) = if a = 12 ∧ b = n ∧ c = 17 then v else m.2 a b c
    by_cases h : a = 12 ∧ b = n ∧ c = 17
    · rw [if_pos h, if_pos h]
    · rw [if_neg h, if_neg h, if_neg h]
/-- the reference's row -/
def Nm (m : hM) (w : Nat → Int32) : hM := uR m 50 0 w
theorem Nm_self (m : hM) : Nm m (m.1 50 0) = m := by
  apply Prod.ext
  · funext a b c
    show (if a = 50 ∧ b = 0 then m.1 50 0 c else m.1 a b c) = m.1 a b c
    by_cases h : a = 50 ∧ b = 0
    · rw [if_pos h, h.1, h.2]
    · rw [if_neg h]
  · rfl
theorem Nm_r {m : hM} {w : Nat → Int32} {c : Nat} : (Nm m w).1 50 0 c = w c := by
  show (if 50 = 50 ∧ 0 = 0 then w c else m.1 50 0 c) = w c
  exact if_pos ⟨rfl, rfl⟩
theorem Nm_o {m : hM} {w : Nat → Int32} {t b c : Nat} (h : t ≠ 50) : (Nm m w).1 t b c = m.1 t b c := if_neg (fun e => h e.1)
theorem Nm_u {m : hM} {w : Nat → Int32} {c : Nat} {v : Int32} : uI (Nm m w) 50 0 c v = Nm m (upd w c v) := by
  apply Prod.ext
  · funext a b c2
    show (if a = 50 ∧ b = 0 ∧ c2 = c then v else if a = 50 ∧ b = 0 then w c2 else m.1 a b c2) = if a = 50 ∧ b = 0 then (if c2 = c then v else w c2) else m.1 a b c2
    by_cases h1 : a = 50 ∧ b = 0
    · rw [if_pos h1, if_pos h1]
      by_cases h2 : c2 = c
      · rw [if_pos ⟨h1.1, h1.2, h2⟩, if_pos h2]
      · rw [if_neg (fun e => h2 e.2.2), if_neg h2]
    · rw [if_neg h1, if_neg h1, if_neg (fun e => h1 ⟨e.1, e.2.1⟩)]
  · rfl
theorem Nm_uo {m : hM} {w : Nat → Int32} {t b c : Nat} {v : Int32} (h : t ≠ 50) : uI (Nm m w) t b c v = Nm (uI m t b c v) w := by
  apply Prod.ext
  · funext a b2 c2
    show (if a = t ∧ b2 = b ∧ c2 = c then v else if a = 50 ∧ b2 = 0 then w c2 else m.1 a b2 c2) = if a = 50 ∧ b2 = 0 then w c2 else (if a = t ∧ b2 = b ∧ c2 = c then v else m.1 a b2 c2)
    by_cases h1 : a = 50 ∧ b2 = 0
    · rw [if_pos h1, if_pos h1, if_neg (fun e => h (e.1.symm.trans h1.1))]
    · rw [if_neg h1, if_neg h1]
  · rfl
/-! how the combinators go on -/
theorem calI_s {x : Int32} {m1 : hM} {k : Int32 → hM → hR} : calI (some (some (.inl x), m1)) k = k x m1 := rfl
theorem calL_s {x : Int64} {m1 : hM} {k : Int64 → hM → hR} : calL (some (some (.inr (.inl x)), m1)) k = k x m1 := rfl
theorem calV_s {m1 : hM} {k : hM → hR} : calV (some (none, m1)) k = k m1 := rfl
theorem calA_s {t0 n : Nat} {m1 : hM} {k : Nat → hM → hR} (h : n < sCnt t0) : calA t0 (some (some (.inr (.inr (t0, n))), m1)) k = k n m1 := if_pos ⟨rfl, h⟩
theorem lt_s9 {α : Type} {x : α} {k : α → hR} : lt x k = k x := rfl
theorem stI_s {m : hM} {t n c : Nat} {x : Int32} {k : hM → hR} : stI m t n c x k = k (uI m t n c x) := rfl
theorem stL_s {m : hM} {t n c : Nat} {x : Int64} {k : hM → hR} : stL m t n c x k = k (uL m t n c x) := rfl
theorem stZ_0 {m : hM} {t n c : Nat} {k : hM → hR} : stZ m t n c 0 k = k (uI m t n c 0) := if_pos (Or.inl rfl)
theorem stZ_1 {m : hM} {t n c : Nat} {k : hM → hR} : stZ m t n c 1 k = k (uI m t n c 1) := if_pos (Or.inr rfl)
theorem jretZ_0 {m : hM} : jretZ 0 m = some (some (.inl 0), m) := if_pos (Or.inl rfl)
theorem jretZ_1 {m : hM} : jretZ 1 m = some (some (.inl 1), m) := if_pos (Or.inr rfl)
theorem inb_nI {j N : Nat} (h : j < N) (hN : N ≤ 100000) : inb (nI j) N = true := by
  have h1 : j < 2 ^ 31 := by omega
  simp only [inb, nI_pos h1, nI_clamp h1, h, decide_true, decide_false, Bool.not_false, Bool.and_self]
theorem sLen_le (t n : Nat) : sLen t n ≤ 100000 := by
  unfold sLen
  split
  · omega
  · by_cases h : t < 61
    · have e : ∀ t, t < 61 → sLenL.getD t 0 ≤ 100000 := by decide +kernel
      exact e t h
    · rw [List.getD_eq_getElem?_getD, List.getElem?_eq_none (by show 61 ≤ t; omega)]
      decide
theorem ald_n {m : hM} {t n : Nat} {i : Int32} {k : Int32 → hR} (j : Nat) (hi : i = nI j) (ht : iaOK t = true) (hj : j < sLen t n) : ald m t n i k = k (m.1 t n j) := by
  subst hi
  have h1 : j < 2 ^ 31 := Nat.lt_of_lt_of_le hj (Nat.le_trans (sLen_le t n) (by decide))
  unfold ald
  rw [if_pos ⟨ht, inb_nI hj (sLen_le t n)⟩, nI_clamp h1]
theorem ast_n {m : hM} {t n : Nat} {i x : Int32} {k : hM → hR} (j : Nat) (hi : i = nI j) (ht : iaOK t = true) (hj : j < sLen t n) : ast m t n i x k = k (uI m t n j x) := by
  subst hi
  have h1 : j < 2 ^ 31 := Nat.lt_of_lt_of_le hj (Nat.le_trans (sLen_le t n) (by decide))
  unfold ast
  rw [if_pos ⟨ht, inb_nI hj (sLen_le t n)⟩, nI_clamp h1]
theorem zald_n {m : hM} {t n : Nat} {i : Int32} {k : Int32 → hR} (j : Nat) (hi : i = nI j) (ht : zaOK t = true) (hj : j < sLen t n) : zald m t n i k = k (m.1 t n j) := by
  subst hi
  have h1 : j < 2 ^ 31 := Nat.lt_of_lt_of_le hj (Nat.le_trans (sLen_le t n) (by decide))
  unfold zald
  rw [if_pos ⟨ht, inb_nI hj (sLen_le t n)⟩, nI_clamp h1]
theorem zast_n {m : hM} {t n : Nat} {i x : Int32} {k : hM → hR} (j : Nat) (hi : i = nI j) (ht : zaOK t = true) (hj : j < sLen t n) (hx : x = 0 ∨ x = 1) : zast m t n i x k = k (uI m t n j x) := by
  subst hi
  have h1 : j < 2 ^ 31 := Nat.lt_of_lt_of_le hj (Nat.le_trans (sLen_le t n) (by decide))
  unfold zast
  rw [if_pos ⟨ht, inb_nI hj (sLen_le t n), hx⟩, nI_clamp h1]
