/-! a State is copied -/
theorem uI_o {m : hM} {t n k a b c : Nat} {x : Int32} (h : a ≠ t) : (uI m t n k x).1 a b c = m.1 a b c := if_neg (fun e => h e.1)
def bst (w u : Nat → Int32) (lo n : Nat) : Nat → Int32 := fun i => if lo ≤ i ∧ i < lo + n then u i else w i
theorem acp_s {m : hM} {t n n1 N : Nat} {w : Nat → Int32} {x : Int64} {k : Int32} {K : hM → hR} (lo : Nat) (hk : k = nI N) (ht : iaOK t = true) (h : 12 ≤ t ∧ t ≤ 19) (hN : N ≤ sLen t n1) (hN2 : N ≤ sLen t n) (hN3 : N < 1000) (hne : n ≠ n1) (hix : ∀ c, c < N → ix t c = lo + c) (hbig : ∀ c, N ≤ c → N ≤ (ixL.getD (t - 12) []).length → (ixL.getD (t - 12) []).length ≤ N) :
    acp (Sm m n w x) t n1 0 t n 0 k K = K (Sm m n (bst w (vec m n1) lo N) x) := by
  subst hk
  unfold acp
  rw [if_pos ⟨⟨ht, ht⟩, by decide, by decide, nI_pos (by omega), by rw [nI_clamp (by omega)]; show 0 + N ≤ _; omega, by rw [nI_clamp (by omega)]; show 0 + N ≤ _; omega⟩, nI_clamp (by omega), Sm_uR h]
  congr 1
  apply Sm_congr
  intro a c h1 h2
  show (if (lc (ix a c)).1 = t then va_cpy ((Sm m n w x).1 t n1) ((Sm m n w x).1 t n) 0 0 N (lc (ix a c)).2 else w (ix a c)) = if lo ≤ ix a c ∧ ix a c < lo + N then vec m n1 (ix a c) else w (ix a c)
  have ev : vec m n1 (ix a c) = m.1 a n1 c := by
    unfold vec
    rw [lc_ix h1 h2]
  rw [lc_ix h1 h2]
  have key : (a = t ∧ c < N) ↔ (lo ≤ ix a c ∧ ix a c < lo + N) := by
    constructor
    · rintro ⟨e, hc⟩
      rw [e, hix c hc]
      omega
    · rintro ⟨e1, e2⟩
      have e3 : ix a c = ix t (ix a c - lo) := by rw [hix _ (by omega)]; omega
      have e4 := ix_inj h1 h2 h.1 h.2 e3
      exact ⟨e4.1, by omega⟩
  by_cases e : a = t ∧ c < N
  · rw [if_pos e.1, if_pos (key.mp e), ev, pk_cpy_in (by omega) (by omega)]
    rw [Sm_n (Ne.symm hne), e.1, Nat.sub_zero, Nat.zero_add]
  · rw [if_neg (fun z => e (key.mpr z))]
    by_cases e2 : a = t
    · rw [if_pos e2, pk_cpy_out (by omega), Sm_r h, e2]
    · rw [if_neg e2]
theorem vec_at {m : hM} {n1 a c : Nat} (h : 12 ≤ a ∧ a ≤ 19) : m.1 a n1 c = vec m n1 (ix a c) := by
  unfold vec
  rw [lc_ix h.1 h.2]
theorem stZ_b {m : hM} {t n c : Nat} {a : Int32} {k : hM → hR} (h : a = 0 ∨ a = 1) : stZ m t n c a k = k (uI m t n c a) := if_pos h
theorem it1 {i k : Nat} {u : Nat → Int32} {b : Int32} (h : i ≠ k → b = u i) : (if i = k then u k else b) = u i := by
  by_cases c : i = k
  · rw [if_pos c, c]
  · rw [if_neg c, h c]
theorem it2 {i : Nat} {p : Prop} [Decidable p] {u : Nat → Int32} {b : Int32} (h : ¬ p → b = u i) : (if p then u i else b) = u i := by
  by_cases c : p
  · rw [if_pos c]
  · rw [if_neg c, h c]
theorem c_copyT {m : hM} {n n1 : Nat} {w : Nat → Int32} {x : Int64} (hne : n ≠ n1) (h17 : vec m n1 17 = 0 ∨ vec m n1 17 = 1) : JX10_copy n n1 (Sm m n w x) = some (none, Sm m n (bst (upd (upd (upd (upd (upd (upd (upd (upd (upd (upd (upd (upd (upd (upd w 23 (vec m n1 23)) 24 (vec m n1 24)) 17 (vec m n1 17)) 25 (vec m n1 25)) 26 (vec m n1 26)) 27 (vec m n1 27)) 28 (vec m n1 28)) 29 (vec m n1 29)) 30 (vec m n1 30)) 1078 (vec m n1 1078)) 44 (vec m n1 44)) 45 (vec m n1 45)) 43 (vec m n1 43)) 1110 (vec m n1 1110)) (vec m n1) 46 3) x) := by
  have r : ∀ (v : Nat → Int32) (c : Nat), (Sm m n v x).1 18 n1 c = vec m n1 (ix 18 c) := fun v c => by rw [Sm_n (Ne.symm hne), vec_at (by decide)]
  unfold JX10_copy
  simp only [stI_s, r, Sm_u (show 12 ≤ 18 ∧ 18 ≤ 19 by decide), show ix 18 0 = 23 from rfl, show ix 18 1 = 24 from rfl, show ix 18 2 = 17 from rfl, show ix 18 3 = 25 from rfl, show ix 18 4 = 26 from rfl, show ix 18 5 = 27 from rfl, show ix 18 6 = 28 from rfl, show ix 18 7 = 29 from rfl, show ix 18 8 = 30 from rfl, show ix 18 9 = 1078 from rfl, show ix 18 10 = 44 from rfl, show ix 18 11 = 45 from rfl, show ix 18 12 = 43 from rfl, show ix 18 13 = 1110 from rfl, stZ_b h17]
  rw [acp_s (k := 3) (N := 3) 46 rfl (by decide) (by decide) (by show 3 ≤ 3; decide) (by show 3 ≤ 3; decide) (by decide) hne (by decide +kernel) (by intro _ _ _; decide)]
theorem c_copy {m : hM} {n n1 : Nat} (hne : n ≠ n1) (h17 : vec m n1 17 = 0 ∨ vec m n1 17 = 1) (h16 : vec m n1 16 = 0 ∨ vec m n1 16 = 1) (h22 : vec m n1 22 = 0 ∨ vec m n1 22 = 1) : ∃ w, JX8_copy n n1 m = some (none, Sm m n w (m.2 12 n1 17)) ∧ Eq9 w (vec m n1) ∧ w 1088 = vec m n1 1088 ∧ w 1078 = vec m n1 1078 ∧ w 1110 = vec m n1 1110 := by
  have r : ∀ (v : Nat → Int32) (x : Int64) (c : Nat), (Sm m n v x).1 12 n1 c = vec m n1 (ix 12 c) := fun v x c => by rw [Sm_n (Ne.symm hne), vec_at (by decide)]
  have rx : ∀ (v : Nat → Int32) (x : Int64), (Sm m n v x).2 12 n1 17 = m.2 12 n1 17 := fun v x => if_neg (fun e => hne e.2.1.symm)
  have e : JX8_copy n n1 m = JX8_copy n n1 (Sm m n (vec m n) (m.2 12 n 17)) := by rw [Sm_self]
  rw [e]
  unfold JX8_copy
  rw [acp_s (k := 6) (N := 6) 0 rfl (by decide) (by decide) (by show 6 ≤ 6; decide) (by show 6 ≤ 6; decide) (by decide) hne (by decide +kernel) (by intro _ _ _; decide),
    acp_s (k := 6) (N := 6) 6 rfl (by decide) (by decide) (by show 6 ≤ 6; decide) (by show 6 ≤ 6; decide) (by decide) hne (by decide +kernel) (by intro _ _ _; decide),
    acp_s (k := 6) (N := 6) 31 rfl (by decide) (by decide) (by show 6 ≤ 6; decide) (by show 6 ≤ 6; decide) (by decide) hne (by decide +kernel) (by intro _ _ _; decide),
    acp_s (k := 3) (N := 3) 37 rfl (by decide) (by decide) (by show 3 ≤ 3; decide) (by show 3 ≤ 3; decide) (by decide) hne (by decide +kernel) (by intro _ _ _; decide),
    acp_s (k := 3) (N := 3) 40 rfl (by decide) (by decide) (by show 3 ≤ 3; decide) (by show 3 ≤ 3; decide) (by decide) hne (by decide +kernel) (by intro _ _ _; decide),
    c_copyT hne h17, calV_s]
  simp only [stI_s, r, Sm_u (show 12 ≤ 12 ∧ 12 ≤ 19 by decide), show ix 12 6 = 18 from rfl, show ix 12 7 = 14 from rfl, show ix 12 8 = 15 from rfl, show ix 12 9 = 12 from rfl, show ix 12 10 = 13 from rfl, show ix 12 11 = 1088 from rfl, show ix 12 12 = 20 from rfl, show ix 12 13 = 19 from rfl, show ix 12 14 = 21 from rfl, show ix 12 15 = 16 from rfl, show ix 12 16 = 22 from rfl, stZ_b h16, stZ_b h22, stL_s, rx, Sm_uL]
  refine ⟨_, rfl, ?_, ?_, ?_, ?_⟩
  · intro i hi
    simp only [upd_a, bst]
    repeat first | refine it1 (fun _ => ?_) | refine it2 (fun _ => ?_)
    exfalso
    omega
  · simp only [upd_a, bst, Nat.reduceEqDiff, if_true, if_false]
  · simp only [upd_a, bst, Nat.reduceEqDiff, if_true, if_false]
    rfl
  · simp only [upd_a, bst, Nat.reduceEqDiff, if_true, if_false]
    rfl
/-! the reference puts its row aside -/
def rst (m : hM) (t n : Nat) (u : Nat → Int32) (lo N : Nat) : hM := uR m t n (fun i => if lo ≤ i ∧ i < lo + N then u (i - lo) else m.1 t n i)
theorem rst_s {m : hM} {t n lo N : Nat} {u : Nat → Int32} : uI (rst m t n u lo N) t n (lo + N) (u N) = rst m t n u lo (N + 1) := by
  unfold rst
  rw [uI_uR]
  congr 1
  funext i
  show (if i = lo + N then u N else if lo ≤ i ∧ i < lo + N then u (i - lo) else m.1 t n i) = if lo ≤ i ∧ i < lo + (N + 1) then u (i - lo) else m.1 t n i
  by_cases h : i = lo + N
  · rw [if_pos h, if_pos (by omega), h, Nat.add_sub_cancel_left]
  · rw [if_neg h]
    by_cases h2 : lo ≤ i ∧ i < lo + N
    · rw [if_pos h2, if_pos (by omega)]
    · rw [if_neg h2, if_neg (by omega)]
theorem rst_0 {m : hM} {t n lo : Nat} {u : Nat → Int32} : rst m t n u lo 0 = m := uR_self (fun c => by rw [if_neg (by omega)])
theorem rst_o {m : hM} {t n lo N a b c : Nat} {u : Nat → Int32} (h : a ≠ t ∨ b ≠ n) : (rst m t n u lo N).1 a b c = m.1 a b c := if_neg (fun e => by rcases h with h | h; exact h e.1; exact h e.2)
theorem rst_r {m : hM} {t n lo N c : Nat} {u : Nat → Int32} : (rst m t n u lo N).1 t n c = if lo ≤ c ∧ c < lo + N then u (c - lo) else m.1 t n c := uR_r
theorem m_putAside {m : hM} {d : Nat} (hd : d < 5) : JX12_putAside (nI d) m = some (none, rst (uI m 40 0 24 1) 53 0 (m.1 50 0) (51 * d) 51) := by
  unfold JX12_putAside
  rw [stZ_1]
  generalize hm : uI m 40 0 24 1 = m1
  have e50 : ∀ c, m1.1 50 0 c = m.1 50 0 c := fun c => by rw [← hm]; exact uI_o (by decide)
  refine Eq.trans ((congrArg (fun z => JX12_putAside_7 (fun m4 => some (none, m4)) (nI d) FU 0 z) (rst_0 (m := m1) (t := 53) (n := 0) (lo := 51 * d) (u := m.1 50 0)).symm).trans (lpF (fun f (a : Int32 × hM) => JX12_putAside_7 (fun m4 => some (none, m4)) (nI d) f a.1 a.2) (fun i => (nI i, rst m1 53 0 (m.1 50 0) (51 * d) i)) 51 (by omega) (by
    intro i f hi
    show bJX12_putAside_7 _ _ _ (nI i) _ = _
    unfold bJX12_putAside_7
    rw [if_neg (show ¬ (51 : Int32) ≤ nI i from nI_ge (a := i) (b := 51) hi (by decide)), ald_n (t := 50) (n := 0) i rfl (by decide) (by show i < 232; omega), rst_o (by decide), e50, show (51 : Int32) * nI d + nI i = nI (51 * d + i) from by rw [show (51 : Int32) = nI 51 from rfl, pk_mul, nI_add], ast_n (t := 53) (n := 0) (51 * d + i) rfl (by decide) (by show 51 * d + i < 255; omega), rst_s]
    show JX12_putAside_7 _ _ f (nI i + 1) _ = JX12_putAside_7 _ _ f _ _
    rw [← nI_succ]))) ?_
  show bJX12_putAside_7 _ _ _ (nI 51) _ = _
  unfold bJX12_putAside_7
  rw [if_pos (by decide)]
theorem m_bringBack {m : hM} {d : Nat} (hd : d < 5) : JX12_bringBack (nI d) m = some (none, rst (uI m 40 0 24 (if d = 0 then 0 else 1)) 50 0 (fun i => m.1 53 0 (51 * d + i)) 0 51) := by
  have e1 : JX12_bringBack (nI d) m = JX12_bringBack_10 (nI d) (if d = 0 then 0 else 1) m := by
    unfold JX12_bringBack
    by_cases c : d = 0
    · rw [c, if_pos (by decide), if_pos rfl]
    · rw [if_neg (nI_nle (by omega) (by omega)), if_neg c]
  rw [e1]
  unfold JX12_bringBack_10
  rw [stZ_b (by by_cases c : d = 0; exact Or.inl (if_pos c); exact Or.inr (if_neg c))]
  generalize hm : uI m 40 0 24 (if d = 0 then 0 else 1) = m1
  have e50 : ∀ c, m1.1 53 0 c = m.1 53 0 c := fun c => by rw [← hm]; exact uI_o (by decide)
  refine Eq.trans ((congrArg (fun z => JX12_bringBack_15 (fun m4 => some (none, m4)) (nI d) FU 0 z) (rst_0 (m := m1) (t := 50) (n := 0) (lo := 0) (u := fun i => m.1 53 0 (51 * d + i))).symm).trans (lpF (fun f (a : Int32 × hM) => JX12_bringBack_15 (fun m4 => some (none, m4)) (nI d) f a.1 a.2) (fun i => (nI i, rst m1 50 0 (fun i => m.1 53 0 (51 * d + i)) 0 i)) 51 (by omega) (by
    intro i f hi
    show bJX12_bringBack_15 _ _ _ (nI i) _ = _
    unfold bJX12_bringBack_15
    rw [if_neg (show ¬ (51 : Int32) ≤ nI i from nI_ge (a := i) (b := 51) hi (by decide)), show (51 : Int32) * nI d + nI i = nI (51 * d + i) from by rw [show (51 : Int32) = nI 51 from rfl, pk_mul, nI_add], ald_n (t := 53) (n := 0) (51 * d + i) rfl (by decide) (by show 51 * d + i < 255; omega), rst_o (by decide), e50, ast_n (t := 50) (n := 0) i rfl (by decide) (by show i < 232; omega)]
    have e := rst_s (m := m1) (t := 50) (n := 0) (lo := 0) (N := i) (u := fun i => m.1 53 0 (51 * d + i))
    rw [Nat.zero_add] at e
    rw [e]
    show JX12_bringBack_15 _ _ f (nI i + 1) _ = JX12_bringBack_15 _ _ f _ _
    rw [← nI_succ]))) ?_
  show bJX12_bringBack_15 _ _ _ (nI 51) _ = _
  unfold bJX12_bringBack_15
  rw [if_pos (by decide)]
