/-! small values -/
def hwi (a b c : Int32) : Int32 := if a < b then 0 else if c < a then 0 else 1
def hsg (a : Int32) : Int32 := if a ≤ 0 then (if 0 ≤ a then 0 else -1) else 1
def hsz (a : Int32) : Int32 := if 0 ≤ a then a else -a
def hhl (v lo hi : Int32) : Int32 := if lo ≤ v then (if v ≤ hi then v else hi) else lo
def hmx (a b : Int32) : Int32 := if a < b then b else a
def hmn (a b : Int32) : Int32 := if b < a then b else a
def hbt (row k : Int32) : Int32 := (row >>> (k &&& 31)) &&& 1
theorem e_within (a b c : Int32) (m : hM) : JX11_within a b c m = some (some (.inl (hwi a b c)), m) := by
  unfold JX11_within hwi
  split
  · exact jretZ_0
  · split
    · exact jretZ_0
    · exact jretZ_1
theorem e_in (a b c : Int32) (m : hM) : JX12_in a b c m = some (some (.inl (hwi a b c)), m) := by
  unfold JX12_in hwi
  split
  · exact jretZ_0
  · split
    · exact jretZ_0
    · exact jretZ_1
theorem e_signOf (a : Int32) (m : hM) : JX11_signOf a m = some (some (.inl (hsg a)), m) := by
  unfold JX11_signOf hsg
  split
  · split <;> rfl
  · rfl
theorem e_sign (a : Int32) (m : hM) : JX12_sign a m = some (some (.inl (hsg a)), m) := by
  unfold JX12_sign hsg
  split
  · split <;> rfl
  · rfl
theorem e_sizeOf (a : Int32) (m : hM) : JX11_sizeOf a m = some (some (.inl (hsz a)), m) := by
  unfold JX11_sizeOf hsz
  split <;> rfl
theorem e_size (a : Int32) (m : hM) : JX12_size a m = some (some (.inl (hsz a)), m) := by
  unfold JX12_size hsz
  split <;> rfl
theorem e_moved (a b c d : Int32) (m : hM) : JX11_moved a b c d m = some (some (.inl (hhl (a + b) c d)), m) := by
  unfold JX11_moved hhl
  simp only [lt_s9]
  split
  · split <;> rfl
  · rfl
theorem e_held (a c d : Int32) (m : hM) : JX12_held a c d m = some (some (.inl (hhl a c d)), m) := by
  unfold JX12_held hhl
  split
  · split <;> rfl
  · rfl
theorem e_max (a b : Int32) (m : hM) : JJ9_max_7cf53 a b m = some (some (.inl (hmx a b)), m) := by
  unfold JJ9_max_7cf53 hmx
  split <;> rfl
theorem e_min (a b : Int32) (m : hM) : JJ9_min_7cf53 a b m = some (some (.inl (hmn a b)), m) := by
  unfold JJ9_min_7cf53 hmn
  split <;> rfl
theorem e_bitSign (a b : Int32) (m : hM) : JX11_bitSign a b m = some (some (.inl (if hbt a b = 1 then 1 else -1)), m) := by
  unfold JX11_bitSign hbt
  split <;> rfl
theorem e_has (a b : Int32) (m : hM) : JX12_has a b m = some (some (.inl (if hbt a b = 1 then 1 else 0)), m) := by
  unfold JX12_has hbt
  split
  · exact jretZ_1
  · exact jretZ_0
theorem e_turned (a : Int64) (m : hM) : JX11_turned a m = some (some (.inr (.inl ((a * 6364136223846793005) + 1442695040888963407))), m) := rfl
/-! rows of numbers, shifted -/
def shv (w : Nat → Int32) (fr mn : Nat) (x : Int32) : Nat → Int32 := fun c => if c = fr then x else if fr < c ∧ c < fr + mn then w (c - 1) else w c
theorem uR_r {m : hM} {t n c : Nat} {f : Nat → Int32} : (uR m t n f).1 t n c = f c := if_pos ⟨rfl, rfl⟩
theorem uI_r {m : hM} {t n k c : Nat} {x : Int32} : (uI m t n k x).1 t n c = if c = k then x else m.1 t n c := by
  rw [uI_row]; rfl
theorem uR_uI {m : hM} {t n k : Nat} {x : Int32} {f : Nat → Int32} : uR (uI m t n k x) t n f = uR m t n f := by
  apply Prod.ext
  · funext a b c
    show (if a = t ∧ b = n then f c else if a = t ∧ b = n ∧ c = k then x else m.1 a b c) = if a = t ∧ b = n then f c else m.1 a b c
    by_cases h : a = t ∧ b = n
    · rw [if_pos h, if_pos h]
    · rw [if_neg h, if_neg h, if_neg (fun e => h ⟨e.1, e.2.1⟩)]
  · rfl
theorem uR_self {m : hM} {t n : Nat} {f : Nat → Int32} (h : ∀ c, f c = m.1 t n c) : uR m t n f = m := by
  apply Prod.ext
  · funext a b c
    show (if a = t ∧ b = n then f c else m.1 a b c) = m.1 a b c
    by_cases e : a = t ∧ b = n
    · rw [if_pos e, h, e.1, e.2]
    · rw [if_neg e]
  · rfl
theorem uI_uR {m : hM} {t n k : Nat} {x : Int32} {f : Nat → Int32} : uI (uR m t n f) t n k x = uR m t n (upd f k x) := by
  apply Prod.ext
  · funext a b c
    show (if a = t ∧ b = n ∧ c = k then x else if a = t ∧ b = n then f c else m.1 a b c) = if a = t ∧ b = n then (if c = k then x else f c) else m.1 a b c
    by_cases h : a = t ∧ b = n
    · rw [if_pos h, if_pos h]
      by_cases h2 : c = k
      · rw [if_pos ⟨h.1, h.2, h2⟩, if_pos h2]
      · rw [if_neg (fun e => h2 e.2.2), if_neg h2]
    · rw [if_neg h, if_neg h, if_neg (fun e => h ⟨e.1, e.2.1⟩)]
  · rfl
theorem push_loop {t n : Nat} {x : Int32} {K : hM → hR} (ht : iaOK t = true) : ∀ (i f : Nat) (m : hM), i < sLen t n → i < f → JX11_push_5 K t n x f (nI i) m = K (uR m t n (fun c => if 1 ≤ c ∧ c ≤ i then m.1 t n (c - 1) else m.1 t n c)) := by
  intro i
  induction i with
  | zero =>
    intro f m h1 h2
    obtain ⟨f, rfl⟩ : ∃ k, f = k + 1 := ⟨f - 1, by omega⟩
    show bJX11_push_5 _ K t n x (nI 0) m = _
    unfold bJX11_push_5
    rw [if_pos (by decide), uR_self]
    intro c
    rw [if_neg (by omega)]
  | succ i ih =>
    intro f m h1 h2
    obtain ⟨f, rfl⟩ : ∃ k, f = k + 1 := ⟨f - 1, by omega⟩
    have hb : i + 1 < 2 ^ 31 := Nat.lt_of_lt_of_le h1 (Nat.le_trans (sLen_le t n) (by decide))
    show bJX11_push_5 _ K t n x (nI (i + 1)) m = _
    unfold bJX11_push_5
    rw [if_neg (nI_nle (by omega) hb), nI_pred, ald_n i rfl ht (by omega), ast_n (i + 1) rfl ht h1]
    show JX11_push_5 K t n x f (nI (i + 1) + (-1)) _ = _
    rw [pk_m1, ih f _ (by omega) (by omega), uR_uI]
    congr 2
    funext c
    rw [uI_r, uI_r]
    by_cases h : 1 ≤ c ∧ c ≤ i
    · rw [if_pos h, if_neg (by omega), if_pos (by omega)]
    · rw [if_neg h]
      by_cases h3 : c = i + 1
      · rw [if_pos h3, if_pos (by omega), h3]; rfl
      · rw [if_neg h3, if_neg (by omega)]
theorem FU_eq : FU = 100000 := rfl
theorem e_push {t n N : Nat} {x : Int32} {m : hM} (ht : iaOK t = true) (hN : sLen t n = N + 1) (hb : N < 1000) : JX11_push t n x m = some (none, uR m t n (shv (m.1 t n) 0 (N + 1) x)) := by
  unfold JX11_push alenJ
  rw [if_pos ht, hN]
  show JX11_push_5 _ t n x FU (nI (N + 1) - 1) m = _
  rw [nI_pred, push_loop ht N FU m (by omega) (by rw [FU_eq]; omega)]
  rw [if_pos ht]
  show (if nI (N + 1) ≤ 0 then _ else ast _ t n 0 x _) = _
  rw [if_neg (nI_nle (by omega) (by omega)), ast_n (i := 0) 0 rfl ht (by omega), uI_uR]
  congr 3
  funext c
  unfold upd shv
  by_cases h : c = 0
  · rw [if_pos h, if_pos h]
  · rw [if_neg h, if_neg h]
    show (if 1 ≤ c ∧ c ≤ N then m.1 t n (c - 1) else m.1 t n c) = if 0 < c ∧ c < 0 + (N + 1) then m.1 t n (c - 1) else m.1 t n c
    by_cases h2 : 0 < c ∧ c < N + 1
    · rw [if_pos (by omega), if_pos (by omega)]
    · rw [if_neg (by omega), if_neg (by omega)]
theorem shift_loop {fr : Nat} {x : Int32} {K : hM → hR} : ∀ (i f : Nat) (m : hM) (w : Nat → Int32), fr + i < 232 → i < f → JX12_shift_5 K (nI fr) x f (nI i) (Nm m w) = K (Nm m (fun c => if fr < c ∧ c ≤ fr + i then w (c - 1) else w c)) := by
  intro i
  induction i with
  | zero =>
    intro f m w h1 h2
    obtain ⟨f, rfl⟩ : ∃ k, f = k + 1 := ⟨f - 1, by omega⟩
    show bJX12_shift_5 _ K (nI fr) x (nI 0) _ = _
    unfold bJX12_shift_5
    rw [if_pos (by decide)]
    congr 2
    funext c
    rw [if_neg (by omega)]
  | succ i ih =>
    intro f m w h1 h2
    obtain ⟨f, rfl⟩ : ∃ k, f = k + 1 := ⟨f - 1, by omega⟩
    show bJX12_shift_5 _ K (nI fr) x (nI (i + 1)) _ = _
    unfold bJX12_shift_5
    rw [if_neg (nI_nle (by omega) (by omega)), nI_add, show fr + (i + 1) = (fr + i) + 1 from rfl, nI_pred, ald_n (fr + i) rfl (by decide) (by show _ < 232; omega), ast_n (fr + i + 1) rfl (by decide) (by show _ < 232; omega), Nm_r, Nm_u]
    show JX12_shift_5 K (nI fr) x f (nI (i + 1) + (-1)) _ = _
    rw [pk_m1, ih f _ _ (by omega) (by omega)]
    congr 2
    funext c
    unfold upd
    by_cases h : fr < c ∧ c ≤ fr + i
    · rw [if_pos h, if_neg (by omega), if_pos (by omega)]
    · rw [if_neg h]
      by_cases h3 : c = fr + i + 1
      · rw [if_pos h3, if_pos (by omega), h3]; rfl
      · rw [if_neg h3, if_neg (by omega)]
theorem e_shift {fr N : Nat} {x : Int32} {m : hM} {w : Nat → Int32} (h : fr + N < 232) : JX12_shift (nI fr) (nI (N + 1)) x (Nm m w) = some (none, Nm m (shv w fr (N + 1) x)) := by
  unfold JX12_shift
  simp only [lt_s9]
  rw [nI_pred, shift_loop N FU m w h (by rw [FU_eq]; omega), ast_n fr rfl (by decide) (by show _ < 232; omega), Nm_u]
  congr 3
  funext c
  unfold upd shv
  by_cases h : c = fr
  · rw [if_pos h, if_pos h]
  · rw [if_neg h, if_neg h]
    show (if fr < c ∧ c ≤ fr + N then w (c - 1) else w c) = if fr < c ∧ c < fr + (N + 1) then w (c - 1) else w c
    by_cases h2 : fr < c ∧ c < fr + (N + 1)
    · rw [if_pos (by omega), if_pos h2]
    · rw [if_neg (by omega), if_neg h2]
/-! State n: a row is written whole -/
theorem Sm_congr {m : hM} {n : Nat} {w w2 : Nat → Int32} {x : Int64} (h : ∀ a c, 12 ≤ a → a ≤ 19 → w (ix a c) = w2 (ix a c)) : Sm m n w x = Sm m n w2 x := by
  apply Prod.ext
  · funext a b c
    show (if b = n ∧ 12 ≤ a ∧ a ≤ 19 then w (ix a c) else m.1 a b c) = if b = n ∧ 12 ≤ a ∧ a ≤ 19 then w2 (ix a c) else m.1 a b c
    by_cases e : b = n ∧ 12 ≤ a ∧ a ≤ 19
    · rw [if_pos e, if_pos e, h a c e.2.1 e.2.2]
    · rw [if_neg e, if_neg e]
  · rfl
theorem Sm_uR {m : hM} {n : Nat} {w : Nat → Int32} {x : Int64} {t : Nat} {g : Nat → Int32} (h : 12 ≤ t ∧ t ≤ 19) : uR (Sm m n w x) t n g = Sm m n (fun i => if (lc i).1 = t then g (lc i).2 else w i) x := by
  apply Prod.ext
  · funext a b c
    show (if a = t ∧ b = n then g c else if b = n ∧ 12 ≤ a ∧ a ≤ 19 then w (ix a c) else m.1 a b c) = if b = n ∧ 12 ≤ a ∧ a ≤ 19 then (if (lc (ix a c)).1 = t then g (lc (ix a c)).2 else w (ix a c)) else m.1 a b c
    by_cases h1 : b = n ∧ 12 ≤ a ∧ a ≤ 19
    · rw [if_pos h1, if_pos h1, lc_ix h1.2.1 h1.2.2]
      by_cases h2 : a = t
      · rw [if_pos ⟨h2, h1.1⟩, if_pos h2]
      · rw [if_neg (fun e => h2 e.1), if_neg h2]
    · rw [if_neg h1, if_neg h1, if_neg (fun e => h1 ⟨e.2, by rw [e.1]; exact h⟩)]
  · rfl
/-- a row of State n that lies at fr .. in the vector is shifted -/
theorem Sm_shv {m : hM} {n t fr N : Nat} {w : Nat → Int32} {x : Int64} {v : Int32} (h : 12 ≤ t ∧ t ≤ 19) (hix : ∀ c, c < N + 1 → ix t c = fr + c) : uR (Sm m n w x) t n (shv ((Sm m n w x).1 t n) 0 (N + 1) v) = Sm m n (shv w fr (N + 1) v) x := by
  rw [Sm_uR h]
  apply Sm_congr
  intro a c h1 h2
  show (if (lc (ix a c)).1 = t then shv ((Sm m n w x).1 t n) 0 (N + 1) v (lc (ix a c)).2 else w (ix a c)) = shv w fr (N + 1) v (ix a c)
  rw [lc_ix h1 h2]
  by_cases e : a = t
  · subst e
    rw [if_pos rfl]
    show (if c = 0 then v else if 0 < c ∧ c < 0 + (N + 1) then (Sm m n w x).1 a n (c - 1) else (Sm m n w x).1 a n c) = if ix a c = fr then v else if fr < ix a c ∧ ix a c < fr + (N + 1) then w (ix a c - 1) else w (ix a c)
    rw [Sm_r h, Sm_r h]
    by_cases h3 : c < N + 1
    · rw [hix c h3]
      by_cases h4 : c = 0
      · rw [if_pos h4, if_pos (by omega)]
      · rw [if_neg h4, if_pos (by omega), if_neg (by omega), if_pos (by omega), hix (c - 1) (by omega)]
        congr 1
        omega
    · have e2 : ∀ j, j < N + 1 → ix a c ≠ fr + j := fun j hj e3 => by
        rw [← hix j hj] at e3
        have := (ix_inj h1 h2 h1 h2 e3).2
        omega
      have e3 := e2 0 (by omega)
      rw [if_neg (by omega), if_neg (by omega), if_neg (by omega), if_neg (fun z => by
        have := e2 (ix a c - fr) (by omega)
        omega)]
  · have e2 : ∀ j, j < N + 1 → ix a c ≠ fr + j := fun j hj e3 => by
      rw [← hix j hj] at e3
      exact e (ix_inj h1 h2 h.1 h.2 e3).1
    have e3 := e2 0 (by omega)
    rw [if_neg e]
    unfold shv
    rw [if_neg (by omega), if_neg (fun z => by
      have := e2 (ix a c - fr) (by omega)
      omega)]
theorem c_pushS {m : hM} {n : Nat} {w : Nat → Int32} {x : Int64} {v : Int32} : JX11_push 15 n v (Sm m n w x) = some (none, Sm m n (shv w 31 6 v) x) := by
  rw [e_push (N := 5) (by decide) rfl (by decide), Sm_shv (fr := 31) (by decide) (by decide +kernel)]
theorem c_pushK {m : hM} {n : Nat} {w : Nat → Int32} {x : Int64} {v : Int32} : JX11_push 16 n v (Sm m n w x) = some (none, Sm m n (shv w 37 3 v) x) := by
  rw [e_push (N := 2) (by decide) rfl (by decide), Sm_shv (fr := 37) (by decide) (by decide +kernel)]
theorem c_pushZ {m : hM} {n : Nat} {w : Nat → Int32} {x : Int64} {v : Int32} : JX11_push 17 n v (Sm m n w x) = some (none, Sm m n (shv w 40 3 v) x) := by
  rw [e_push (N := 2) (by decide) rfl (by decide), Sm_shv (fr := 40) (by decide) (by decide +kernel)]
