/-! the text, and how far a run goes -/
def rnF (q : Int32 → Bool) (T : Nat → Int32) (l : Nat) : Nat → Nat → Nat
  | 0, p => p
  | k + 1, p => if p < l then (if q (T p) = true then rnF q T l k (p + 1) else p) else p
def rn (q : Int32 → Bool) (T : Nat → Int32) (l p : Nat) : Nat := rnF q T l (l - p) p
section
variable {q : Int32 → Bool} {T : Nat → Int32} {l p : Nat}
theorem rnF_s (k : Nat) : rnF q T l (k + 1) p = if p < l then (if q (T p) = true then rnF q T l k (p + 1) else p) else p := rfl
theorem rn_y (hp : p < l) (h : q (T p) = true) : rn q T l p = rn q T l (p + 1) := by
  unfold rn
  rw [show l - p = (l - (p + 1)) + 1 from by omega, rnF_s, if_pos hp, if_pos h]
theorem rn_n (hp : p < l) (h : ¬ q (T p) = true) : rn q T l p = p := by
  unfold rn
  rw [show l - p = (l - (p + 1)) + 1 from by omega, rnF_s, if_pos hp, if_neg h]
theorem rn_e (hp : l ≤ p) : rn q T l p = p := by
  unfold rn
  rw [show l - p = 0 from by omega]
  rfl
theorem rn_b : ∀ k p, l - p = k → p ≤ l → p ≤ rn q T l p ∧ rn q T l p ≤ l ∧ (∀ i, p ≤ i → i < rn q T l p → q (T i) = true) ∧ (rn q T l p < l → ¬ q (T (rn q T l p)) = true) := by
  intro k
  induction k with
  | zero =>
    intro p h1 h2
    rw [rn_e (by omega)]
    exact ⟨by omega, h2, fun i a b => absurd b (by omega), fun z => absurd z (by omega)⟩
  | succ k ih =>
    intro p h1 h2
    by_cases c : q (T p) = true
    · rw [rn_y (by omega) c]
      obtain ⟨a, b, d, e⟩ := ih (p + 1) (by omega) (by omega)
      refine ⟨by omega, b, fun i x y => ?_, e⟩
      by_cases z : i = p
      · rw [z]; exact c
      · exact d i (by omega) y
    · rw [rn_n (by omega) c]
      exact ⟨by omega, h2, fun i a b => absurd b (by omega), fun _ => c⟩
end
def qB (c : Int32) : Bool := decide (c = 32)
def qL (c : Int32) : Bool := decide (hwi c 97 122 = 1)
def qD (c : Int32) : Bool := decide (hwi c 48 57 = 1)
def tA (T : Nat → Int32) (l i : Nat) : Int32 := if i < l then T i else -1
def CTx (M : hM) (T : Nat → Int32) (l : Nat) : Prop := M.1 1 0 4 = nI l ∧ l ≤ 240 ∧ ∀ i, i < l → M.1 2 0 i = T i
def RTx (M : hM) (T : Nat → Int32) (l : Nat) : Prop := M.1 40 0 2 = nI l ∧ l ≤ 240 ∧ ∀ i, i < l → M.1 41 0 i = T i
theorem uI_id {m : hM} {t n k : Nat} {x : Int32} (h : m.1 t n k = x) : uI m t n k x = m := by
  refine Prod.ext ?_ rfl
  funext a b c
  show (if a = t ∧ b = n ∧ c = k then x else m.1 a b c) = m.1 a b c
  by_cases e : a = t ∧ b = n ∧ c = k
  · rw [if_pos e, e.1, e.2.1, e.2.2, h]
  · rw [if_neg e]
section
variable {M : hM} {T : Nat → Int32} {l p : Nat}
theorem CTx_u {k : Nat} {x : Int32} (h : CTx M T l) (hk : k ≠ 4) : CTx (uI M 1 0 k x) T l := ⟨by rw [uI_n (Or.inr (by omega))]; exact h.1, h.2.1, fun i hi => by rw [uI_o (by decide)]; exact h.2.2 i hi⟩
theorem RTx_u {k : Nat} {x : Int32} (h : RTx M T l) (hk : k ≠ 2) : RTx (uI M 40 0 k x) T l := ⟨by rw [uI_n (Or.inr (by omega))]; exact h.1, h.2.1, fun i hi => by rw [uI_o (by decide)]; exact h.2.2 i hi⟩
theorem RTx_L {k : Nat} {x : Int64} (h : RTx M T l) : RTx (uL M 40 0 k x) T l := h
theorem c_at (h : CTx M T l) (hp : p < 1000) : JX6_byteAt (nI p) M = some (some (.inl (tA T l p)), M) := by
  obtain ⟨h1, h2, h3⟩ := h
  unfold JX6_byteAt tA
  rw [if_neg (show ¬ nI p < 0 from nI_nlt (b := 0) (by omega) (by omega)), h1]
  by_cases c : p < l
  · rw [if_pos c, if_neg (nI_ge c (by omega)), if_neg (show ¬ (240 : Int32) ≤ nI p from nI_ge (b := 240) (by omega) (by decide)), ald_n (t := 2) (n := 0) p rfl (by decide) (show p < 240 by omega), h3 p c]
  · rw [if_neg c, if_pos (nI_le (by omega) (by omega))]
theorem m_here (h : RTx M T l) (hp : M.1 40 0 3 = nI p) (hl : p < 1000) : JX12_here M = some (some (.inl (tA T l p)), M) := by
  obtain ⟨h1, h2, h3⟩ := h
  unfold JX12_here tA
  rw [h1, hp]
  by_cases c : p < l
  · rw [if_pos c, if_neg (nI_ge c (by omega)), ald_n (t := 41) (n := 0) p rfl (by decide) (show p < 240 by omega), h3 p c]
  · rw [if_neg c, if_pos (nI_le (by omega) (by omega))]
theorem tA_y (h : p < l) : tA T l p = T p := if_pos h
theorem tA_n (h : ¬ p < l) : tA T l p = -1 := if_neg h
theorem c_skip0 {K : hM → hR} : ∀ k p M, l - p = k → p ≤ l → CTx M T l → M.1 1 0 5 = nI p → ∀ F, JX6_skipBlanks_0 K (F + k + 1) M = K (uI M 1 0 5 (nI (rn qB T l p))) := by
  intro k
  induction k with
  | zero =>
    intro p M h1 h2 h3 h4 F
    show bJX6_skipBlanks_0 _ _ _ = _
    unfold bJX6_skipBlanks_0
    rw [h3.1, h4, if_pos (nI_le (by omega) (by have := h3.2.1; omega)), rn_e (by omega), uI_id h4]
  | succ k ih =>
    intro p M h1 h2 h3 h4 F
    have l2 := h3.2.1
    show bJX6_skipBlanks_0 _ _ _ = _
    unfold bJX6_skipBlanks_0
    rw [h3.1, h4, if_neg (nI_ge (by omega) (by omega)), c_at h3 (by omega), calI_s, tA_y (by omega)]
    by_cases c : T p = 32
    · rw [if_pos c, stI_s, h4, ← nI_succ]
      refine (ih (p + 1) _ (by omega) (by omega) (CTx_u h3 (by decide)) uI_s F).trans ?_
      rw [uI_2, rn_y (p := p) (by omega) (by unfold qB; exact decide_eq_true c)]
    · rw [if_neg c, rn_n (by omega) (fun z => c (by unfold qB at z; exact of_decide_eq_true z)), uI_id h4]
theorem c_skip (h2 : p ≤ l) (h3 : CTx M T l) (h4 : M.1 1 0 5 = nI p) : JX6_skipBlanks M = some (none, uI M 1 0 5 (nI (rn qB T l p))) := by
  unfold JX6_skipBlanks
  have l2 := h3.2.1
  have z := c_skip0 (K := fun m4 => some (none, m4)) (l - p) p M rfl h2 h3 h4 (100000 - (l - p) - 1)
  rw [show 100000 - (l - p) - 1 + (l - p) + 1 = FU from by rw [FU_eq]; omega] at z
  exact z
theorem c_passB {x : Int32} (hx : x ≠ -1) (h2 : p ≤ l) (h3 : CTx M T l) (h4 : M.1 1 0 5 = nI p) : JX6_passByte x M = if tA T l (rn qB T l p) = x then some (some (.inl 1), uI M 1 0 5 (nI (rn qB T l p + 1))) else some (some (.inl 0), uI M 1 0 5 (nI (rn qB T l p))) := by
  have l2 := h3.2.1
  obtain ⟨b1, b2, _⟩ := rn_b (q := qB) (T := T) (l := l) (l - p) p rfl h2
  unfold JX6_passByte
  rw [c_skip h2 h3 h4, calV_s, uI_s, c_at (CTx_u h3 (by decide)) (by omega), calI_s, uI_s, stI_s, uI_2, ← nI_succ, jretZ_1, jretZ_0]
end
theorem ne_m1b {a : Int32} (h : bw a 1 255) : a ≠ -1 := fun e => by
  have := h.1
  rw [e, show (-1 : Int32).toInt = -1 from by decide] at this
  omega
/-! a token of the reference -/
def stR (v c : Int32) : Int32 := if v < 1000000 then ((10 * v) + c) - 48 else 1000000
def stK (v c : Int32) : Int32 := hmn (((v * 10) + c) - 48) 100000
def nF (f : Int32 → Int32 → Int32) (T : Nat → Int32) : Nat → Nat → Int32 → Int32
  | 0, _, v => v
  | n + 1, p, v => nF f T n (p + 1) (f v (T p))
def wF (T : Nat → Int32) : Nat → Nat → Nat → Int64 → Int64
  | 0, _, _, w => w
  | n + 1, p, c, w => wF T n (p + 1) (c + 1) (if c + 1 ≤ 6 then (((32 * w) + (T p).toInt64) - 97) + 1 else 0)
def dgt (T : Nat → Int32) (l p : Nat) : Nat := rn qD T l p - p
def ltr (T : Nat → Int32) (l p : Nat) : Nat := rn qL T l p - p
def tK (T : Nat → Int32) (l s : Nat) : Int32 := if s < l then (if qL (T s) = true then 1 else if qD (T s) = true then 2 else if T s = 45 then (if qD (tA T l (s + 1)) = true then 2 else 5) else if T s = 59 then 3 else if T s = 44 then 4 else 5) else 0
def tE (T : Nat → Int32) (l s : Nat) : Nat := if s < l then (if qL (T s) = true then rn qL T l s else if qD (T s) = true then rn qD T l s else if T s = 45 then (if qD (tA T l (s + 1)) = true then rn qD T l (s + 1) else s + 1) else s + 1) else s
def tV (f : Int32 → Int32 → Int32) (T : Nat → Int32) (l s : Nat) : Int32 := if T s = 45 then -(nF f T (dgt T l (s + 1)) (s + 1) 0) else nF f T (dgt T l s) s 0
def tW (T : Nat → Int32) (l s : Nat) : Int64 := if ltr T l s ≤ 6 then wF T (ltr T l s) s 0 0 else 0
def Tok (M : hM) (T : Nat → Int32) (l s : Nat) : Prop := M.1 40 0 6 = nI s ∧ M.1 40 0 5 = tK T l s ∧ M.1 40 0 3 = nI (tE T l s) ∧ (tK T l s = 2 → M.1 40 0 7 = tV stR T l s) ∧ (tK T l s = 1 → M.2 40 0 8 = tW T l s)
def Nx (m M : hM) : Prop := (∀ a b c, ¬ (a = 40 ∧ (c = 3 ∨ c = 5 ∨ c = 6 ∨ c = 7)) → M.1 a b c = m.1 a b c) ∧ ∀ a b c, ¬ (a = 40 ∧ c = 8) → M.2 a b c = m.2 a b c
theorem Nx_r (m : hM) : Nx m m := ⟨fun _ _ _ _ => rfl, fun _ _ _ _ => rfl⟩
theorem Nx_t {a b c : hM} (h : Nx a b) (h2 : Nx b c) : Nx a c := ⟨fun x y z q => (h2.1 x y z q).trans (h.1 x y z q), fun x y z q => (h2.2 x y z q).trans (h.2 x y z q)⟩
theorem Nx_u {m : hM} {k : Nat} {x : Int32} (h : k = 3 ∨ k = 5 ∨ k = 6 ∨ k = 7) : Nx m (uI m 40 0 k x) := ⟨fun a b c q => uI_n (by omega), fun _ _ _ _ => rfl⟩
theorem Nx_L {m : hM} {x : Int64} : Nx m (uL m 40 0 8 x) := ⟨fun _ _ _ _ => rfl, fun a b c q => by
  show (if a = 40 ∧ b = 0 ∧ c = 8 then x else m.2 a b c) = m.2 a b c
  rw [if_neg (fun e => q ⟨e.1, e.2.2⟩)]⟩
theorem RTx_N {m M : hM} {T : Nat → Int32} {l : Nat} (h : Nx m M) (q : RTx m T l) : RTx M T l := ⟨by rw [h.1 40 0 2 (by decide)]; exact q.1, q.2.1, fun i hi => by rw [h.1 41 0 i (by omega)]; exact q.2.2 i hi⟩
theorem e_mD (a : Int32) (m : hM) : JX12_isDigit a m = some (some (.inl (hwi a 48 57)), m) := by
  unfold JX12_isDigit hwi
  split
  · exact jretZ_0
  · split
    · exact jretZ_0
    · exact jretZ_1
theorem e_mL (a : Int32) (m : hM) : JX12_isLetter a m = some (some (.inl (hwi a 97 122)), m) := by
  unfold JX12_isLetter hwi
  split
  · exact jretZ_0
  · split
    · exact jretZ_0
    · exact jretZ_1
theorem e_cD (a : Int32) (m : hM) : JX6_isDigit a m = some (some (.inl (hwi a 48 57)), m) := by
  unfold JX6_isDigit
  rw [e_within, calI_s]
  exact jretZ_b (hwi_b _ _ _)
theorem qD_y {c : Int32} (h : qD c = true) : hwi c 48 57 = 1 := by unfold qD at h; exact of_decide_eq_true h
theorem qD_n {c : Int32} (h : ¬ qD c = true) : hwi c 48 57 = 0 := (hwi_b c 48 57).resolve_right (fun z => h (by unfold qD; exact decide_eq_true z))
theorem qL_y {c : Int32} (h : qL c = true) : hwi c 97 122 = 1 := by unfold qL at h; exact of_decide_eq_true h
theorem qL_n {c : Int32} (h : ¬ qL c = true) : hwi c 97 122 = 0 := (hwi_b c 97 122).resolve_right (fun z => h (by unfold qL; exact decide_eq_true z))
theorem qD_m1 : ¬ qD (-1) = true := by decide
theorem qL_m1 : ¬ qL (-1) = true := by decide
section
variable {T : Nat → Int32} {l : Nat}
theorem dgt_0 {p : Nat} (h : l ≤ p) : dgt T l p = 0 := by unfold dgt; rw [rn_e h]; omega
theorem dgt_n {p : Nat} (h : p < l) (c : ¬ qD (T p) = true) : dgt T l p = 0 := by unfold dgt; rw [rn_n h c]; omega
theorem dgt_y {p : Nat} (h : p < l) (c : qD (T p) = true) : dgt T l p = dgt T l (p + 1) + 1 := by
  have := (rn_b (q := qD) (T := T) (l := l) (l - (p + 1)) (p + 1) rfl (by omega)).1
  unfold dgt
  rw [rn_y h c]
  omega
theorem ltr_0 {p : Nat} (h : l ≤ p) : ltr T l p = 0 := by unfold ltr; rw [rn_e h]; omega
theorem ltr_n {p : Nat} (h : p < l) (c : ¬ qL (T p) = true) : ltr T l p = 0 := by unfold ltr; rw [rn_n h c]; omega
theorem ltr_y {p : Nat} (h : p < l) (c : qL (T p) = true) : ltr T l p = ltr T l (p + 1) + 1 := by
  have := (rn_b (q := qL) (T := T) (l := l) (l - (p + 1)) (p + 1) rfl (by omega)).1
  unfold ltr
  rw [rn_y h c]
  omega
theorem m_num0 {K : Int32 → hM → hR} {a : Int32} : ∀ k p M v, l - p = k → p ≤ l → RTx M T l → M.1 40 0 3 = nI p → ∀ F, JX12_nextNumber_7 K a (F + k + 1) v M = K (nF stR T (dgt T l p) p v) (uI M 40 0 3 (nI (rn qD T l p))) := by
  intro k
  induction k with
  | zero =>
    intro p M v h1 h2 h3 h4 F
    have l2 := h3.2.1
    show bJX12_nextNumber_7 _ _ _ _ _ = _
    unfold bJX12_nextNumber_7
    rw [m_here h3 h4 (by omega), calI_s, tA_n (by omega), e_mD, calI_s, qD_n qD_m1, if_pos rfl, rn_e (by omega), uI_id h4, dgt_0 (by omega)]
    rfl
  | succ k ih =>
    intro p M v h1 h2 h3 h4 F
    have l2 := h3.2.1
    show bJX12_nextNumber_7 _ _ _ _ _ = _
    unfold bJX12_nextNumber_7 JX12_nextNumber_40
    rw [m_here h3 h4 (by omega), calI_s, tA_y (by omega), e_mD, calI_s]
    by_cases c : qD (T p) = true
    · have go := fun v2 => (ih (p + 1) (uI M 40 0 3 (nI (p + 1))) v2 (by omega) (by omega) (RTx_u h3 (by decide)) uI_s F)
      rw [qD_y c, if_neg (by decide), m_here h3 h4 (by omega), calI_s, tA_y (by omega), stI_s, h4, ← nI_succ, dgt_y (by omega) c, rn_y (by omega) c]
      show _ = K (nF stR T (dgt T l (p + 1)) (p + 1) (stR v (T p))) _
      unfold stR
      by_cases d : v < 1000000
      · rw [if_pos d, if_pos d]
        refine (go _).trans ?_
        rw [uI_2]
        rfl
      · rw [if_neg d, if_neg d]
        refine (go _).trans ?_
        rw [uI_2]
        rfl
    · rw [qD_n c, if_pos rfl, rn_n (by omega) c, uI_id h4, dgt_n (by omega) c]
      rfl
theorem m_num {M : hM} {p : Nat} {a : Int32} (h2 : p ≤ l) (h3 : RTx M T l) (h4 : M.1 40 0 3 = nI p) : ∃ M2, JX12_nextNumber a M = some (none, M2) ∧ Nx M M2 ∧ M2.1 40 0 5 = 2 ∧ M2.1 40 0 6 = M.1 40 0 6 ∧ M2.1 40 0 3 = nI (rn qD T l p) ∧ M2.1 40 0 7 = (if a = 0 then nF stR T (dgt T l p) p 0 else -(nF stR T (dgt T l p) p 0)) := by
  have l2 := h3.2.1
  have z := fun K => m_num0 (K := K) (a := a) (l - p) p (uI M 40 0 5 2) 0 rfl h2 (RTx_u h3 (by decide)) (by rw [uI_n (by decide)]; exact h4) (100000 - (l - p) - 1)
  rw [show 100000 - (l - p) - 1 + (l - p) + 1 = FU from by rw [FU_eq]; omega] at z
  refine ⟨uI (uI (uI M 40 0 5 2) 40 0 3 (nI (rn qD T l p))) 40 0 7 (if a = 0 then nF stR T (dgt T l p) p 0 else -(nF stR T (dgt T l p) p 0)), ?_, Nx_t (Nx_u (by decide)) (Nx_t (Nx_u (by decide)) (Nx_u (by decide))), ?_, ?_, ?_, uI_s⟩
  · unfold JX12_nextNumber
    rw [stI_s, z, stI_s, stI_s]
    by_cases c : a = 0
    · rw [if_pos c, if_pos c]
    · rw [if_neg c, if_neg c]
  · rw [uI_n (by decide), uI_n (by decide), uI_s]
  · rw [uI_n (by decide), uI_n (by decide), uI_n (by decide)]
  · rw [uI_n (by decide), uI_s]
theorem m_wrd0 {K : Int32 → hM → hR} : ∀ k p M c w, l - p = k → p ≤ l → c + (l - p) ≤ 1000 → RTx M T l → M.1 40 0 3 = nI p → M.2 40 0 8 = w → ∀ F, ∃ M2, JX12_nextWord_12 K (F + k + 1) (nI c) M = K (nI (c + ltr T l p)) M2 ∧ Nx M M2 ∧ M2.1 40 0 5 = M.1 40 0 5 ∧ M2.1 40 0 6 = M.1 40 0 6 ∧ M2.1 40 0 3 = nI (rn qL T l p) ∧ M2.2 40 0 8 = wF T (ltr T l p) p c w := by
  intro k
  induction k with
  | zero =>
    intro p M c w h1 h2 hc h3 h4 h5 F
    have l2 := h3.2.1
    refine ⟨M, ?_, Nx_r M, rfl, rfl, by rw [rn_e (by omega)]; exact h4, by rw [ltr_0 (by omega)]; exact h5⟩
    show bJX12_nextWord_12 _ _ _ _ = _
    unfold bJX12_nextWord_12
    rw [m_here h3 h4 (by omega), calI_s, tA_n (by omega), e_mL, calI_s, qL_n qL_m1, if_pos rfl, ltr_0 (by omega)]
    rfl
  | succ k ih =>
    intro p M c w h1 h2 hc h3 h4 h5 F
    have l2 := h3.2.1
    by_cases d : qL (T p) = true
    · obtain ⟨M2, a1, a2, a3, a4, a5, a6⟩ := ih (p + 1) (uI (uL (uL M 40 0 8 ((((32 * w) + (T p).toInt64) - 97) + 1)) 40 0 8 (if c + 1 ≤ 6 then (((32 * w) + (T p).toInt64) - 97) + 1 else 0)) 40 0 3 (nI (p + 1))) (c + 1) (if c + 1 ≤ 6 then (((32 * w) + (T p).toInt64) - 97) + 1 else 0) (by omega) (by omega) (by omega) (RTx_u (RTx_L (RTx_L h3)) (by decide)) uI_s (show (uL (uL M 40 0 8 ((((32 * w) + (T p).toInt64) - 97) + 1)) 40 0 8 (if c + 1 ≤ 6 then (((32 * w) + (T p).toInt64) - 97) + 1 else 0)).2 40 0 8 = _ from uL_s) F
      have fr : Nx M (uI (uL (uL M 40 0 8 ((((32 * w) + (T p).toInt64) - 97) + 1)) 40 0 8 (if c + 1 ≤ 6 then (((32 * w) + (T p).toInt64) - 97) + 1 else 0)) 40 0 3 (nI (p + 1))) := Nx_t Nx_L (Nx_t Nx_L (Nx_u (by decide)))
      refine ⟨M2, ?_, Nx_t fr a2, ?_, ?_, by rw [rn_y (by omega) d]; exact a5, by rw [ltr_y (by omega) d]; exact a6⟩
      · rw [ltr_y (by omega) d, show c + (ltr T l (p + 1) + 1) = c + 1 + ltr T l (p + 1) from by omega, ← a1]
        show bJX12_nextWord_12 _ _ _ _ = _
        unfold bJX12_nextWord_12 JX12_nextWord_64
        rw [m_here h3 h4 (by omega), calI_s, tA_y (by omega), e_mL, calI_s, qL_y d, if_neg (by decide), m_here h3 h4 (by omega), calI_s, tA_y (by omega), stL_s, h5, uL_s, ← nI_succ, stL_s, stL_s, stI_s, stI_s]
        have e3 : ∀ x : Int64, (uL (uL M 40 0 8 ((((32 * w) + (T p).toInt64) - 97) + 1)) 40 0 8 x).1 40 0 3 + 1 = nI (p + 1) := fun x => by
          show M.1 40 0 3 + 1 = _
          rw [h4, ← nI_succ]
        rw [e3, e3]
        by_cases e : c + 1 ≤ 6
        · rw [if_pos e, if_pos (show nI (c + 1) ≤ 6 from nI_le (b := 6) e (by decide))]
          try rfl
        · rw [if_neg e, if_neg (show ¬ nI (c + 1) ≤ 6 from nI_ge (a := 6) (by omega) (by omega))]
          try rfl
      · rw [a3, uI_n (by decide)]; rfl
      · rw [a4, uI_n (by decide)]; rfl
    · refine ⟨M, ?_, Nx_r M, rfl, rfl, by rw [rn_n (by omega) d]; exact h4, by rw [ltr_n (by omega) d]; exact h5⟩
      show bJX12_nextWord_12 _ _ _ _ = _
      unfold bJX12_nextWord_12
      rw [m_here h3 h4 (by omega), calI_s, tA_y (by omega), e_mL, calI_s, qL_n d, if_pos rfl, ltr_n (by omega) d]
      rfl
theorem m_wrd {M : hM} {p : Nat} (h2 : p ≤ l) (h3 : RTx M T l) (h4 : M.1 40 0 3 = nI p) : ∃ M2, JX12_nextWord M = some (none, M2) ∧ Nx M M2 ∧ M2.1 40 0 5 = 1 ∧ M2.1 40 0 6 = M.1 40 0 6 ∧ M2.1 40 0 3 = nI (rn qL T l p) ∧ M2.2 40 0 8 = tW T l p := by
  have l2 := h3.2.1
  have rb := rn_b (q := qL) (T := T) (l := l) (l - p) p rfl h2
  have hl : ltr T l p ≤ 240 := by unfold ltr; omega
  obtain ⟨M2, a1, a2, a3, a4, a5, a6⟩ := m_wrd0 (K := fun v1 m12 => if v1 ≤ 6 then (stL m12 40 0 8 (m12.2 40 0 8) fun m13 => some (none, m13)) else (stL m12 40 0 8 0 fun m14 => some (none, m14))) (l - p) p (uL (uI M 40 0 5 1) 40 0 8 0) 0 0 rfl h2 (by omega) (RTx_L (RTx_u h3 (by decide))) (show (uI M 40 0 5 1).1 40 0 3 = nI p by rw [uI_n (by decide)]; exact h4) uL_s (100000 - (l - p) - 1)
  rw [show 100000 - (l - p) - 1 + (l - p) + 1 = FU from by rw [FU_eq]; omega] at a1
  have fr : Nx M M2 := Nx_t (Nx_u (by decide)) (Nx_t Nx_L a2)
  refine ⟨uL M2 40 0 8 (tW T l p), ?_, Nx_t fr Nx_L, ?_, ?_, a5, uL_s⟩
  · unfold JX12_nextWord
    rw [stI_s, stL_s]
    refine a1.trans ?_
    rw [Nat.zero_add, stL_s, stL_s, a6]
    unfold tW
    by_cases c : ltr T l p ≤ 6
    · rw [if_pos c, if_pos (show nI (ltr T l p) ≤ 6 from nI_le (b := 6) c (by decide))]
    · rw [if_neg c, if_neg (show ¬ nI (ltr T l p) ≤ 6 from nI_ge (a := 6) (by omega) (by omega))]
  · show M2.1 40 0 5 = 1
    rw [a3]
    show (uI M 40 0 5 1).1 40 0 5 = 1
    exact uI_s
  · show M2.1 40 0 6 = _
    rw [a4]
    show (uI M 40 0 5 1).1 40 0 6 = _
    exact uI_n (by decide)
theorem m_blk0 {K : hM → hR} : ∀ k p M, l - p = k → p ≤ l → RTx M T l → M.1 40 0 3 = nI p → ∀ F, JX12_next_0 K (F + k + 1) M = K (uI M 40 0 3 (nI (rn qB T l p))) := by
  intro k
  induction k with
  | zero =>
    intro p M h1 h2 h3 h4 F
    have l2 := h3.2.1
    show bJX12_next_0 _ _ _ = _
    unfold bJX12_next_0
    rw [m_here h3 h4 (by omega), calI_s, tA_n (by omega), if_neg (by decide), rn_e (by omega), uI_id h4]
  | succ k ih =>
    intro p M h1 h2 h3 h4 F
    have l2 := h3.2.1
    show bJX12_next_0 _ _ _ = _
    unfold bJX12_next_0
    rw [m_here h3 h4 (by omega), calI_s, tA_y (by omega)]
    by_cases c : T p = 32
    · rw [if_pos c, stI_s, h4, ← nI_succ]
      refine (ih (p + 1) _ (by omega) (by omega) (RTx_u h3 (by decide)) uI_s F).trans ?_
      rw [uI_2, rn_y (p := p) (by omega) (by unfold qB; exact decide_eq_true c)]
    · rw [if_neg c, rn_n (by omega) (fun z => c (by unfold qB at z; exact of_decide_eq_true z)), uI_id h4]
theorem m_nxt {M : hM} {p : Nat} (hb : ∀ i, i < l → bw (T i) 1 255) (h2 : p ≤ l) (h3 : RTx M T l) (h4 : M.1 40 0 3 = nI p) : ∃ M2, JX12_next M = some (none, M2) ∧ Nx M M2 ∧ Tok M2 T l (rn qB T l p) := by
  have l2 := h3.2.1
  obtain ⟨r1, r2, r3, r4⟩ := rn_b (q := qB) (T := T) (l := l) (l - p) p rfl h2
  have z := fun K => m_blk0 (K := K) (l - p) p M rfl h2 h3 h4 (100000 - (l - p) - 1)
  rw [show 100000 - (l - p) - 1 + (l - p) + 1 = FU from by rw [FU_eq]; omega] at z
  unfold JX12_next
  rw [z]
  generalize rn qB T l p = s at *
  have g3 : RTx (uI (uI M 40 0 3 (nI s)) 40 0 6 (nI s)) T l := RTx_u (RTx_u h3 (by decide)) (by decide)
  have g4 : (uI (uI M 40 0 3 (nI s)) 40 0 6 (nI s)).1 40 0 3 = nI s := by rw [uI_n (by decide), uI_s]
  have g6 : (uI (uI M 40 0 3 (nI s)) 40 0 6 (nI s)).1 40 0 6 = nI s := uI_s
  have gn : Nx M (uI (uI M 40 0 3 (nI s)) 40 0 6 (nI s)) := Nx_t (Nx_u (by decide)) (Nx_u (by decide))
  rw [stI_s, uI_s]
  generalize uI (uI M 40 0 3 (nI s)) 40 0 6 (nI s) = N at *
  rw [m_here g3 g4 (by omega), calI_s]
  unfold Tok tK tE tV
  by_cases c : s < l
  · rw [tA_y c, if_pos c, if_pos c]
    have t1 : T s ≠ -1 := ne_m1b (hb s c)
    rw [if_neg t1, e_mL, calI_s]
    by_cases cl : qL (T s) = true
    · obtain ⟨M2, a1, a2, a3, a4, a5, a6⟩ := m_wrd r2 g3 g4
      rw [qL_y cl, if_neg (by decide), a1, calV_s, if_pos cl, if_pos cl]
      refine ⟨M2, rfl, Nx_t gn a2, a4.trans g6, a3, a5, fun y => absurd y (by decide), fun _ => a6⟩
    · rw [qL_n cl, if_pos rfl, e_mD, calI_s, if_neg cl, if_neg cl]
      by_cases cd : qD (T s) = true
      · obtain ⟨M2, a1, a2, a3, a4, a5, a6⟩ := m_num (a := 0) r2 g3 g4
        have n45 : ¬ T s = 45 := fun e => by rw [e] at cd; exact absurd cd (by decide)
        rw [qD_y cd, if_neg (by decide), a1, calV_s, if_pos cd, if_pos cd, if_neg n45]
        rw [if_pos rfl] at a6
        refine ⟨M2, rfl, Nx_t gn a2, a4.trans g6, a3, a5, fun _ => a6, fun y => absurd y (by decide)⟩
      · rw [qD_n cd, if_pos rfl, if_neg cd, if_neg cd]
        have k3 : RTx (uI N 40 0 3 (nI (s + 1))) T l := RTx_u g3 (by decide)
        by_cases c45 : T s = 45
        · have k5 : RTx (uI (uI N 40 0 3 (nI (s + 1))) 40 0 5 5) T l := RTx_u k3 (by decide)
          have k4 : (uI (uI N 40 0 3 (nI (s + 1))) 40 0 5 5).1 40 0 3 = nI (s + 1) := by rw [uI_n (by decide), uI_s]
          have kn : Nx N (uI (uI N 40 0 3 (nI (s + 1))) 40 0 5 5) := Nx_t (Nx_u (by decide)) (Nx_u (by decide))
          have k6 : (uI (uI N 40 0 3 (nI (s + 1))) 40 0 5 5).1 40 0 6 = nI s := by rw [uI_n (by decide), uI_n (by decide)]; exact g6
          have kk : (uI (uI N 40 0 3 (nI (s + 1))) 40 0 5 5).1 40 0 5 = 5 := uI_s
          rw [if_pos c45, if_pos c45, if_pos c45, stI_s, g4, ← nI_succ, stI_s]
          generalize uI (uI N 40 0 3 (nI (s + 1))) 40 0 5 5 = N2 at *
          rw [m_here k5 k4 (by omega), calI_s, e_mD, calI_s]
          by_cases cn : qD (tA T l (s + 1)) = true
          · obtain ⟨M2, a1, a2, a3, a4, a5, a6⟩ := m_num (a := 1) (show s + 1 ≤ l by omega) k5 k4
            rw [qD_y cn, if_neg (by decide), a1, calV_s, if_pos cn, if_pos cn, if_pos c45]
            rw [if_neg (by decide)] at a6
            refine ⟨M2, rfl, Nx_t gn (Nx_t kn a2), a4.trans k6, a3, a5, fun _ => a6, fun y => absurd y (by decide)⟩
          · rw [qD_n cn, if_pos rfl, if_neg cn, if_neg cn]
            exact ⟨N2, rfl, Nx_t gn kn, k6, kk, k4, fun y => absurd y (by decide), fun y => absurd y (by decide)⟩
        · rw [if_neg c45, if_neg c45, if_neg c45, stI_s, g4, ← nI_succ, stI_s, stI_s, stI_s]
          have fin : ∀ x : Int32, x ≠ 2 → x ≠ 1 → ∃ M2, some (none, uI (uI N 40 0 3 (nI (s + 1))) 40 0 5 x) = some ((none : Option hV), M2) ∧ Nx M M2 ∧ M2.1 40 0 6 = nI s ∧ M2.1 40 0 5 = x ∧ M2.1 40 0 3 = nI (s + 1) ∧ (x = 2 → M2.1 40 0 7 = if T s = 45 then -(nF stR T (dgt T l (s + 1)) (s + 1) 0) else nF stR T (dgt T l s) s 0) ∧ (x = 1 → M2.2 40 0 8 = tW T l s) := fun x x2 x1 => ⟨_, rfl, Nx_t gn (Nx_t (Nx_u (by decide)) (Nx_u (by decide))), by rw [uI_n (by decide), uI_n (by decide)]; exact g6, uI_s, by rw [uI_n (by decide), uI_s], fun y => absurd y x2, fun y => absurd y x1⟩
          by_cases c59 : T s = 59
          · rw [if_pos c59, if_pos c59]; exact fin 3 (by decide) (by decide)
          · rw [if_neg c59, if_neg c59]
            by_cases c44 : T s = 44
            · rw [if_pos c44, if_pos c44]; exact fin 4 (by decide) (by decide)
            · rw [if_neg c44, if_neg c44]; exact fin 5 (by decide) (by decide)
  · rw [tA_n c, if_neg c, if_neg c, if_pos rfl, stI_s]
    exact ⟨_, rfl, Nx_t gn (Nx_u (by decide)), by rw [uI_n (by decide)]; exact g6, uI_s, by rw [uI_n (by decide)]; exact g4, fun y => absurd y (by decide), fun y => absurd y (by decide)⟩
end
