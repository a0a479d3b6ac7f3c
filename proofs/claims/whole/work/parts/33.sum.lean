/-! loops by their way; sums; folds -/
theorem lp {α : Type} (P : Nat → α → hR) (s : Nat → α) (N : Nat) (h : ∀ i f, i < N → P (f + 1) (s i) = P f (s (i + 1))) : ∀ f, P (f + N) (s 0) = P f (s N) := by
  induction N with
  | zero => intro f; rfl
  | succ N ih =>
    intro f
    have e := ih (fun i f hi => h i f (by omega)) (f + 1)
    rw [show f + (N + 1) = f + 1 + N from by omega, e, h N f (by omega)]
theorem lpF {α : Type} (P : Nat → α → hR) (s : Nat → α) (N : Nat) (hN : N < 100000) (h : ∀ i f, i < N → P (f + 1) (s i) = P f (s (i + 1))) : P FU (s 0) = P (100000 - N - 1 + 1) (s N) := by
  rw [← lp P s N h]
  congr 1
  rw [FU_eq]
  omega
def sumN (t : Nat → Int32) : Nat → Int32
  | 0 => 0
  | n + 1 => sumN t n + t n
theorem sumN_congr {t u : Nat → Int32} : ∀ n, (∀ i, i < n → t i = u i) → sumN t n = sumN u n := by
  intro n
  induction n with
  | zero => intro _; rfl
  | succ n ih =>
    intro h
    show sumN t n + t n = sumN u n + u n
    rw [ih (fun i hi => h i (by omega)), h n (by omega)]
theorem sumN_mul (a : Int32) (t : Nat → Int32) : ∀ n, a * sumN t n = sumN (fun i => a * t i) n := by
  intro n
  induction n with
  | zero => exact Int32.mul_zero
  | succ n ih =>
    show a * (sumN t n + t n) = sumN (fun i => a * t i) n + a * t n
    rw [Int32.mul_add, ih]
theorem sumN_tail {t : Nat → Int32} {k : Nat} : ∀ n, k ≤ n → (∀ i, k ≤ i → i < n → t i = 0) → sumN t n = sumN t k := by
  intro n
  induction n with
  | zero => intro h _; rw [show k = 0 from by omega]
  | succ n ih =>
    intro h h2
    by_cases e : k = n + 1
    · rw [e]
    · show sumN t n + t n = _
      rw [h2 n (by omega) (by omega), Int32.add_zero, ih (by omega) (fun i a b => h2 i a (by omega))]
def fr {α : Type} (g : Nat → α → α) (a : α) : Nat → α
  | 0 => a
  | n + 1 => g n (fr g a n)
theorem n3 {i : Nat} (h : i < 3) : ¬ (3 : Int32) ≤ nI i := nI_ge h (by decide)
theorem n6 {i : Nat} (h : i < 6) : ¬ (6 : Int32) ≤ nI i := nI_ge h (by decide)
/-! a Line's numbers -/
def Ln (m : hM) (ln F B D P W : Nat) : Prop := m.1 5 ln 0 = nI P ∧ m.1 5 ln 1 = nI F ∧ m.1 5 ln 2 = nI B ∧ m.1 5 ln 3 = nI D ∧ m.1 5 ln 12 = nI W ∧ 1 ≤ F ∧ F ≤ 3 ∧ B ≤ 3 ∧ D ≤ 2 ∧ P ≤ 16 ∧ W ≤ 16
section
variable {m : hM} {n ln F B D P W : Nat} {w : Nat → Int32} {x : Int64}
theorem c_fore : JX4_foreTaps ln (Sm m n w x) = some (some (.inl (m.1 5 ln 1)), Sm m n w x) := by unfold JX4_foreTaps; rw [SL1]
theorem c_back : JX4_backTaps ln (Sm m n w x) = some (some (.inl (m.1 5 ln 2)), Sm m n w x) := by unfold JX4_backTaps; rw [SL2]
theorem c_delay : JX4_delay ln (Sm m n w x) = some (some (.inl (m.1 5 ln 3)), Sm m n w x) := by unfold JX4_delay; rw [SL3]
theorem c_wlen : JX4_wordLength ln (Sm m n w x) = some (some (.inl (m.1 5 ln 12)), Sm m n w x) := by unfold JX4_wordLength; rw [SL12]
theorem c_rule (j : Nat) (hj : j < 13) {a : Int32} (ha : a = nI j) : JX4_ruleOf ln a (Sm m n w x) = some (some (.inl (m.1 5 ln j)), Sm m n w x) := by
  subst ha
  unfold JX4_ruleOf
  have e : hwi (nI j) 0 12 = 1 := by
    unfold hwi
    rw [if_neg (nI_pos (by omega)), if_neg (show ¬ (12 : Int32) < nI j from nI_nlt (a := 12) (b := j) (by omega) (by omega))]
  rw [e_within, calI_s, e, if_neg (by decide), Srul j rfl hj]
theorem c_rule6 : JX4_ruleOf ln 6 (Sm m n w x) = some (some (.inl (m.1 5 ln 6)), Sm m n w x) := c_rule 6 (by decide) rfl
theorem c_rule10 : JX4_ruleOf ln 10 (Sm m n w x) = some (some (.inl (m.1 5 ln 10)), Sm m n w x) := c_rule 10 (by decide) rfl
theorem c_rule11 : JX4_ruleOf ln 11 (Sm m n w x) = some (some (.inl (m.1 5 ln 11)), Sm m n w x) := c_rule 11 (by decide) rfl
/-- fore part of Z -/
def fsv (w : Nat → Int32) (a : Int32) (F : Nat) : Int32 := sumN (fun i => w i * (if i = 0 then a else w (39 + i))) F
theorem c_foreSum {a : Int32} (hl : Ln m ln F B D P W) : JX8_foreSum n ln a (Sm m n w x) = some (some (.inl (fsv w a F)), Sm m n w x) := by
  obtain ⟨l0, l1, l2, l3, l4, f1, f2, b2, d2, p2, w2⟩ := hl
  unfold JX8_foreSum
  rw [R13 (i := 0) 0 rfl (by decide), lt_s9]
  have e := lpF (fun f (a : Int32 × Int32) => JX8_foreSum_12 (fun v3 m8 => some (some (.inl v3), m8)) n ln f a.1 a.2 (Sm m n w x)) (fun i => (sumN (fun i => w i * (if i = 0 then a else w (39 + i))) (i + 1), nI (i + 1))) (F - 1) (by omega) (by
    intro i f hi
    show bJX8_foreSum_12 _ _ n ln (sumN _ (i + 1)) (nI (i + 1)) _ = _
    unfold bJX8_foreSum_12
    rw [c_fore, calI_s, l1, if_neg (nI_ge (by omega) (by omega)), if_neg (n3 (by omega)), R13 (i + 1) rfl (by omega), nI_pred, R17 i rfl (by omega), lt_s9]
    show JX8_foreSum_12 _ n ln f _ (nI (i + 1) + 1) _ = JX8_foreSum_12 _ n ln f _ _ _
    rw [← nI_succ]
    congr 1
    show _ = sumN _ (i + 1) + w (i + 1) * (if i + 1 = 0 then a else w (39 + (i + 1)))
    rw [if_neg (by omega), show 39 + (i + 1) = 40 + i from by omega])
  have e0 : sumN (fun i => w i * (if i = 0 then a else w (39 + i))) 1 = w 0 * a := by
    show 0 + w 0 * (if 0 = 0 then a else w 39) = _
    rw [if_pos rfl, Int32.zero_add]
  rw [← e0]
  refine Eq.trans e ?_
  show bJX8_foreSum_12 _ _ n ln (sumN _ (F - 1 + 1)) (nI (F - 1 + 1)) _ = _
  unfold bJX8_foreSum_12
  rw [c_fore, calI_s, l1, show F - 1 + 1 = F from by omega, if_pos (nI_le (by omega) (by omega))]
  rfl
/-- back part of Z -/
def bsv (w : Nat → Int32) (F B : Nat) : Int32 := sumN (fun j => 64 * w (F + j) * w (37 + j)) B
theorem c_backSum (hl : Ln m ln F B D P W) : JX8_backSum n ln (Sm m n w x) = some (some (.inl (bsv w F B)), Sm m n w x) := by
  obtain ⟨l0, l1, l2, l3, l4, f1, f2, b2, d2, p2, w2⟩ := hl
  unfold JX8_backSum
  rw [c_fore, calI_s, l1]
  refine Eq.trans (lpF (fun f (a : Int32 × Int32) => JX8_backSum_10 (fun v3 m8 => some (some (.inl v3), m8)) n ln (nI F) f a.1 a.2 (Sm m n w x)) (fun i => (sumN (fun j => 64 * w (F + j) * w (37 + j)) i, nI i)) B (by omega) (by
    intro i f hi
    show bJX8_backSum_10 _ _ n ln _ (sumN _ i) (nI i) _ = _
    unfold bJX8_backSum_10
    rw [c_back, calI_s, l2, if_neg (nI_ge (by omega) (by omega)), if_neg (n3 (by omega)), nI_add, if_neg (n6 (by omega)), R13 (F + i) rfl (by omega), R16 i rfl (by omega), lt_s9]
    show JX8_backSum_10 _ n ln _ f _ (nI i + 1) _ = JX8_backSum_10 _ n ln _ f _ _ _
    rw [← nI_succ]
    rfl)) ?_
  show bJX8_backSum_10 _ _ n ln _ (sumN _ B) (nI B) _ = _
  unfold bJX8_backSum_10
  rw [c_back, calI_s, l2, if_pos (nI_le (by omega) (by omega))]
  rfl
/-- what is kept for unrolling -/
def tbv (w : Nat → Int32) (F B : Nat) : Nat → Int32 := fr (fun j w => upd w (46 + j) (w (F + j))) w B
theorem c_keepFor {a : Int32} (hl : Ln m ln F B D P W) : JX8_keepForUnrolling n ln a (Sm m n w x) = some (none, Sm m n (tbv (upd w 45 a) F B) x) := by
  obtain ⟨l0, l1, l2, l3, l4, f1, f2, b2, d2, p2, w2⟩ := hl
  unfold JX8_keepForUnrolling
  rw [stI_s, Sm_u (show 12 ≤ 18 ∧ 18 ≤ 19 by decide), c_fore, calI_s, l1, show ix 18 11 = 45 from rfl]
  refine Eq.trans (lpF (fun f (a : Int32 × hM) => JX8_keepForUnrolling_16 (fun m8 => some (none, m8)) n ln (nI F) f a.1 a.2) (fun i => (nI i, Sm m n (tbv (upd w 45 a) F i) x)) B (by omega) (by
    intro i f hi
    show bJX8_keepForUnrolling_16 _ _ n ln _ (nI i) _ = _
    unfold bJX8_keepForUnrolling_16
    rw [c_back, calI_s, l2, if_neg (nI_ge (by omega) (by omega)), if_neg (n3 (by omega)), nI_add, if_neg (n6 (by omega)), R13 (F + i) rfl (by omega), W19 i rfl (by omega)]
    show JX8_keepForUnrolling_16 _ n ln _ f (nI i + 1) _ = JX8_keepForUnrolling_16 _ n ln _ f _ _
    rw [← nI_succ]
    rfl)) ?_
  show bJX8_keepForUnrolling_16 _ _ n ln _ (nI B) _ = _
  unfold bJX8_keepForUnrolling_16
  rw [c_back, calI_s, l2, if_pos (nI_le (by omega) (by omega))]
end
