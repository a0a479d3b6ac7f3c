/-! bursts: what follows what -/
def nrw (r b : Nat) : Nat := (2 * r + b) % 64
def wrB (p : Nat → Int32) (F B D P ph : Nat) (v : Nat → Int32) (r fl : Nat) : Nat := if (if zRw p F B D P ph v (nI r) (nI fl) < 0 then (0 : Int32) else 1) = (if hbt (nI r) (nI D) = 1 then 1 else 0) then 0 else 1
def nxB (p : Nat → Int32) (F B D P ph : Nat) (v : Nat → Int32) (s b : Nat) : Nat := 8 * nrw (s / 8) b + (2 * (s % 8) + wrB p F B D P ph v (nrw (s / 8) b) (s % 8)) % 2 ^ B
theorem wrB_b {p : Nat → Int32} {F B D P ph : Nat} {v : Nat → Int32} {r fl : Nat} : wrB p F B D P ph v r fl < 2 := by
  unfold wrB
  exact (show ∀ (q : Prop) [Decidable q], (if q then (0 : Nat) else 1) < 2 from fun q _ => by split <;> omega) _
theorem p2B {B : Nat} (h : B ≤ 3) : 1 ≤ 2 ^ B ∧ 2 ^ B ≤ 8 := by
  have e : ∀ B, B < 4 → 1 ≤ 2 ^ B ∧ 2 ^ B ≤ 8 := by decide
  exact e B (by omega)
theorem nxB_b {p : Nat → Int32} {F B D P ph : Nat} {v : Nat → Int32} {s b : Nat} (hB : B ≤ 3) : nxB p F B D P ph v s b < 512 ∧ nxB p F B D P ph v s b % 8 < 2 ^ B ∧ nxB p F B D P ph v s b / 8 = nrw (s / 8) b := by
  unfold nxB
  have h1 : nrw (s / 8) b < 64 := Nat.mod_lt _ (by decide)
  have h2 := p2B hB
  have h3 : (2 * (s % 8) + wrB p F B D P ph v (nrw (s / 8) b) (s % 8)) % 2 ^ B < 2 ^ B := Nat.mod_lt _ (by omega)
  generalize (2 * (s % 8) + wrB p F B D P ph v (nrw (s / 8) b) (s % 8)) % 2 ^ B = x at *
  generalize 2 ^ B = y at *
  omega
theorem i_row : ∀ r, r < 64 → ∀ b, b < 2 → (((nI r <<< ((1 : Int32) &&& 31)) ||| nI b) &&& 63) = nI (nrw r b) := by decide +kernel
theorem i_flg : ∀ B, B < 4 → ∀ fl, fl < 8 → ∀ w, w < 2 → (((nI fl <<< ((1 : Int32) &&& 31)) ||| nI w) &&& nI (2 ^ B - 1)) = nI ((2 * fl + w) % 2 ^ B) := by decide +kernel
theorem i_msk : ∀ B, B < 4 → ((((1 : Int32) <<< (nI B &&& 31)) - 1) &&& 7) = nI (2 ^ B - 1) ∧ ((1 : Int32) <<< (nI B &&& 31)) = nI (2 ^ B) ∧ nI (2 ^ B) - 1 = nI (2 ^ B - 1) := by decide +kernel
theorem i_kep : ∀ D, D < 3 → ∀ r, r < 64 → ∀ B, B < 4 → ∀ fl, fl < 8 → (((nI r >>> ((nI D + 1) &&& 31)) ^^^ nI fl) &&& nI (2 ^ B - 1)) = nI (((r / 2 ^ (D + 1)) ^^^ fl) % 2 ^ B) := by decide +kernel
theorem i_b1 : ∀ D, D < 3 → ∀ r, r < 64 → ∀ j, j < 3 → hbt (nI r) (nI (D + 1 + j)) = hbt (nI (r / 2 ^ (D + 1))) (nI j) := by decide +kernel
theorem i_b2 : ∀ B, B < 4 → ∀ j, j < B → ∀ a, a < 32 → ∀ fl, fl < 8 → hbt (nI ((a ^^^ fl) % 2 ^ B)) (nI j) = (if hbt (nI a) (nI j) = hbt (nI fl) (nI j) then 0 else 1) := by decide +kernel
theorem hbt_01 (a k : Int32) : hbt a k = 0 ∨ hbt a k = 1 := by
  unfold hbt
  rw [pk_and _ 1 (by decide)]
  rcases Nat.mod_two_eq_zero_or_one ((a >>> (k &&& 31)).toBitVec.toNat) with e | e
  · rw [show (2 : Nat) ^ 1 = 2 from rfl, e]; exact Or.inl rfl
  · rw [show (2 : Nat) ^ 1 = 2 from rfl, e]; exact Or.inr rfl
theorem i_bit {D r B fl j : Nat} (hD : D < 3) (hr : r < 64) (hB : B < 4) (hf : fl < 8) (hj : j < B) : (hbt (nI (((r / 2 ^ (D + 1)) ^^^ fl) % 2 ^ B)) (nI j) = 1 ↔ ¬ ((if hbt (nI r) (nI (D + 1 + j)) = 1 then (1 : Int32) else 0) = (if hbt (nI fl) (nI j) = 1 then 1 else 0))) := by
  have hd : r / 2 ^ (D + 1) < 32 := by
    have : 2 ≤ 2 ^ (D + 1) := by
      have e : ∀ D, D < 3 → 2 ≤ 2 ^ (D + 1) := by decide
      exact e D hD
    have z : r / 2 ^ (D + 1) ≤ r / 2 := Nat.div_le_div_left this (by decide)
    omega
  rw [i_b1 D hD r hr j (by omega), i_b2 B hB j hj _ hd fl hf]
  generalize nI (r / 2 ^ (D + 1)) = x
  rcases hbt_01 x (nI j) with e1 | e1 <;> rcases hbt_01 (nI fl) (nI j) with e2 | e2 <;> rw [e1, e2] <;> decide
/-- the part of Z that is taken off -/
def bkS (F : Nat) (v : Nat → Int32) (bits : Int32) (B : Nat) : Int32 := sumN (fun j => 64 * v (F + j) * bsg bits (nI j)) B
theorem zRw_bk {p : Nat → Int32} {F B D P ph : Nat} {v : Nat → Int32} {r fl : Nat} (hB : B ≤ 3) (hD : D ≤ 2) (hr : r < 64) (hf : fl < 8) : zFo p P ph v (nI r) F - bkS F v (nI (((r / 2 ^ (D + 1)) ^^^ fl) % 2 ^ B)) B = zRw p F B D P ph v (nI r) (nI fl) := by
  unfold zRw bkS
  have e : ∀ n, n ≤ B → zFo p P ph v (nI r) F - sumN (fun j => 64 * v (F + j) * bsg (nI (((r / 2 ^ (D + 1)) ^^^ fl) % 2 ^ B)) (nI j)) n = fr (zBk F D v (nI r) (nI fl)) (zFo p P ph v (nI r) F) n := by
    intro n
    induction n with
    | zero =>
      intro _
      show zFo p P ph v (nI r) F - 0 = zFo p P ph v (nI r) F
      rw [Int32.sub_zero]
    | succ n ih =>
      intro hn
      have z := i_bit (D := D) (r := r) (B := B) (fl := fl) (j := n) (by omega) hr (by omega) hf (by omega)
      show zFo p P ph v (nI r) F - (sumN (fun j => 64 * v (F + j) * bsg (nI (((r / 2 ^ (D + 1)) ^^^ fl) % 2 ^ B)) (nI j)) n + 64 * v (F + n) * bsg (nI (((r / 2 ^ (D + 1)) ^^^ fl) % 2 ^ B)) (nI n)) = zBk F D v (nI r) (nI fl) n (fr (zBk F D v (nI r) (nI fl)) (zFo p P ph v (nI r) F) n)
      rw [← ih (by omega)]
      unfold zBk bsg
      generalize sumN (fun j => 64 * v (F + j) * bsg (nI (((r / 2 ^ (D + 1)) ^^^ fl) % 2 ^ B)) (nI j)) n = S
      have ass : ∀ a b c : Int32, a - (b + c) = a - b - c := fun a b c => by
        rw [Int32.sub_eq_add_neg a (b + c), Int32.neg_add, Int32.sub_eq_add_neg (-b) c, Int32.sub_eq_add_neg (a - b) c, Int32.sub_eq_add_neg a b, Int32.add_assoc]
      rw [ass]
      by_cases c : (if hbt (nI r) (nI (D + 1 + n)) = 1 then (1 : Int32) else 0) = (if hbt (nI fl) (nI n) = 1 then 1 else 0)
      · rw [if_pos c, if_neg (fun y => z.mp y c), Int32.mul_neg, Int32.mul_one, Int32.mul_neg]
      · rw [if_neg c, if_pos (z.mpr c), Int32.mul_one]
  exact e B (Nat.le_refl _)
/-! the class lays its tables -/
/-- alike but for what the Burst has -/
def Bx (m m2 : hM) : Prop := (∀ a b c, a < 28 ∨ 33 < a → m2.1 a b c = m.1 a b c) ∧ m2.2 = m.2
theorem Bx_r (m : hM) : Bx m m := ⟨fun _ _ _ _ => rfl, rfl⟩
theorem Bx_t {a b c : hM} (h : Bx a b) (h2 : Bx b c) : Bx a c := ⟨fun x y z q => (h2.1 x y z q).trans (h.1 x y z q), h2.2.trans h.2⟩
theorem Bx_u {m : hM} {t k : Nat} {x : Int32} (h : 28 ≤ t ∧ t ≤ 33) : Bx m (uI m t 0 k x) := ⟨fun a b c q => uI_o (by omega), rfl⟩
theorem Same_Bx {m m2 : hM} (h : Bx m m2) : Same m m2 := ⟨⟨fun a b c q => h.1 a b c (by unfold nsA at q; omega), fun n _ => by rw [h.2]⟩, fun a b c q => h.1 a b c (by unfold nsC at q; omega), fun a b c q => h.1 a b c (by unfold nsT at q; omega), fun a b c q => h.1 a b c (by unfold nsR at q; omega), fun a b c q => h.1 a b c (by unfold nsH at q; omega)⟩
theorem Ln_Bx {m m2 : hM} {F B D P W : Nat} (h : Bx m m2) (hl : Ln m 0 F B D P W) : Ln m2 0 F B D P W := Ln_w (fun c => h.1 5 0 c (by omega)) hl
theorem EyC_Bx {m m2 : hM} {n F B D P W : Nat} {v : Nat → Int32} (h : Bx m m2) (q : EyC m n F B D P W v) : EyC m2 n F B D P W v := by
  refine ⟨Ln_Bx h q.1, fun j hj => ?_, fun i hi => ?_, q.2.2.2⟩
  · rw [h.1 6 0 j (by omega)]; exact q.2.1 j hj
  · rw [h.1 13 n i (by omega)]; exact q.2.2.1 i hi
section
variable {m M : hM} {F B D P W ph : Nat} {v : Nat → Int32}
theorem n8 {i : Nat} (h : i < 8) : ¬ (8 : Int32) ≤ nI i := nI_ge (a := i) (b := 8) h (by decide)
theorem c_parts (q : EyC m 40 F B D P W v) (hp : ph ≤ 3) (h7 : m.1 12 40 7 = nI ph) : ∃ m2, JX1_weighParts 0 40 m = some (none, m2) ∧ Bx m m2 ∧ m2.1 28 0 5 = m.1 28 0 5 ∧ (∀ r, r < 64 → m2.1 29 0 r = zFo (m.1 6 0) P ph v (nI r) F) ∧ ∀ b, b < 8 → m2.1 30 0 b = bkS F v (nI b) B := by
  have hF : F ≤ 3 := q.1.2.2.2.2.2.2.1
  have hB : B ≤ 3 := q.1.2.2.2.2.2.2.2.1
  -- fore rows
  have in1 : ∀ (r : Nat) (X : hM), r < 64 → Bx m X → X.1 29 0 r = 0 → ∃ Y, Bx m Y ∧ (∀ a b c, (a ≠ 29 ∨ c ≠ r) → Y.1 a b c = X.1 a b c) ∧ Y.1 29 0 r = zFo (m.1 6 0) P ph v (nI r) F ∧ ∀ K, JX1_weighParts_26 K 0 40 (nI F) (nI r) FU 0 X = K Y := by
    intro r X hr hX h0
    have key : ∀ i, i ≤ F → ∃ Y, Bx m Y ∧ (∀ a b c, (a ≠ 29 ∨ c ≠ r) → Y.1 a b c = X.1 a b c) ∧ Y.1 29 0 r = zFo (m.1 6 0) P ph v (nI r) i ∧ ∀ K f, JX1_weighParts_26 K 0 40 (nI F) (nI r) (f + i) 0 X = JX1_weighParts_26 K 0 40 (nI F) (nI r) f (nI i) Y := by
      intro i
      induction i with
      | zero => intro _; exact ⟨X, hX, fun _ _ _ _ => rfl, h0, fun _ _ => rfl⟩
      | succ i ih =>
        intro hi
        obtain ⟨Y, a1, a2, a3, a4⟩ := ih (by omega)
        have qy := EyC_Bx a1 q
        have e6 : Y.1 6 0 = m.1 6 0 := by funext c; exact a1.1 6 0 c (by omega)
        have sh := c_share1 (m := Y) (row := nI r) (t := i) qy.1 hp (by omega)
        rw [e6] at sh
        refine ⟨uI Y 29 0 r (zFo (m.1 6 0) P ph v (nI r) i + v i * shF (m.1 6 0) P ph (nI r) i), Bx_t a1 (Bx_u (by decide)), fun a b c z => by rw [uI_n z]; exact a2 a b c z, uI_s, fun K f => ?_⟩
        rw [show f + (i + 1) = f + 1 + i from by omega, a4]
        show bJX1_weighParts_26 _ _ _ _ _ _ (nI i) _ = _
        unfold bJX1_weighParts_26
        rw [if_neg (nI_ge (by omega) (by omega)), if_neg (n6 (by omega)), ald_n (t := 29) (n := 0) r rfl (by decide) (show r < 64 from hr), a3, ald_n (t := 13) (n := 40) i rfl (by decide) (show i < 6 by omega), qy.2.2.1 i (by omega), a1.1 12 40 7 (by omega), h7, sh, calI_s, ast_n (t := 29) (n := 0) r rfl (by decide) (show r < 64 from hr), ← nI_succ]
    obtain ⟨Y, a1, a2, a3, a4⟩ := key F (Nat.le_refl _)
    refine ⟨Y, a1, a2, a3, fun K => ?_⟩
    rw [show FU = 100000 - F - 1 + 1 + F from by rw [FU_eq]; omega, a4]
    show bJX1_weighParts_26 _ _ _ _ _ _ (nI F) _ = _
    unfold bJX1_weighParts_26
    rw [if_pos (nI_le (Nat.le_refl _) (by omega))]
  have rows : ∀ i, i ≤ 64 → ∃ Y, Bx m Y ∧ Y.1 28 0 5 = m.1 28 0 5 ∧ (∀ r, r < i → Y.1 29 0 r = zFo (m.1 6 0) P ph v (nI r) F) ∧ ∀ K f, JX1_weighParts_8 K 0 40 (nI F) (f + i) 0 m = JX1_weighParts_8 K 0 40 (nI F) f (nI i) Y := by
    intro i
    induction i with
    | zero => intro _; exact ⟨m, Bx_r m, rfl, fun r hr => absurd hr (by omega), fun _ _ => rfl⟩
    | succ i ih =>
      intro hi
      obtain ⟨Y, a1, a2, a3, a4⟩ := ih (by omega)
      obtain ⟨Z, b1, b2, b3, b4⟩ := in1 i (uI Y 29 0 i 0) (by omega) (Bx_t a1 (Bx_u (by decide))) uI_s
      refine ⟨Z, b1, by rw [b2 28 0 5 (Or.inl (by decide)), uI_o (by decide)]; exact a2, fun r hr => ?_, fun K f => ?_⟩
      · by_cases c : r = i
        · subst c; exact b3
        · rw [b2 29 0 r (Or.inr c), uI_n (Or.inr c)]; exact a3 r (by omega)
      · rw [show f + (i + 1) = f + 1 + i from by omega, a4]
        show bJX1_weighParts_8 _ _ _ _ _ (nI i) _ = _
        unfold bJX1_weighParts_8 JX1_weighParts_75
        rw [if_neg (n64 (by omega)), ast_n (t := 29) (n := 0) i rfl (by decide) (show i < 64 by omega), b4, ← nI_succ]
  -- back sums
  have in2 : ∀ (b : Nat) (X : hM), b < 8 → Bx m X → X.1 30 0 b = 0 → ∃ Y, Bx m Y ∧ (∀ a d c, (a ≠ 30 ∨ c ≠ b) → Y.1 a d c = X.1 a d c) ∧ Y.1 30 0 b = bkS F v (nI b) B ∧ ∀ K, JX1_weighParts_102 K 0 40 (nI F) (nI b) FU 0 X = K Y := by
    intro b X hb hX h0
    have key : ∀ i, i ≤ B → ∃ Y, Bx m Y ∧ (∀ a d c, (a ≠ 30 ∨ c ≠ b) → Y.1 a d c = X.1 a d c) ∧ Y.1 30 0 b = bkS F v (nI b) i ∧ ∀ K f, JX1_weighParts_102 K 0 40 (nI F) (nI b) (f + i) 0 X = JX1_weighParts_102 K 0 40 (nI F) (nI b) f (nI i) Y := by
      intro i
      induction i with
      | zero => intro _; exact ⟨X, hX, fun _ _ _ _ => rfl, h0, fun _ _ => rfl⟩
      | succ i ih =>
        intro hi
        obtain ⟨Y, a1, a2, a3, a4⟩ := ih (by omega)
        have qy := EyC_Bx a1 q
        refine ⟨uI Y 30 0 b (bkS F v (nI b) i + 64 * v (F + i) * bsg (nI b) (nI i)), Bx_t a1 (Bx_u (by decide)), fun a d c z => by rw [uI_n z]; exact a2 a d c z, uI_s, fun K f => ?_⟩
        rw [show f + (i + 1) = f + 1 + i from by omega, a4]
        show bJX1_weighParts_102 _ _ _ _ _ _ (nI i) _ = _
        unfold bJX1_weighParts_102
        rw [g_back qy.1, calI_s, if_neg (nI_ge (by omega) (by omega)), nI_add, if_neg (n6 (by omega)), ald_n (t := 30) (n := 0) b rfl (by decide) (show b < 8 from hb), a3, ald_n (t := 13) (n := 40) (F + i) rfl (by decide) (show F + i < 6 by omega), qy.2.2.1 (F + i) (by omega), e_bitSign, calI_s, ast_n (t := 30) (n := 0) b rfl (by decide) (show b < 8 from hb), ← nI_succ]
        rfl
    obtain ⟨Y, a1, a2, a3, a4⟩ := key B (Nat.le_refl _)
    refine ⟨Y, a1, a2, a3, fun K => ?_⟩
    rw [show FU = 100000 - B - 1 + 1 + B from by rw [FU_eq]; omega, a4]
    show bJX1_weighParts_102 _ _ _ _ _ _ (nI B) _ = _
    unfold bJX1_weighParts_102
    rw [g_back (Ln_Bx a1 q.1), calI_s, if_pos (nI_le (Nat.le_refl _) (by omega))]
  obtain ⟨Y, a1, a2, a3, a4⟩ := rows 64 (Nat.le_refl _)
  have bits : ∀ i, i ≤ 8 → ∃ Z, Bx m Z ∧ Z.1 28 0 5 = m.1 28 0 5 ∧ (∀ r, Z.1 29 0 r = Y.1 29 0 r) ∧ (∀ b, b < i → Z.1 30 0 b = bkS F v (nI b) B) ∧ ∀ K f, JX1_weighParts_84 K 0 40 (nI F) (f + i) 0 Y = JX1_weighParts_84 K 0 40 (nI F) f (nI i) Z := by
    intro i
    induction i with
    | zero => intro _; exact ⟨Y, a1, a2, fun _ => rfl, fun r hr => absurd hr (by omega), fun _ _ => rfl⟩
    | succ i ih =>
      intro hi
      obtain ⟨Z, c1, c2, c3, c4, c5⟩ := ih (by omega)
      obtain ⟨Z2, b1, b2, b3, b4⟩ := in2 i (uI Z 30 0 i 0) (by omega) (Bx_t c1 (Bx_u (by decide))) uI_s
      refine ⟨Z2, b1, by rw [b2 28 0 5 (Or.inl (by decide)), uI_o (by decide)]; exact c2, fun r => by rw [b2 29 0 r (Or.inl (by decide)), uI_o (by decide)]; exact c3 r, fun b hb => ?_, fun K f => ?_⟩
      · by_cases c : b = i
        · subst c; exact b3
        · rw [b2 30 0 b (Or.inr c), uI_n (Or.inr c)]; exact c4 b (by omega)
      · rw [show f + (i + 1) = f + 1 + i from by omega, c5]
        show bJX1_weighParts_84 _ _ _ _ _ (nI i) _ = _
        unfold bJX1_weighParts_84 JX1_weighParts_156
        rw [if_neg (n8 (by omega)), ast_n (t := 30) (n := 0) i rfl (by decide) (show i < 8 by omega), b4, ← nI_succ]
  obtain ⟨Z, c1, c2, c3, c4, c5⟩ := bits 8 (Nat.le_refl _)
  refine ⟨Z, ?_, c1, c2, fun r hr => by rw [c3]; exact a3 r hr, c4⟩
  unfold JX1_weighParts
  rw [g_fore q.1, calI_s, show FU = 99935 + 1 + 64 from rfl, a4]
  show bJX1_weighParts_8 _ _ _ _ _ (nI 64) _ = _
  unfold bJX1_weighParts_8
  rw [if_pos (by decide)]
  show JX1_weighParts_84 _ 0 40 (nI F) (99991 + 1 + 8) 0 Y = _
  rw [c5]
  show bJX1_weighParts_84 _ _ _ _ _ (nI 8) _ = _
  unfold bJX1_weighParts_84
  rw [if_pos (by decide)]
/-- the place behind another -/
theorem c_place {r fl b : Nat} (hl : Ln M 0 F B D P W) (h5 : M.1 28 0 5 = nI (2 ^ B - 1)) (h29 : ∀ r, r < 64 → M.1 29 0 r = zFo (m.1 6 0) P ph v (nI r) F) (h30 : ∀ b, b < 8 → M.1 30 0 b = bkS F v (nI b) B) (hr : r < 64) (hf : fl < 2 ^ B) (hb : b < 2) : JX1_placeBehind 0 (nI r) (nI fl) (nI b) M = some (some (.inl (nI (nxB (m.1 6 0) F B D P ph v (8 * r + fl) b))), M) := by
  have hB : B ≤ 3 := hl.2.2.2.2.2.2.2.1
  have hD : D ≤ 2 := hl.2.2.2.2.2.2.2.2.1
  have p2 := p2B hB
  have hn : nrw r b < 64 := Nat.mod_lt _ (by decide)
  have hk : ((nrw r b / 2 ^ (D + 1)) ^^^ fl) % 2 ^ B < 8 := by
    have := Nat.mod_lt ((nrw r b / 2 ^ (D + 1)) ^^^ fl) (show 0 < 2 ^ B by omega)
    omega
  have e70 : ∀ w, w < 2 → JX1_placeBehind_70 (nI fl) (nI (nrw r b)) (nI w) M = some (some (.inl (nI (8 * nrw r b + (2 * fl + w) % 2 ^ B))), M) := fun w hw => by
    unfold JX1_placeBehind_70
    rw [h5, i_flg B (by omega) fl (by omega) w hw, show (8 : Int32) = nI 8 from rfl, pk_mul, nI_add, Nat.mul_comm]
  have es : (8 * r + fl) / 8 = r ∧ (8 * r + fl) % 8 = fl := by omega
  unfold JX1_placeBehind JX1_placeBehind_52
  rw [lt_s9, i_row r hr b hb, g_delay hl, calI_s, h5, i_kep D (by omega) (nrw r b) hn B (by omega) fl (by omega), lt_s9, ald_n (t := 29) (n := 0) (nrw r b) rfl (by decide) (show nrw r b < 64 from hn), h29 _ hn, ald_n (t := 30) (n := 0) _ rfl (by decide) (show ((nrw r b / 2 ^ (D + 1)) ^^^ fl) % 2 ^ B < 8 from hk), h30 _ hk, zRw_bk hB hD hn (by omega), g_truth hl, calI_s, calI_s]
  unfold nxB
  rw [es.1, es.2]
  show (if zRw (m.1 6 0) F B D P ph v (nI (nrw r b)) (nI fl) < 0 then (if (-1 : Int32) = bsg (nI (nrw r b)) (nI D) then JX1_placeBehind_70 (nI fl) (nI (nrw r b)) (nI 0) M else JX1_placeBehind_70 (nI fl) (nI (nrw r b)) (nI 1) M) else (if (1 : Int32) = bsg (nI (nrw r b)) (nI D) then JX1_placeBehind_70 (nI fl) (nI (nrw r b)) (nI 0) M else JX1_placeBehind_70 (nI fl) (nI (nrw r b)) (nI 1) M)) = _
  rw [e70 0 (by decide), e70 1 (by decide)]
  unfold wrB bsg
  by_cases c1 : zRw (m.1 6 0) F B D P ph v (nI (nrw r b)) (nI fl) < 0 <;> by_cases c2 : hbt (nI (nrw r b)) (nI D) = 1
  · rw [if_pos c1, if_pos c1, if_pos c2, if_pos c2, if_neg (by decide), if_neg (by decide)]
  · rw [if_pos c1, if_pos c1, if_neg c2, if_neg c2, if_pos rfl, if_pos rfl]
  · rw [if_neg c1, if_neg c1, if_pos c2, if_pos c2, if_pos rfl, if_pos rfl]
  · rw [if_neg c1, if_neg c1, if_neg c2, if_neg c2, if_neg (by decide), if_neg (by decide)]
end
