/-! words -/
def dgl (c : Int32) : Nat := c.toNatClampNeg - 96
def rlf (f : Nat → Nat) : Nat → Nat → List Nat
  | 0, _ => []
  | n + 1, p => f (p + n) :: rlf f n p
def cdR : List Nat → Nat
  | [] => 0
  | d :: ds => d + 32 * cdR ds
theorem cdR_i : ∀ a b : List Nat, (∀ d, d ∈ a → 1 ≤ d ∧ d < 32) → (∀ d, d ∈ b → 1 ≤ d ∧ d < 32) → cdR a = cdR b → a = b := by
  intro a
  induction a with
  | nil =>
    intro b _ hb h
    cases b with
    | nil => rfl
    | cons d ds =>
      have := (hb d (List.mem_cons_self ..)).1
      have z : 0 = d + 32 * cdR ds := h
      omega
  | cons x xs ih =>
    intro b ha hb h
    have x1 := ha x (List.mem_cons_self ..)
    cases b with
    | nil =>
      have z : x + 32 * cdR xs = 0 := h
      omega
    | cons d ds =>
      have d1 := hb d (List.mem_cons_self ..)
      have z : x + 32 * cdR xs = d + 32 * cdR ds := h
      have e1 : x = d := by omega
      have e2 : cdR xs = cdR ds := by omega
      rw [e1, ih ds (fun d h => ha d (List.mem_cons_of_mem _ h)) (fun d h => hb d (List.mem_cons_of_mem _ h)) e2]
theorem rlf_i {f g : Nat → Nat} {p r : Nat} : ∀ n k, rlf f n p = rlf g k r ↔ n = k ∧ ∀ i, i < n → f (p + i) = g (r + i) := by
  intro n
  induction n with
  | zero =>
    intro k
    cases k with
    | zero => exact ⟨fun _ => ⟨rfl, fun i h => absurd h (by omega)⟩, fun _ => rfl⟩
    | succ k => exact ⟨fun h => (by cases h), fun h => absurd h.1 (by omega)⟩
  | succ n ih =>
    intro k
    cases k with
    | zero => exact ⟨fun h => (by cases h), fun h => absurd h.1 (by omega)⟩
    | succ k =>
      refine ⟨fun h => ?_, fun h => ?_⟩
      · have h' : f (p + n) :: rlf f n p = g (r + k) :: rlf g k r := h
        injection h' with h1 h2
        obtain ⟨a, b⟩ := (ih k).mp h2
        subst a
        refine ⟨rfl, fun i hi => ?_⟩
        by_cases c : i = n
        · rw [c]; exact h1
        · exact b i (by omega)
      · obtain ⟨a, b⟩ := h
        have a' : n = k := by omega
        subst a'
        show f (p + n) :: rlf f n p = g (r + n) :: rlf g n r
        rw [b n (by omega), (ih n).mpr ⟨rfl, fun i hi => b i (by omega)⟩]
theorem rlf_b {f : Nat → Nat} {p : Nat} : ∀ n, (∀ i, i < n → 1 ≤ f (p + i) ∧ f (p + i) < 32) → ∀ d, d ∈ rlf f n p → 1 ≤ d ∧ d < 32 := by
  intro n
  induction n with
  | zero => intro _ d h; cases h
  | succ n ih =>
    intro hf d h
    have h' : d ∈ f (p + n) :: rlf f n p := h
    rcases List.mem_cons.mp h' with e | e
    · rw [e]; exact hf n (by omega)
    · exact ih (fun i hi => hf i (by omega)) d e
theorem rlf_c {f : Nat → Nat} {p : Nat} : ∀ n, (∀ i, i < n → f (p + i) < 32) → cdR (rlf f n p) < 32 ^ n := by
  intro n
  induction n with
  | zero => intro _; exact Nat.one_pos
  | succ n ih =>
    intro hf
    have a := ih (fun i hi => hf i (by omega))
    have b := hf n (by omega)
    show f (p + n) + 32 * cdR (rlf f n p) < 32 ^ (n + 1)
    rw [Nat.pow_succ]
    omega
theorem nI_64 {j : Nat} (h : j < 2 ^ 31) : (nI j).toInt64 = Int64.ofNat j := by
  apply Int64.toInt_inj.mp
  rw [Int32.toInt_toInt64, nI_toInt h, Int64.toInt_ofNat_of_lt (by omega)]
theorem nI_ij {a b : Nat} (ha : a < 2 ^ 31) (hb : b < 2 ^ 31) (h : nI a = nI b) : a = b := by
  have z := congrArg Int32.toInt h
  rw [nI_toInt ha, nI_toInt hb] at z
  omega
theorem bald_s {t n i : Nat} {k : Int32 → hR} (h : inb (nI i) (blenN t n) = true) : bald t n (nI i) k = k ((bytN t n).getD (nI i).toNatClampNeg 0) := if_pos h
theorem eal_s {N : Nat} {i : Int32} {k : Nat → hR} (h : inb i N = true) : eal N i k = k i.toNatClampNeg := if_pos h
theorem jretN_s {ty : FieldType} {x : Int32} {m : hM} (h : vp_nar ty x = x) : jretN ty x m = some (some (.inl x), m) := if_pos h
/-- one more letter -/
def wst (T : Nat → Int32) (p c : Nat) (w : Int64) : Int64 := if c + 1 ≤ 6 then (((32 * w) + (T p).toInt64) - 97) + 1 else 0
theorem wF_t (T : Nat → Int32) : ∀ n p c w, wF T (n + 1) p c w = wst T (p + n) (c + n) (wF T n p c w) := by
  intro n
  induction n with
  | zero => intro p c w; rfl
  | succ n ih =>
    intro p c w
    show wF T (n + 1) (p + 1) (c + 1) (wst T p c w) = _
    rw [ih, show p + 1 + n = p + (n + 1) from by omega, show c + 1 + n = c + (n + 1) from by omega]
    rfl
theorem ltr_v {c : Int32} (h : qL c = true) : ∃ j, 97 ≤ j ∧ j ≤ 122 ∧ c = nI j ∧ dgl c = j - 96 := by
  have b := hwi_bw (qL_y h)
  have b1 := b.1; have b2 := b.2
  rw [show (97 : Int32).toInt = 97 from by decide] at b1
  rw [show (122 : Int32).toInt = 122 from by decide] at b2
  obtain ⟨j, hj, e⟩ := bw_n (a := c) (n := 122) ⟨by omega, by omega⟩
  have t := nI_toInt (n := j) (by omega)
  rw [← e] at t
  refine ⟨j, by omega, hj, e, ?_⟩
  unfold dgl
  rw [e, nI_clamp (by omega)]
theorem wF_v {T : Nat → Int32} {s : Nat} : ∀ n, n ≤ 6 → (∀ i, i < n → qL (T (s + i)) = true) → wF T n s 0 0 = Int64.ofNat (cdR (rlf (fun i => dgl (T i)) n s)) := by
  intro n
  induction n with
  | zero => intro _ _; rfl
  | succ n ih =>
    intro hn hq
    rw [wF_t, ih (by omega) (fun i hi => hq i (by omega))]
    obtain ⟨j, j1, j2, e, e2⟩ := ltr_v (hq n (by omega))
    unfold wst
    rw [if_pos (by omega), e]
    show _ = Int64.ofNat (dgl (T (s + n)) + 32 * cdR (rlf (fun i => dgl (T i)) n s))
    rw [e2]
    generalize cdR (rlf (fun i => dgl (T i)) n s) = W
    have ej : (nI j).toInt64 = Int64.ofNat j := nI_64 (by omega)
    rw [ej, show (32 : Int64) = Int64.ofNat 32 from rfl, ← Int64.ofNat_mul, ← Int64.ofNat_add]
    have e3 : 32 * W + j = (j - 96 + 32 * W) + 96 := by omega
    rw [e3, Int64.ofNat_add]
    generalize Int64.ofNat (j - 96 + 32 * W) = x
    show x + 96 - 97 + 1 = x
    rw [Int64.sub_eq_add_neg, Int64.add_assoc, Int64.add_assoc]
    exact Int64.add_zero x
theorem of64_i {a b : Nat} (ha : a < 2 ^ 31) (hb : b < 2 ^ 31) (h : Int64.ofNat a = Int64.ofNat b) : a = b := by
  have z := congrArg Int64.toInt h
  rw [Int64.toInt_ofNat_of_lt (by omega), Int64.toInt_ofNat_of_lt (by omega)] at z
  omega
theorem lg_0 (x y : Int64) : (lg_cmp x y = 0) ↔ x = y := by
  unfold lg_cmp
  by_cases c : x > y
  · rw [if_pos c]
    refine ⟨fun z => absurd z (by decide), fun z => ?_⟩
    rw [z] at c
    exact absurd c (Int64.lt_irrefl)
  · rw [if_neg c]
    by_cases d : x = y
    · rw [if_pos d]; exact ⟨fun _ => d, fun _ => rfl⟩
    · rw [if_neg d]; exact ⟨fun z => absurd z (by decide), fun z => absurd z d⟩
/-- the first for which it holds -/
def ffn (P : Nat → Bool) : Nat → Nat → Int32
  | 0, _ => -1
  | k + 1, i => if P i = true then nI i else ffn P k (i + 1)
theorem ffn_s (P : Nat → Bool) (k i : Nat) : ffn P (k + 1) i = if P i = true then nI i else ffn P k (i + 1) := rfl
theorem ffn_b (P : Nat → Bool) : ∀ k i, ffn P k i = -1 ∨ ∃ j, i ≤ j ∧ j < i + k ∧ ffn P k i = nI j ∧ P j = true := by
  intro k
  induction k with
  | zero => intro i; exact Or.inl rfl
  | succ k ih =>
    intro i
    rw [ffn_s]
    by_cases c : P i = true
    · rw [if_pos c]; exact Or.inr ⟨i, by omega, by omega, rfl, c⟩
    · rw [if_neg c]
      rcases ih (i + 1) with e | ⟨j, a, b, d, e⟩
      · exact Or.inl e
      · exact Or.inr ⟨j, by omega, by omega, d, e⟩
theorem c_eol0 {M : hM} {T : Nat → Int32} {l : Nat} {K : Int32 → hM → hR} : ∀ k p, l - p = k → p ≤ l → CTx M T l → ∀ F, JX6_endOfLetters_5 K (F + k + 1) (nI p) M = K (nI (rn qL T l p)) M := by
  intro k
  induction k with
  | zero =>
    intro p h1 h2 h3 F
    have l2 := h3.2.1
    show bJX6_endOfLetters_5 _ _ _ _ = _
    unfold bJX6_endOfLetters_5
    rw [h3.1, if_pos (nI_le (by omega) (by omega)), rn_e (by omega)]
  | succ k ih =>
    intro p h1 h2 h3 F
    have l2 := h3.2.1
    show bJX6_endOfLetters_5 _ _ _ _ = _
    unfold bJX6_endOfLetters_5
    rw [h3.1, if_neg (nI_ge (by omega) (by omega)), c_at h3 (by omega), calI_s, tA_y (by omega), e_within, calI_s]
    by_cases c : qL (T p) = true
    · rw [qL_y c, if_neg (by decide), ← nI_succ, rn_y (by omega) c]
      exact ih (p + 1) (by omega) (by omega) h3 F
    · rw [qL_n c, if_pos rfl, rn_n (by omega) c]
theorem c_eol {M : hM} {T : Nat → Int32} {l p : Nat} (h2 : p ≤ l) (h3 : CTx M T l) (h4 : M.1 1 0 5 = nI p) : JX6_endOfLetters M = some (some (.inl (nI (rn qL T l p))), M) := by
  have l2 := h3.2.1
  unfold JX6_endOfLetters
  rw [h4, lt_s9]
  have z := c_eol0 (K := fun v1 m6 => some (some (.inl v1), m6)) (l - p) p rfl h2 h3 (100000 - (l - p) - 1)
  rw [show 100000 - (l - p) - 1 + (l - p) + 1 = FU from by rw [FU_eq]; omega] at z
  exact z
/-! the line -/
def chC (n i : Nat) : Int32 := (ck_byt.getD n []).getD i 0
def lnC (n : Nat) : Nat := ck_len.getD n 0
def mtC (T : Nat → Int32) (l s n : Nat) : Bool := decide (ltr T l s = lnC n ∧ ∀ i, i < lnC n → T (s + i) = chC n i)
theorem tbC : ∀ n, n < 13 → lnC n ≤ 5 ∧ 3 ≤ lnC n ∧ blen 106 n >>> ((0 : Int32) &&& 31) = nI (lnC n) ∧ blen 106 n = nI (lnC n) ∧ blenN 106 n = lnC n := by decide +kernel
theorem tcC : ∀ n, n < 13 → ∀ i, i < 5 → i < lnC n → ji2c ((bytN 106 n).getD (nI i).toNatClampNeg 0 &&& 255) = chC n i ∧ vp_nar .char (chC n i) = chC n i ∧ inb (nI i) (blenN 106 n) = true ∧ chC n i = nI (dgl (chC n i) + 96) ∧ 1 ≤ dgl (chC n i) ∧ dgl (chC n i) < 32 := by decide +kernel
theorem e_lenC {n : Nat} (m : hM) (h : n < 13) : JJ0_length_8abf5_C n m = some (some (.inl (nI (lnC n))), m) := by
  unfold JJ0_length_8abf5_C JJ0_coder_7d493_C jretN
  rw [if_neg (show ¬ (1 : Int32) = 0 by decide), if_pos (show vp_nar .byte 0 = 0 by decide), calI_s, (tbC n h).2.2.1]
theorem e_chrC {n i : Nat} (m : hM) (h : n < 13) (hi : i < lnC n) : JJ0_charAt_5068e_C n (nI i) m = some (some (.inl (chC n i)), m) := by
  have b := tbC n h
  obtain ⟨c1, c2, c3, _⟩ := tcC n h i (by omega) hi
  have ck : JJ3_checkIndex_8e157 (nI i) (nI (lnC n)) m = some (some (.inl (nI i)), m) := by
    unfold JJ3_checkIndex_8e157
    rw [if_neg (show ¬ nI i < 0 from nI_nlt (b := 0) (by omega) (by omega)), if_pos (nI_lt hi (by omega))]
  unfold JJ0_charAt_5068e_C JJ0_isLatin1_aae02_C JJ1_charAt_3b067_C JJ0_checkIndex_df160
  rw [if_neg (show ¬ (1 : Int32) = 0 by decide), if_pos (show (0 : Int32) = 0 from rfl), jretZ_1, calI_s, if_neg (show ¬ (1 : Int32) = 0 by decide), b.2.2.2.1, ck, calI_s, calV_s, bald_s c3, c1, jretN_s c2, calI_s, jretN_s c2]
section
variable {M : hM} {T : Nat → Int32} {l s : Nat}
theorem c_stdC {n : Nat} (hn : n < 13) (h2 : s ≤ l) (h3 : CTx M T l) (h4 : M.1 1 0 5 = nI s) : JX6_stands_C n (nI (rn qL T l s)) M = some (some (.inl (if mtC T l s n = true then 1 else 0)), M) := by
  have l2 := h3.2.1
  have rb := rn_b (q := qL) (T := T) (l := l) (l - s) s rfl h2
  have b := tbC n hn
  have hl : rn qL T l s = s + ltr T l s := by unfold ltr; omega
  unfold JX6_stands_C
  rw [e_lenC M hn, calI_s, h4, hl, show nI (s + ltr T l s) - nI s = nI (ltr T l s) from by rw [← nI_add, Int32.add_comm, Int32.sub_eq_add_neg, Int32.add_assoc, ← Int32.sub_eq_add_neg (nI s), Int32.sub_self, Int32.add_zero]]
  by_cases c : ltr T l s = lnC n
  · rw [if_pos (by rw [c])]
    have lp : ∀ k i, i + k = lnC n → (∀ j, j < i → T (s + j) = chC n j) → ∀ F, JX6_stands_C_17 (fun m9 => jretZ 0 m9) (fun m10 => jretZ 1 m10) n (F + k + 1) (nI i) M = some (some (.inl (if mtC T l s n = true then 1 else 0)), M) := by
      intro k
      induction k with
      | zero =>
        intro i hi ha F
        show bJX6_stands_C_17 _ _ _ _ _ _ = _
        unfold bJX6_stands_C_17
        rw [e_lenC M hn, calI_s, if_pos (nI_le (by omega) (by omega)), if_pos (show mtC T l s n = true from decide_eq_true ⟨c, fun j hj => ha j (by omega)⟩)]
        exact jretZ_1
      | succ k ih =>
        intro i hi ha F
        show bJX6_stands_C_17 _ _ _ _ _ _ = _
        unfold bJX6_stands_C_17
        rw [e_lenC M hn, calI_s, if_neg (nI_ge (by omega) (by omega)), h4, nI_add, c_at h3 (by omega), calI_s, tA_y (by omega), e_chrC M hn (by omega), calI_s, ← nI_succ]
        by_cases d : T (s + i) = chC n i
        · rw [if_pos d]
          refine ih (i + 1) (by omega) (fun j hj => ?_) F
          by_cases e : j = i
          · rw [e]; exact d
          · exact ha j (by omega)
        · rw [if_neg d, if_neg (show ¬ mtC T l s n = true from fun z => d ((of_decide_eq_true z).2 i (by omega)))]
          exact jretZ_0
    have z := lp (lnC n) 0 (by omega) (fun j hj => absurd hj (by omega)) (100000 - lnC n - 1)
    rw [show 100000 - lnC n - 1 + lnC n + 1 = FU from by rw [FU_eq]; omega] at z
    exact z
  · have hlt : ltr T l s ≤ 240 := by unfold ltr; omega
    rw [if_neg (fun z => c (nI_ij (by omega) (by omega) z)), jretZ_0, if_neg (show ¬ mtC T l s n = true from fun z => c (of_decide_eq_true z).1)]
theorem c_wrdC (h2 : s ≤ l) (h3 : CTx M T l) (h4 : M.1 1 0 5 = nI s) : JX6_clauseHere M = some (some (.inl (ffn (mtC T l s) 13 0)), M) := by
  have lp : ∀ k i, i + k = 13 → ∀ F, JX6_clauseHere_7 (fun v2 m6 => some (some (.inl v2), m6)) (fun m7 => some (some (.inl (-1)), m7)) (nI (rn qL T l s)) (F + k + 1) (nI i) M = some (some (.inl (ffn (mtC T l s) k i)), M) := by
    intro k
    induction k with
    | zero =>
      intro i hi F
      show bJX6_clauseHere_7 _ _ _ _ _ _ = _
      unfold bJX6_clauseHere_7
      rw [if_pos (show (13 : Int32) ≤ nI i from nI_le (a := 13) (by omega) (by omega))]
      rfl
    | succ k ih =>
      intro i hi F
      have hi3 : i < 13 := by omega
      have ei : ∀ i, i < 13 → inb (nI i) 13 = true ∧ (nI i).toNatClampNeg = i := by decide +kernel
      show bJX6_clauseHere_7 _ _ _ _ _ _ = _
      unfold bJX6_clauseHere_7
      rw [if_neg (show ¬ (13 : Int32) ≤ nI i from nI_ge (b := 13) hi3 (by decide)), eal_s (ei i hi3).1, (ei i hi3).2, c_stdC hi3 h2 h3 h4, calI_s, ffn_s, ← nI_succ]
      by_cases c : mtC T l s i = true
      · rw [if_pos c, if_pos c, if_neg (by decide)]
      · rw [if_neg c, if_neg c, if_pos rfl]
        exact ih (i + 1) (by omega) F
  unfold JX6_clauseHere
  rw [c_eol h2 h3 h4, calI_s]
  have z := lp 13 0 rfl (100000 - 13 - 1)
  rw [show 100000 - 13 - 1 + 13 + 1 = FU from by rw [FU_eq]] at z
  exact z
/-- the number of a word of the reference -/
def cdC (n : Nat) : Int64 := Int64.ofNat (cdR (rlf (fun i => dgl (chC n i)) (lnC n) 0))
theorem cdC_iff {n : Nat} (hn : n < 13) (h2 : s ≤ l) (hl : l ≤ 240) : tW T l s = cdC n ↔ mtC T l s n = true := by
  have rb := rn_b (q := qL) (T := T) (l := l) (l - s) s rfl h2
  have b := tbC n hn
  have lq : ∀ i, i < ltr T l s → qL (T (s + i)) = true := fun i hi => rb.2.2.1 (s + i) (by omega) (by unfold ltr at hi; omega)
  have db : ∀ i, i < lnC n → 1 ≤ dgl (chC n (0 + i)) ∧ dgl (chC n (0 + i)) < 32 := fun i hi => by
    rw [Nat.zero_add]
    exact (tcC n hn i (by omega) hi).2.2.2.2
  have tb : ∀ i, i < ltr T l s → 1 ≤ dgl (T (s + i)) ∧ dgl (T (s + i)) < 32 := fun i hi => by
    obtain ⟨j, j1, j2, e, e2⟩ := ltr_v (lq i hi)
    rw [e2]; omega
  have pw : ∀ k, k ≤ 6 → 32 ^ k ≤ 2 ^ 30 := fun k hk => by
    have e : ∀ k, k < 7 → 32 ^ k ≤ 2 ^ 30 := by decide
    exact e k (by omega)
  have c2 := rlf_c (f := fun i => dgl (chC n i)) (p := 0) (lnC n) (fun i hi => (db i hi).2)
  have p2 := pw (lnC n) (by omega)
  unfold tW cdC
  by_cases c : ltr T l s ≤ 6
  · have c1 := rlf_c (f := fun i => dgl (T i)) (p := s) (ltr T l s) (fun i hi => (tb i hi).2)
    have p1 := pw (ltr T l s) c
    rw [if_pos c, wF_v (ltr T l s) c lq]
    refine ⟨fun h => ?_, fun h => ?_⟩
    · have e := cdR_i _ _ (rlf_b _ tb) (rlf_b _ db) (of64_i (by omega) (by omega) h)
      obtain ⟨e1, e2⟩ := (rlf_i _ _).mp e
      refine decide_eq_true ⟨e1, fun i hi => ?_⟩
      have z := e2 i (by omega)
      rw [Nat.zero_add] at z
      obtain ⟨j, j1, j2, e3, e4⟩ := ltr_v (lq i (by omega))
      have d := tcC n hn i (by omega) hi
      rw [e3, d.2.2.2.1, ← z]
      show nI j = nI (dgl (T (s + i)) + 96)
      rw [e4, show j - 96 + 96 = j from by omega]
    · obtain ⟨e1, e2⟩ := of_decide_eq_true h
      rw [(rlf_i (f := fun i => dgl (T i)) (g := fun i => dgl (chC n i)) (p := s) (r := 0) (ltr T l s) (lnC n)).mpr ⟨e1, fun i hi => by rw [Nat.zero_add]; exact congrArg dgl (e2 i (by omega))⟩]
  · rw [if_neg c]
    refine ⟨fun h => ?_, fun h => absurd (of_decide_eq_true h).1 (by omega)⟩
    have z : (0 : Nat) = cdR (rlf (fun i => dgl (chC n i)) (lnC n) 0) := of64_i (by decide) (by omega) h
    have e := cdR_i (rlf (fun _ => 0) 0 0) _ (fun d hd => by cases hd) (rlf_b _ db) z
    have := ((rlf_i _ _).mp e).1
    omega
end
/-! the script -/
def chS (n i : Nat) : Int32 := (sk_byt.getD n []).getD i 0
def lnS (n : Nat) : Nat := sk_len.getD n 0
def mtS (T : Nat → Int32) (l s n : Nat) : Bool := decide (ltr T l s = lnS n ∧ ∀ i, i < lnS n → T (s + i) = chS n i)
theorem tbS : ∀ n, n < 8 → lnS n ≤ 5 ∧ 3 ≤ lnS n ∧ blen 107 n >>> ((0 : Int32) &&& 31) = nI (lnS n) ∧ blen 107 n = nI (lnS n) ∧ blenN 107 n = lnS n := by decide +kernel
theorem tcS : ∀ n, n < 8 → ∀ i, i < 5 → i < lnS n → ji2c ((bytN 107 n).getD (nI i).toNatClampNeg 0 &&& 255) = chS n i ∧ vp_nar .char (chS n i) = chS n i ∧ inb (nI i) (blenN 107 n) = true ∧ chS n i = nI (dgl (chS n i) + 96) ∧ 1 ≤ dgl (chS n i) ∧ dgl (chS n i) < 32 := by decide +kernel
theorem e_lenS {n : Nat} (m : hM) (h : n < 8) : JJ0_length_8abf5_S n m = some (some (.inl (nI (lnS n))), m) := by
  unfold JJ0_length_8abf5_S JJ0_coder_7d493_S jretN
  rw [if_neg (show ¬ (1 : Int32) = 0 by decide), if_pos (show vp_nar .byte 0 = 0 by decide), calI_s, (tbS n h).2.2.1]
theorem e_chrS {n i : Nat} (m : hM) (h : n < 8) (hi : i < lnS n) : JJ0_charAt_5068e_S n (nI i) m = some (some (.inl (chS n i)), m) := by
  have b := tbS n h
  obtain ⟨c1, c2, c3, _⟩ := tcS n h i (by omega) hi
  have ck : JJ3_checkIndex_8e157 (nI i) (nI (lnS n)) m = some (some (.inl (nI i)), m) := by
    unfold JJ3_checkIndex_8e157
    rw [if_neg (show ¬ nI i < 0 from nI_nlt (b := 0) (by omega) (by omega)), if_pos (nI_lt hi (by omega))]
  unfold JJ0_charAt_5068e_S JJ0_isLatin1_aae02_S JJ1_charAt_3b067_S JJ0_checkIndex_df160
  rw [if_neg (show ¬ (1 : Int32) = 0 by decide), if_pos (show (0 : Int32) = 0 from rfl), jretZ_1, calI_s, if_neg (show ¬ (1 : Int32) = 0 by decide), b.2.2.2.1, ck, calI_s, calV_s, bald_s c3, c1, jretN_s c2, calI_s, jretN_s c2]
section
variable {M : hM} {T : Nat → Int32} {l s : Nat}
theorem c_stdS {n : Nat} (hn : n < 8) (h2 : s ≤ l) (h3 : CTx M T l) (h4 : M.1 1 0 5 = nI s) : JX6_stands_S n (nI (rn qL T l s)) M = some (some (.inl (if mtS T l s n = true then 1 else 0)), M) := by
  have l2 := h3.2.1
  have rb := rn_b (q := qL) (T := T) (l := l) (l - s) s rfl h2
  have b := tbS n hn
  have hl : rn qL T l s = s + ltr T l s := by unfold ltr; omega
  unfold JX6_stands_S
  rw [e_lenS M hn, calI_s, h4, hl, show nI (s + ltr T l s) - nI s = nI (ltr T l s) from by rw [← nI_add, Int32.add_comm, Int32.sub_eq_add_neg, Int32.add_assoc, ← Int32.sub_eq_add_neg (nI s), Int32.sub_self, Int32.add_zero]]
  by_cases c : ltr T l s = lnS n
  · rw [if_pos (by rw [c])]
    have lp : ∀ k i, i + k = lnS n → (∀ j, j < i → T (s + j) = chS n j) → ∀ F, JX6_stands_S_17 (fun m9 => jretZ 0 m9) (fun m10 => jretZ 1 m10) n (F + k + 1) (nI i) M = some (some (.inl (if mtS T l s n = true then 1 else 0)), M) := by
      intro k
      induction k with
      | zero =>
        intro i hi ha F
        show bJX6_stands_S_17 _ _ _ _ _ _ = _
        unfold bJX6_stands_S_17
        rw [e_lenS M hn, calI_s, if_pos (nI_le (by omega) (by omega)), if_pos (show mtS T l s n = true from decide_eq_true ⟨c, fun j hj => ha j (by omega)⟩)]
        exact jretZ_1
      | succ k ih =>
        intro i hi ha F
        show bJX6_stands_S_17 _ _ _ _ _ _ = _
        unfold bJX6_stands_S_17
        rw [e_lenS M hn, calI_s, if_neg (nI_ge (by omega) (by omega)), h4, nI_add, c_at h3 (by omega), calI_s, tA_y (by omega), e_chrS M hn (by omega), calI_s, ← nI_succ]
        by_cases d : T (s + i) = chS n i
        · rw [if_pos d]
          refine ih (i + 1) (by omega) (fun j hj => ?_) F
          by_cases e : j = i
          · rw [e]; exact d
          · exact ha j (by omega)
        · rw [if_neg d, if_neg (show ¬ mtS T l s n = true from fun z => d ((of_decide_eq_true z).2 i (by omega)))]
          exact jretZ_0
    have z := lp (lnS n) 0 (by omega) (fun j hj => absurd hj (by omega)) (100000 - lnS n - 1)
    rw [show 100000 - lnS n - 1 + lnS n + 1 = FU from by rw [FU_eq]; omega] at z
    exact z
  · have hlt : ltr T l s ≤ 240 := by unfold ltr; omega
    rw [if_neg (fun z => c (nI_ij (by omega) (by omega) z)), jretZ_0, if_neg (show ¬ mtS T l s n = true from fun z => c (of_decide_eq_true z).1)]
theorem c_wrdS (h2 : s ≤ l) (h3 : CTx M T l) (h4 : M.1 1 0 5 = nI s) : JX6_stepHere M = some (some (.inl (ffn (mtS T l s) 8 0)), M) := by
  have lp : ∀ k i, i + k = 8 → ∀ F, JX6_stepHere_7 (fun v2 m6 => some (some (.inl v2), m6)) (fun m7 => some (some (.inl (-1)), m7)) (nI (rn qL T l s)) (F + k + 1) (nI i) M = some (some (.inl (ffn (mtS T l s) k i)), M) := by
    intro k
    induction k with
    | zero =>
      intro i hi F
      show bJX6_stepHere_7 _ _ _ _ _ _ = _
      unfold bJX6_stepHere_7
      rw [if_pos (show (8 : Int32) ≤ nI i from nI_le (a := 8) (by omega) (by omega))]
      rfl
    | succ k ih =>
      intro i hi F
      have hi3 : i < 8 := by omega
      have ei : ∀ i, i < 8 → inb (nI i) 8 = true ∧ (nI i).toNatClampNeg = i := by decide +kernel
      show bJX6_stepHere_7 _ _ _ _ _ _ = _
      unfold bJX6_stepHere_7
      rw [if_neg (show ¬ (8 : Int32) ≤ nI i from nI_ge (b := 8) hi3 (by decide)), eal_s (ei i hi3).1, (ei i hi3).2, c_stdS hi3 h2 h3 h4, calI_s, ffn_s, ← nI_succ]
      by_cases c : mtS T l s i = true
      · rw [if_pos c, if_pos c, if_neg (by decide)]
      · rw [if_neg c, if_neg c, if_pos rfl]
        exact ih (i + 1) (by omega) F
  unfold JX6_stepHere
  rw [c_eol h2 h3 h4, calI_s]
  have z := lp 8 0 rfl (100000 - 8 - 1)
  rw [show 100000 - 8 - 1 + 8 + 1 = FU from by rw [FU_eq]] at z
  exact z
/-- the number of a word of the reference -/
def cdS (n : Nat) : Int64 := Int64.ofNat (cdR (rlf (fun i => dgl (chS n i)) (lnS n) 0))
theorem cdS_iff {n : Nat} (hn : n < 8) (h2 : s ≤ l) (hl : l ≤ 240) : tW T l s = cdS n ↔ mtS T l s n = true := by
  have rb := rn_b (q := qL) (T := T) (l := l) (l - s) s rfl h2
  have b := tbS n hn
  have lq : ∀ i, i < ltr T l s → qL (T (s + i)) = true := fun i hi => rb.2.2.1 (s + i) (by omega) (by unfold ltr at hi; omega)
  have db : ∀ i, i < lnS n → 1 ≤ dgl (chS n (0 + i)) ∧ dgl (chS n (0 + i)) < 32 := fun i hi => by
    rw [Nat.zero_add]
    exact (tcS n hn i (by omega) hi).2.2.2.2
  have tb : ∀ i, i < ltr T l s → 1 ≤ dgl (T (s + i)) ∧ dgl (T (s + i)) < 32 := fun i hi => by
    obtain ⟨j, j1, j2, e, e2⟩ := ltr_v (lq i hi)
    rw [e2]; omega
  have pw : ∀ k, k ≤ 6 → 32 ^ k ≤ 2 ^ 30 := fun k hk => by
    have e : ∀ k, k < 7 → 32 ^ k ≤ 2 ^ 30 := by decide
    exact e k (by omega)
  have c2 := rlf_c (f := fun i => dgl (chS n i)) (p := 0) (lnS n) (fun i hi => (db i hi).2)
  have p2 := pw (lnS n) (by omega)
  unfold tW cdS
  by_cases c : ltr T l s ≤ 6
  · have c1 := rlf_c (f := fun i => dgl (T i)) (p := s) (ltr T l s) (fun i hi => (tb i hi).2)
    have p1 := pw (ltr T l s) c
    rw [if_pos c, wF_v (ltr T l s) c lq]
    refine ⟨fun h => ?_, fun h => ?_⟩
    · have e := cdR_i _ _ (rlf_b _ tb) (rlf_b _ db) (of64_i (by omega) (by omega) h)
      obtain ⟨e1, e2⟩ := (rlf_i _ _).mp e
      refine decide_eq_true ⟨e1, fun i hi => ?_⟩
      have z := e2 i (by omega)
      rw [Nat.zero_add] at z
      obtain ⟨j, j1, j2, e3, e4⟩ := ltr_v (lq i (by omega))
      have d := tcS n hn i (by omega) hi
      rw [e3, d.2.2.2.1, ← z]
      show nI j = nI (dgl (T (s + i)) + 96)
      rw [e4, show j - 96 + 96 = j from by omega]
    · obtain ⟨e1, e2⟩ := of_decide_eq_true h
      rw [(rlf_i (f := fun i => dgl (T i)) (g := fun i => dgl (chS n i)) (p := s) (r := 0) (ltr T l s) (lnS n)).mpr ⟨e1, fun i hi => by rw [Nat.zero_add]; exact congrArg dgl (e2 i (by omega))⟩]
  · rw [if_neg c]
    refine ⟨fun h => ?_, fun h => absurd (of_decide_eq_true h).1 (by omega)⟩
    have z : (0 : Nat) = cdR (rlf (fun i => dgl (chS n i)) (lnS n) 0) := of64_i (by decide) (by omega) h
    have e := cdR_i (rlf (fun _ => 0) 0 0) _ (fun d hd => by cases hd) (rlf_b _ db) z
    have := ((rlf_i _ _).mp e).1
    omega
end
