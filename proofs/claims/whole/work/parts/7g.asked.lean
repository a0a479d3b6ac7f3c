/-! words of the reference -/
def wv (a b c d e : Int32) : Int64 := if e = 0 then ((32 * (((32 * (((32 * ((a - 96).toInt64)) + b.toInt64) - 96)) + c.toInt64) - 96)) + d.toInt64) - 96 else ((32 * (((32 * (((32 * (((32 * ((a - 96).toInt64)) + b.toInt64) - 96)) + c.toInt64) - 96)) + d.toInt64) - 96)) + e.toInt64) - 96
def w3 (a b c : Int32) : Int64 := (((1024 * ((a - 96).toInt64)) + (32 * ((b - 96).toInt64))) + c.toInt64) - 96
theorem e_word (a b c d e : Int32) (m : hM) : JX12_word a b c d e m = some (some (.inr (.inl (wv a b c d e))), m) := by
  unfold JX12_word wv
  rw [lt_s9, lt_s9, lt_s9]
  by_cases h : e = 0
  · rw [if_pos h, if_pos h]
  · rw [if_neg h, if_neg h]
theorem e_w3 (a b c : Int32) (m : hM) : JX12_shortWord a b c m = some (some (.inr (.inl (w3 a b c))), m) := rfl
theorem calL_s9 {x : Int64} {m1 : hM} {k : Int64 → hM → hR} : calL (some (some (.inr (.inl x)), m1)) k = k x m1 := rfl
theorem e_lineWord {n : Nat} (m : hM) (hn : n < 13) : JX12_lineWord (nI n) m = some (some (.inr (.inl (cdC n))), m) := by
  have c : n = 0 ∨ n = 1 ∨ n = 2 ∨ n = 3 ∨ n = 4 ∨ n = 5 ∨ n = 6 ∨ n = 7 ∨ n = 8 ∨ n = 9 ∨ n = 10 ∨ n = 11 ∨ n = 12 := by omega
  unfold JX12_lineWord
  rcases c with c | c | c | c | c | c | c | c | c | c | c | c | c <;> subst c
  · rw [swL_p (by decide), e_word, calL_s9, show wv 112 117 108 115 101 = cdC 0 from by decide +kernel]
  · rw [swL_n (by decide), swL_p (by decide), e_word, calL_s9, show wv 102 111 114 101 0 = cdC 1 from by decide +kernel]
  · rw [swL_n (by decide), swL_n (by decide), swL_p (by decide), e_word, calL_s9, show wv 98 97 99 107 0 = cdC 2 from by decide +kernel]
  · rw [swL_n (by decide), swL_n (by decide), swL_n (by decide), swL_p (by decide), e_word, calL_s9, show wv 100 101 108 97 121 = cdC 3 from by decide +kernel]
  · rw [swL_n (by decide), swL_n (by decide), swL_n (by decide), swL_n (by decide), swL_p (by decide), e_word, calL_s9, show wv 108 101 118 101 108 = cdC 4 from by decide +kernel]
  · rw [swL_n (by decide), swL_n (by decide), swL_n (by decide), swL_n (by decide), swL_n (by decide), swL_p (by decide), e_word, calL_s9, show wv 103 101 97 114 0 = cdC 5 from by decide +kernel]
  · rw [swL_n (by decide), swL_n (by decide), swL_n (by decide), swL_n (by decide), swL_n (by decide), swL_n (by decide), swL_p (by decide), e_word, calL_s9, show wv 102 108 111 111 114 = cdC 6 from by decide +kernel]
  · rw [swL_n (by decide), swL_n (by decide), swL_n (by decide), swL_n (by decide), swL_n (by decide), swL_n (by decide), swL_n (by decide), swL_p (by decide), e_word, calL_s9, show wv 110 111 105 115 101 = cdC 7 from by decide +kernel]
  · rw [swL_n (by decide), swL_n (by decide), swL_n (by decide), swL_n (by decide), swL_n (by decide), swL_n (by decide), swL_n (by decide), swL_n (by decide), swL_p (by decide), e_word, calL_s9, show wv 116 114 97 105 110 = cdC 8 from by decide +kernel]
  · rw [swL_n (by decide), swL_n (by decide), swL_n (by decide), swL_n (by decide), swL_n (by decide), swL_n (by decide), swL_n (by decide), swL_n (by decide), swL_n (by decide), swL_p (by decide), e_word, calL_s9, show wv 115 101 101 100 0 = cdC 9 from by decide +kernel]
  · rw [swL_n (by decide), swL_n (by decide), swL_n (by decide), swL_n (by decide), swL_n (by decide), swL_n (by decide), swL_n (by decide), swL_n (by decide), swL_n (by decide), swL_n (by decide), swL_p (by decide), e_word, calL_s9, show wv 116 114 97 99 107 = cdC 10 from by decide +kernel]
  · rw [swL_n (by decide), swL_n (by decide), swL_n (by decide), swL_n (by decide), swL_n (by decide), swL_n (by decide), swL_n (by decide), swL_n (by decide), swL_n (by decide), swL_n (by decide), swL_n (by decide), swL_p (by decide), e_word, calL_s9, show wv 108 111 99 107 0 = cdC 11 from by decide +kernel]
  · rw [swL_n (by decide), swL_n (by decide), swL_n (by decide), swL_n (by decide), swL_n (by decide), swL_n (by decide), swL_n (by decide), swL_n (by decide), swL_n (by decide), swL_n (by decide), swL_n (by decide), swL_n (by decide), swL_0, e_word, calL_s9, show wv 119 111 114 100 0 = cdC 12 from by decide +kernel]
theorem e_stepWord {n : Nat} (m : hM) (hn : n < 8) : JX12_stepWord (nI n) m = some (some (.inr (.inl (cdS n))), m) := by
  have c : n = 0 ∨ n = 1 ∨ n = 2 ∨ n = 3 ∨ n = 4 ∨ n = 5 ∨ n = 6 ∨ n = 7 := by omega
  unfold JX12_stepWord
  rcases c with c | c | c | c | c | c | c | c <;> subst c
  · rw [swL_p (by decide), e_word, calL_s9, show wv 115 101 110 100 0 = cdS 0 from by decide +kernel]
  · rw [swL_n (by decide), swL_p (by decide), e_word, calL_s9, show wv 112 104 97 115 101 = cdS 1 from by decide +kernel]
  · rw [swL_n (by decide), swL_n (by decide), swL_p (by decide), e_word, calL_s9, show wv 104 111 108 100 0 = cdS 2 from by decide +kernel]
  · rw [swL_n (by decide), swL_n (by decide), swL_n (by decide), swL_p (by decide), e_w3, calL_s9, show w3 116 97 112 = cdS 3 from by decide +kernel]
  · rw [swL_n (by decide), swL_n (by decide), swL_n (by decide), swL_n (by decide), swL_p (by decide), e_word, calL_s9, show wv 100 114 111 112 0 = cdS 4 from by decide +kernel]
  · rw [swL_n (by decide), swL_n (by decide), swL_n (by decide), swL_n (by decide), swL_n (by decide), swL_p (by decide), e_word, calL_s9, show wv 110 111 105 115 101 = cdS 5 from by decide +kernel]
  · rw [swL_n (by decide), swL_n (by decide), swL_n (by decide), swL_n (by decide), swL_n (by decide), swL_n (by decide), swL_p (by decide), e_word, calL_s9, show wv 116 114 97 105 110 = cdS 6 from by decide +kernel]
  · rw [swL_n (by decide), swL_n (by decide), swL_n (by decide), swL_n (by decide), swL_n (by decide), swL_n (by decide), swL_n (by decide), swL_0, e_word, calL_s9, show wv 115 101 101 107 0 = cdS 7 from by decide +kernel]
theorem m_askC {M : hM} {T : Nat → Int32} {l s : Nat} (h2 : s ≤ l) (hl : l ≤ 240) (h : Tok M T l s) : JX12_wordAsked 0 M = some (some (.inl (ffn (mtC T l s) 13 0)), M) := by
  have lp : ∀ k i, i + k = 13 → ∀ F, JX12_wordAsked_14 (fun v3 m5 => some (some (.inl v3), m5)) (fun m6 => some (some (.inl (-1)), m6)) 0 13 (F + k + 1) (nI i) M = some (some (.inl (ffn (mtC T l s) k i)), M) := by
    intro k
    induction k with
    | zero =>
      intro i hi F
      show bJX12_wordAsked_14 _ _ _ _ _ _ _ = _
      unfold bJX12_wordAsked_14
      rw [if_pos (show (13 : Int32) ≤ nI i from nI_le (a := 13) (by omega) (by omega))]
      rfl
    | succ k ih =>
      intro i hi F
      have hi3 : i < 13 := by omega
      show bJX12_wordAsked_14 _ _ _ _ _ _ _ = _
      unfold bJX12_wordAsked_14 JX12_wordAsked_46 JX12_wordAsked_52
      rw [if_neg (show ¬ (13 : Int32) ≤ nI i from nI_ge (b := 13) hi3 (by decide)), h.2.1, ffn_s, ← nI_succ]
      by_cases c : tK T l s = 1
      · rw [if_pos c, if_pos (show (0 : Int32) = 0 from rfl), e_lineWord M hi3, calL_s9, h.2.2.2.2 c]
        have q := cdC_iff (T := T) (s := s) (l := l) hi3 h2 hl
        by_cases d : mtC T l s i = true
        · rw [if_pos d, if_pos ((lg_0 _ _).mpr (q.mpr d))]
        · rw [if_neg d, if_neg (fun z => d (q.mp ((lg_0 _ _).mp z)))]
          exact ih (i + 1) (by omega) F
      · have l0 : ltr T l s = 0 := by
          by_cases y : s < l
          · by_cases z : qL (T s) = true
            · exact absurd (by unfold tK; rw [if_pos y, if_pos z]) c
            · exact ltr_n y z
          · exact ltr_0 (by omega)
        have b := tbC i hi3
        rw [if_neg c, if_neg (show ¬ mtC T l s i = true from fun z => by have := (of_decide_eq_true z).1; omega)]
        exact ih (i + 1) (by omega) F
  unfold JX12_wordAsked JX12_wordAsked_11
  rw [if_pos (show (0 : Int32) = 0 from rfl)]
  have z := lp 13 0 rfl (100000 - 13 - 1)
  rw [show 100000 - 13 - 1 + 13 + 1 = FU from by rw [FU_eq]] at z
  exact z
theorem m_askS {M : hM} {T : Nat → Int32} {l s : Nat} (h2 : s ≤ l) (hl : l ≤ 240) (h : Tok M T l s) : JX12_wordAsked 1 M = some (some (.inl (ffn (mtS T l s) 8 0)), M) := by
  have lp : ∀ k i, i + k = 8 → ∀ F, JX12_wordAsked_14 (fun v3 m5 => some (some (.inl v3), m5)) (fun m6 => some (some (.inl (-1)), m6)) 1 8 (F + k + 1) (nI i) M = some (some (.inl (ffn (mtS T l s) k i)), M) := by
    intro k
    induction k with
    | zero =>
      intro i hi F
      show bJX12_wordAsked_14 _ _ _ _ _ _ _ = _
      unfold bJX12_wordAsked_14
      rw [if_pos (show (8 : Int32) ≤ nI i from nI_le (a := 8) (by omega) (by omega))]
      rfl
    | succ k ih =>
      intro i hi F
      have hi3 : i < 8 := by omega
      show bJX12_wordAsked_14 _ _ _ _ _ _ _ = _
      unfold bJX12_wordAsked_14 JX12_wordAsked_46 JX12_wordAsked_52
      rw [if_neg (show ¬ (8 : Int32) ≤ nI i from nI_ge (b := 8) hi3 (by decide)), h.2.1, ffn_s, ← nI_succ]
      by_cases c : tK T l s = 1
      · rw [if_pos c, if_neg (show ¬ (1 : Int32) = 0 by decide), e_stepWord M hi3, calL_s9, h.2.2.2.2 c]
        have q := cdS_iff (T := T) (s := s) (l := l) hi3 h2 hl
        by_cases d : mtS T l s i = true
        · rw [if_pos d, if_pos ((lg_0 _ _).mpr (q.mpr d))]
        · rw [if_neg d, if_neg (fun z => d (q.mp ((lg_0 _ _).mp z)))]
          exact ih (i + 1) (by omega) F
      · have l0 : ltr T l s = 0 := by
          by_cases y : s < l
          · by_cases z : qL (T s) = true
            · exact absurd (by unfold tK; rw [if_pos y, if_pos z]) c
            · exact ltr_n y z
          · exact ltr_0 (by omega)
        have b := tbS i hi3
        rw [if_neg c, if_neg (show ¬ mtS T l s i = true from fun z => by have := (of_decide_eq_true z).1; omega)]
        exact ih (i + 1) (by omega) F
  unfold JX12_wordAsked JX12_wordAsked_11
  rw [if_neg (show ¬ (1 : Int32) = 0 by decide)]
  have z := lp 8 0 rfl (100000 - 8 - 1)
  rw [show 100000 - 8 - 1 + 8 + 1 = FU from by rw [FU_eq]] at z
  exact z
