/-! one step of a script -/
section
variable {T : Nat → Int32} {l p : Nat} {lo hi : Int32}
/-- a number, read by both -/
theorem one1 (hb : ∀ i, i < l → bw (T i) 1 255) (hp : p ≤ l) (b1 : bw lo (-255) 255) (b2 : bw hi (-255) 255) :
    (∃ s, s ≤ l ∧ (∀ M, CTx M T l → M.1 1 0 5 = nI p → ∃ M2, JX6_readNumber lo hi M = some (some (.inl 0), M2) ∧ Cx M M2 ∧ M2.1 1 0 6 = nI s) ∧
      ∀ N, RTx N T l → N.1 40 0 3 = nI p → ∃ N1, JX12_next N = some (none, N1) ∧ Nx N N1 ∧ N1.1 40 0 6 = nI s ∧ (N1.1 40 0 5 = 2 → hwi (N1.1 40 0 7) lo hi = 0)) ∨
    (∃ v q, q ≤ l ∧ hwi v lo hi = 1 ∧ (∀ M, CTx M T l → M.1 1 0 5 = nI p → ∃ M2, JX6_readNumber lo hi M = some (some (.inl 1), M2) ∧ Cx M M2 ∧ M2.1 1 0 5 = nI q ∧ M2.1 1 0 6 = M.1 1 0 6 ∧ M2.1 1 0 7 = v) ∧
      ∀ N, RTx N T l → N.1 40 0 3 = nI p → ∃ N1, JX12_next N = some (none, N1) ∧ Nx N N1 ∧ N1.1 40 0 5 = 2 ∧ N1.1 40 0 7 = v ∧ N1.1 40 0 3 = nI q) := by
  obtain ⟨r1, r2, _, _⟩ := rn_b (q := qB) (T := T) (l := l) (l - p) p rfl hp
  have rdn := fun (M : hM) (h1 : CTx M T l) (h2 : M.1 1 0 5 = nI p) => c_rdn (lo := lo) (hi := hi) hp h1 h2
  have nxt := fun (N : hM) (h1 : RTx N T l) (h2 : N.1 40 0 3 = nI p) => m_nxt hb hp h1 h2
  generalize rn qB T l p = s at rdn nxt r1 r2
  by_cases good : tK T l s = 2 ∧ hwi (tV stK T l s) lo hi = 1
  · obtain ⟨c2, wi⟩ := good
    have w := tV_w c2 b1 b2
    refine Or.inr ⟨tV stR T l s, tE T l s, (tE_le (T := T) r2).2, by rw [← w.1]; exact wi, fun M h1 h2 => ?_, fun N h1 h2 => ?_⟩
    · obtain ⟨M2, a1, a2, a3, a4, a5⟩ := (rdn M h1 h2).1 ⟨c2, wi⟩
      exact ⟨M2, a1, a2, a3, a4, a5.trans (w.2 wi)⟩
    · obtain ⟨N1, a1, a2, a3⟩ := nxt N h1 h2
      exact ⟨N1, a1, a2, a3.2.1.trans c2, a3.2.2.2.1 c2, a3.2.2.1⟩
  · refine Or.inl ⟨s, r2, fun M h1 h2 => ?_, fun N h1 h2 => ?_⟩
    · exact (rdn M h1 h2).2 good
    · obtain ⟨N1, a1, a2, a3⟩ := nxt N h1 h2
      refine ⟨N1, a1, a2, a3.1, fun c => ?_⟩
      have c2 : tK T l s = 2 := a3.2.1.symm.trans c
      have w := tV_w c2 b1 b2
      rw [a3.2.2.2.1 c2, ← w.1]
      exact (hwi_b _ _ _).resolve_right (fun z => good ⟨c2, z⟩)
end
def loS (k j : Nat) : Int32 := if j = 0 then sk_low.getD k 0 else -255
def hiS (k j : Nat) : Int32 := if j = 0 then sk_high.getD k 0 else 255
def loT (a b : Int32) : Int32 := if a = 0 then 1 else if a = 3 then (if b = 1 then -255 else 0) else 0
def hiT (a b : Int32) : Int32 := if a = 0 then 60 else if a = 1 then 3 else if a = 2 then 1 else if a = 3 then (if b = 0 then 5 else 255) else if a = 4 then 99 else if a = 5 then 4 else 99
theorem e_loT (a b : Int32) (m : hM) : JX12_stepLow a b m = some (some (.inl (loT a b)), m) := by
  unfold JX12_stepLow loT
  by_cases c : a = 0
  · rw [if_pos c, if_pos c]
  · rw [if_neg c, if_neg c]
    by_cases c : a = 3
    · rw [if_pos c, if_pos c]
      by_cases c : b = 1
      · rw [if_pos c, if_pos c]
      · rw [if_neg c, if_neg c]
    · rw [if_neg c, if_neg c]
theorem e_hiT (a b : Int32) (m : hM) : JX12_stepHigh a b m = some (some (.inl (hiT a b)), m) := by
  unfold JX12_stepHigh hiT
  by_cases c : a = 0
  · rw [swL_p c, if_pos c]
  rw [swL_n c, if_neg c]
  by_cases c : a = 1
  · rw [swL_p c, if_pos c]
  rw [swL_n c, if_neg c]
  by_cases c : a = 2
  · rw [swL_p c, if_pos c]
  rw [swL_n c, if_neg c]
  by_cases c : a = 3
  · rw [swL_p c, if_pos c]
    by_cases c : b = 0
    · rw [if_pos c, if_pos c]
    · rw [if_neg c, if_neg c]
  rw [swL_n c, if_neg c]
  by_cases c : a = 4
  · rw [swL_p c, if_pos c]
  rw [swL_n c, if_neg c]
  by_cases c : a = 5
  · rw [swL_p c, if_pos c]
  rw [swL_n c, if_neg c, swL_0]
def nmS (k : Nat) : Nat := if k = 3 then 2 else if k = 4 ∨ k = 7 then 0 else 1
theorem tsN : ∀ k, k < 8 → sk_numbers.getD k 0 = nI (nmS k) ∧ nmS k ≤ 2 := by decide +kernel
theorem tsT : ∀ k, k < 8 → ∀ j, j < 2 → j < nmS k → loT (nI k) (nI j) = loS k j ∧ hiT (nI k) (nI j) = hiS k j := by decide +kernel
theorem tsB : ∀ k, k < 8 → ∀ j, j < 2 → ((-255 ≤ (loS k j).toInt ∧ (loS k j).toInt ≤ 255) ∧ (-255 ≤ (hiS k j).toInt ∧ (hiS k j).toInt ≤ 255)) := by decide +kernel
theorem e_loC {k j : Nat} (m : hM) (hj : j < 2) : JX9_lowOf k (nI j) m = some (some (.inl (loS k j)), m) := by
  unfold JX9_lowOf loS
  by_cases c : j = 0
  · rw [c, if_pos (show nI 0 = 0 from rfl), if_pos rfl]
  · rw [if_neg (nI_ne0 (by omega) (by omega)), if_neg c]
theorem e_hiC {k j : Nat} (m : hM) (hj : j < 2) : JX9_highOf k (nI j) m = some (some (.inl (hiS k j)), m) := by
  unfold JX9_highOf hiS
  by_cases c : j = 0
  · rw [c, if_pos (show nI 0 = 0 from rfl), if_pos rfl]
  · rw [if_neg (nI_ne0 (by omega) (by omega)), if_neg c]
/-- what one step's numbers touch -/
def FS1 (i : Nat) (M M2 : hM) : Prop := (∀ a b c, ¬ ((a = 1 ∧ (c = 5 ∨ c = 6 ∨ c = 7)) ∨ ((a = 10 ∨ a = 11) ∧ b = 4 ∧ c = i)) → M2.1 a b c = M.1 a b c) ∧ M2.2 = M.2
def GS1 (o : Nat) (M M2 : hM) : Prop := (∀ a b c, ¬ ((a = 40 ∧ (c = 3 ∨ c = 4 ∨ c = 5 ∨ c = 6 ∨ c = 7)) ∨ (a = 48 ∧ (c = o + 1 ∨ c = o + 2))) → M2.1 a b c = M.1 a b c) ∧ ∀ a b c, ¬ (a = 40 ∧ c = 8) → M2.2 a b c = M.2 a b c
theorem FS1_t {i : Nat} {a b c : hM} (h : FS1 i a b) (h2 : FS1 i b c) : FS1 i a c := ⟨fun x y z q => (h2.1 x y z q).trans (h.1 x y z q), h2.2.trans h.2⟩
theorem GS1_t {i : Nat} {a b c : hM} (h : GS1 i a b) (h2 : GS1 i b c) : GS1 i a c := ⟨fun x y z q => (h2.1 x y z q).trans (h.1 x y z q), fun x y z q => (h2.2 x y z q).trans (h.2 x y z q)⟩
theorem FS1_x {i : Nat} {M M2 : hM} (h : Cx M M2) : FS1 i M M2 := ⟨fun a b c q => h.1 a b c (fun z => q (Or.inl z)), h.2⟩
theorem GS1_x {i : Nat} {M M2 : hM} (h : Nx M M2) : GS1 i M M2 := ⟨fun a b c q => h.1 a b c (fun z => q (Or.inl ⟨z.1, by omega⟩)), h.2⟩
theorem CTx_1 {i : Nat} {M M2 : hM} {T : Nat → Int32} {l : Nat} (h : FS1 i M M2) (q : CTx M T l) : CTx M2 T l := ⟨by rw [h.1 1 0 4 (by omega)]; exact q.1, q.2.1, fun i hi => by rw [h.1 2 0 i (by omega)]; exact q.2.2 i hi⟩
theorem RTx_1 {i : Nat} {M M2 : hM} {T : Nat → Int32} {l : Nat} (h : GS1 i M M2) (q : RTx M T l) : RTx M2 T l := ⟨by rw [h.1 40 0 2 (by omega)]; exact q.1, q.2.1, fun i hi => by rw [h.1 41 0 i (by omega)]; exact q.2.2 i hi⟩
theorem FS1_u {i j : Nat} {M : hM} {x : Int32} (hj : j < 2) : FS1 i M (uI M (10 + j) 4 i x) := ⟨fun a b c q => uI_x (fun y => q (Or.inr ⟨by omega, y.2.1, y.2.2⟩)), rfl⟩
theorem GS1_u {o j : Nat} {M : hM} {x : Int32} (hj : j < 2) : GS1 o M (uI M 48 0 (o + 1 + j) x) := ⟨fun a b c q => uI_x (fun y => q (Or.inr ⟨y.1, by omega⟩)), fun _ _ _ _ => rfl⟩
section
variable {T : Nat → Int32} {l p : Nat} {k i o : Nat}
theorem c_put {j : Nat} {M : hM} {v : Int32} (hj : j < 2) (hi : i < 12) (h : M.1 8 4 3 = nI (i + 1)) : JX7_put 4 (nI j) v M = some (none, uI M (10 + j) 4 i v) := by
  have e1 : M.1 8 4 3 - 1 = nI i := by
    rw [h, nI_succ]
    exact Int32.add_sub_cancel _ _
  have it := nI_toInt (n := i) (by omega)
  have n1 : ¬ nI i < 0 := by rw [Int32.lt_iff_toInt_lt, it]; exact Int.not_lt.mpr (Int.natCast_nonneg i)
  have n2 : ¬ nI (i + 1) ≤ nI i := by rw [Int32.le_iff_toInt_le, it, nI_toInt (by omega)]; omega
  unfold JX7_put JX7_has
  rw [e1, if_neg n1, h, if_neg n2, if_neg (show ¬ (12 : Int32) ≤ nI i from nI_ge (b := 12) hi (by decide)), jretZ_1, calI_s, if_neg (by decide)]
  by_cases c : j = 0
  · rw [c, if_pos (show nI 0 = 0 from rfl), e1, ast_n (t := 10) (n := 4) i rfl (by decide) (show i < 12 from hi)]
  · obtain rfl : j = 1 := by omega
    rw [if_neg (by decide), e1, ast_n (t := 11) (n := 4) i rfl (by decide) (show i < 12 from hi)]
theorem rd92 (hb : ∀ i, i < l → bw (T i) 1 255) (hp : p ≤ l) (hk : k < 8) {j : Nat} (hj : j < nmS k) (hi : i < 12) (ho : o + 3 ≤ 180) :
    (∃ s, s ≤ l ∧ (∀ M, CTx M T l → M.1 1 0 5 = nI p → ∃ M2, FS1 i M M2 ∧ M2.1 1 0 6 = nI s ∧ ∀ K62 K83 K109 K129, JX6_readStep_92 K62 K83 K109 K129 k (nI j) M = K109 M2) ∧
      ∀ N, RTx N T l → N.1 40 0 3 = nI p → ∃ N2, GS1 o N N2 ∧ N2.1 40 0 4 = N.1 40 0 4 ∧ N2.1 40 0 6 = nI s ∧ ∀ K29 K48 K87 K117 v3, JX12_stepNumbers_53 K29 K48 K87 K117 (nI k) (nI o) v3 (nI j) N = K87 N2) ∨
    (∃ v q, q ≤ l ∧ hwi v (loS k j) (hiS k j) = 1 ∧ (∀ M, CTx M T l → M.1 1 0 5 = nI p → M.1 8 4 3 = nI (i + 1) → ∃ M1, Cx M M1 ∧ M1.1 1 0 6 = M.1 1 0 6 ∧ M1.1 1 0 5 = nI q ∧ ∀ K62 K83 K109 K129, JX6_readStep_92 K62 K83 K109 K129 k (nI j) M = K62 (nI (j + 1)) (uI M1 (10 + j) 4 i v)) ∧
      ∀ N, RTx N T l → N.1 40 0 3 = nI p → ∃ N1 N2, Nx N N1 ∧ Nx (uI N1 48 0 (o + 1 + j) v) N2 ∧ Tok N2 T l (rn qB T l q) ∧ ∀ K29 K48 K87 K117 v3, JX12_stepNumbers_53 K29 K48 K87 K117 (nI k) (nI o) v3 (nI j) N = K29 (nI (j + 1)) N2) := by
  have j2 : j < 2 := by have := (tsN k hk).2; omega
  have tb := tsB k hk j j2
  have tt := tsT k hk j j2 hj
  rcases one1 (T := T) (lo := loS k j) (hi := hiS k j) hb hp tb.1 tb.2 with ⟨s, a1, a2, a3⟩ | ⟨v, q, a1, a0, a2, a3⟩
  · refine Or.inl ⟨s, a1, fun M h1 h2 => ?_, fun N h1 h2 => ?_⟩
    · obtain ⟨M2, b1, b2, b3⟩ := a2 M h1 h2
      refine ⟨M2, FS1_x b2, b3, fun K62 K83 K109 K129 => ?_⟩
      unfold JX6_readStep_92
      rw [e_loC M j2, calI_s, e_hiC M j2, calI_s, b1, calI_s, if_pos rfl]
    · obtain ⟨N1, b1, b2, b3, b4⟩ := a3 N h1 h2
      refine ⟨N1, GS1_x b2, b2.1 40 0 4 (by decide), b3, fun K29 K48 K87 K117 v3 => ?_⟩
      unfold JX12_stepNumbers_53
      rw [b1, calV_s]
      by_cases c : N1.1 40 0 5 = 2
      · rw [if_pos c, e_loT, calI_s, e_hiT, calI_s, e_in, calI_s, tt.1, tt.2, b4 c, if_pos rfl]
      · rw [if_neg c]
  · refine Or.inr ⟨v, q, a1, a0, fun M h1 h2 h3 => ?_, fun N h1 h2 => ?_⟩
    · obtain ⟨M2, b1, b2, b3, b4, b5⟩ := a2 M h1 h2
      refine ⟨M2, b2, b4, b3, fun K62 K83 K109 K129 => ?_⟩
      unfold JX6_readStep_92
      rw [e_loC M j2, calI_s, e_hiC M j2, calI_s, b1, calI_s, if_neg (by decide), b5, c_put j2 hi (by rw [b2.1 8 4 3 (by decide)]; exact h3), calV_s, nI_succ]
    · obtain ⟨N1, b1, b2, b3, b4, b5⟩ := a3 N h1 h2
      have x1 : RTx (uI N1 48 0 (o + 1 + j) v) T l := RTx_1 (i := o) (GS1_t (GS1_x b2) (GS1_u j2)) h1
      obtain ⟨N2, c1, c2, c3⟩ := m_nxt hb a1 x1 (by rw [uI_o (by decide)]; exact b5)
      refine ⟨N1, N2, b2, c2, c3, fun K29 K48 K87 K117 v3 => ?_⟩
      have ei : nI o + 1 + nI j = nI (o + 1 + j) := by rw [← nI_succ, nI_add]
      unfold JX12_stepNumbers_53
      rw [b1, calV_s, if_pos b3, e_loT, calI_s, e_hiT, calI_s, e_in, calI_s, tt.1, tt.2, b4, a0, if_neg (by decide), ei, ast_n (t := 48) (n := 0) (o + 1 + j) rfl (by decide) (show o + 1 + j < 180 by omega), c1, calV_s, nI_succ]
end
