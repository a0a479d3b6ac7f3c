/-! when TAPS are settled -/
section
variable {m : hM} {F B D P W ph : Nat} {v w : Nat → Int32} {nz g : Int32}
theorem lf_hi {err g : Int32} {i : Nat} (hi : F ≤ i) (h6 : i < 6) : ∀ N, N ≤ F → F ≤ 3 → ∀ w, fr (lfv err g) w N i = w i := by
  intro N
  induction N with
  | zero => intro _ _ w; rfl
  | succ N ih =>
    intro h hF w
    show lfv err g N _ i = _
    unfold lfv
    rw [vtv_g (by omega) (by omega)]
    exact ih (by omega) hF w
theorem lb_hi {err g : Int32} {i : Nat} (hi : F + B ≤ i) (h6 : i < 6) : ∀ N, N ≤ B → F ≤ 3 → ∀ w, fr (lbv F err g) w N i = w i := by
  intro N
  induction N with
  | zero => intro _ _ w; rfl
  | succ N ih =>
    intro h hF w
    show lbv F err g N _ i = _
    unfold lbv
    rw [vtv_g (by omega) (by omega)]
    exact ih (by omega) hF w
theorem lev_hi {tr lk kp err : Int32} {i : Nat} (hi : F + B ≤ i) (h6 : i < 6) (hF : F ≤ 3) : lev F B tr lk kp err g w i = w i := by
  unfold lev
  have e : ∀ u : Nat → Int32, lkv lk kp err u i = u i := fun u => by
    unfold lkv
    by_cases c : lk ≤ 0
    · rw [if_pos c]
    · rw [if_neg c, vtv_g (by omega) (by omega)]
  rw [e, ltv_g (by omega) (by omega), lb_hi hi h6 B (Nat.le_refl _) hF, lf_hi (by omega) h6 F (Nat.le_refl _) hF]
theorem stM_hi {i : Nat} (hi : F + B ≤ i) (h6 : i < 6) (hF : F ≤ 3) (hB : B ≤ 3) : stM m F B D P W g v i = v i := by
  unfold stM TM
  rw [pk_un (by omega), pk_un (by omega), pk_un (by omega), pk_un (by omega), pk_un (by omega)]
  unfold TC
  rw [RC_g (by omega) (by omega) (by omega)]
  have e : ∀ (ls kp err : Int32) (u : Nat → Int32), RB F B (m.1 5 0 10) (m.1 5 0 11) g ls kp err u i = u i := fun ls kp err u => by
    unfold RB
    by_cases c : ls = 0
    · rw [if_pos c]
    · rw [if_neg c, lev_hi hi h6 hF, pk_un (by omega)]
  rw [e]
  unfold TA
  rw [RA_g hB (by omega) (by omega) (by omega) (by omega), wM_g (by omega), Tw_g (by omega) (by omega)]
theorem itM_hi {i : Nat} (hi : F + B ≤ i) (h6 : i < 6) (hF : F ≤ 3) (hB : B ≤ 3) : ∀ N, itM m F B D P W g v N i = v i := by
  intro N
  induction N with
  | zero =>
    show v i = v i
    rfl
  | succ N ih =>
    show stM m F B D P W g (itM m F B D P W g v N) i = _
    rw [stM_hi hi h6 hF hB, ih]
end
/-- kept within b behind k, for the first T TAPS -/
def KP (u : Nat → Nat → Int32) (b : Int32) (T k : Nat) : Prop := ∀ d, d < 32 → ∀ i, i < T → hsz (u (k + 1 + d) i - u k i) ≤ b
/-- how a search ends -/
def SR (Q : Nat → Prop) (L : Nat) (r : Int32) : Prop := (∃ n, n < L ∧ Q n ∧ (∀ k, k < n → ¬ Q k) ∧ r = nI n) ∨ ((∀ n, n < L → ¬ Q n) ∧ r = -1)
section
variable {u : Nat → Nat → Int32} {b : Int32} {M : hM}
theorem c_stays {n : Nat} (hn : n ≤ 200) (h : ∀ k, k ≤ n + 32 → ∀ i, i < 6 → M.1 36 0 (6 * k + i) = u k i) : (KP u b 6 n ∧ JX0_staysWithin (nI n) b M = some (some (.inl 1), M)) ∨ (¬ KP u b 6 n ∧ JX0_staysWithin (nI n) b M = some (some (.inl 0), M)) := by
  have e33 : (nI n + 32 + 1) * 6 = nI (6 * (n + 33)) := by rw [show (32 : Int32) = nI 32 from rfl, nI_add, show (1 : Int32) = nI 1 from rfl, nI_add, show (6 : Int32) = nI 6 from rfl, pk_mul, show (n + 32 + 1) * 6 = 6 * (n + 33) from by omega]
  have e1 : (nI n + 1) * 6 = nI (6 * (n + 1)) := by rw [← nI_succ, show (6 : Int32) = nI 6 from rfl, pk_mul, Nat.mul_comm]
  have key : ∀ r q, q + r = 192 → ((∀ p, q ≤ p → p < 192 → hsz (u (n + 1 + p / 6) (p % 6) - u n (p % 6)) ≤ b) ∧ ∀ f, r < f → JX0_staysWithin_7 (fun m7 => jretZ 0 m7) (fun m8 => jretZ 1 m8) (nI n) b f (nI (6 * (n + 1) + q)) M = some (some (.inl 1), M)) ∨ ((∃ p, q ≤ p ∧ p < 192 ∧ ¬ hsz (u (n + 1 + p / 6) (p % 6) - u n (p % 6)) ≤ b) ∧ ∀ f, r < f → JX0_staysWithin_7 (fun m7 => jretZ 0 m7) (fun m8 => jretZ 1 m8) (nI n) b f (nI (6 * (n + 1) + q)) M = some (some (.inl 0), M)) := by
    intro r
    induction r with
    | zero =>
      intro q hq
      refine Or.inl ⟨fun p h1 h2 => absurd h2 (by omega), fun f hf => ?_⟩
      obtain ⟨f, rfl⟩ : ∃ x, f = x + 1 := ⟨f - 1, by omega⟩
      show bJX0_staysWithin_7 _ _ _ _ _ _ _ = _
      unfold bJX0_staysWithin_7
      rw [e33, if_pos (nI_le (by omega) (by omega))]
      exact jretZ_1
    | succ r ih =>
      intro q hq
      have step : ∀ f, JX0_staysWithin_7 (fun m7 => jretZ 0 m7) (fun m8 => jretZ 1 m8) (nI n) b (f + 1) (nI (6 * (n + 1) + q)) M = if hsz (u (n + 1 + q / 6) (q % 6) - u n (q % 6)) ≤ b then JX0_staysWithin_7 (fun m7 => jretZ 0 m7) (fun m8 => jretZ 1 m8) (nI n) b f (nI (6 * (n + 1) + (q + 1))) M else some (some (.inl 0), M) := fun f => by
        show bJX0_staysWithin_7 _ _ _ _ _ _ _ = _
        unfold bJX0_staysWithin_7 jirem
        have em : (6 * (n + 1) + q) % 6 = q % 6 := by omega
        have ei : nI n * 6 + nI (q % 6) = nI (6 * n + q % 6) := by rw [show (6 : Int32) = nI 6 from rfl, pk_mul, nI_add, Nat.mul_comm]
        have es : 6 * (n + 1) + q = 6 * (n + 1 + q / 6) + q % 6 := by omega
        rw [e33, if_neg (nI_ge (by omega) (by omega)), ald_n (t := 36) (n := 0) (6 * (n + 1) + q) rfl (by decide) (show 6 * (n + 1) + q < 1398 by omega), if_neg (by decide), show (6 : Int32) = nI 6 from rfl, pk_rem (by omega) (by decide) (by decide), em, show nI 6 = (6 : Int32) from rfl]
        show ald M 36 0 (nI n * 6 + nI (q % 6)) _ = _
        rw [ei, ald_n (t := 36) (n := 0) (6 * n + q % 6) rfl (by decide) (show 6 * n + q % 6 < 1398 by omega), e_sizeOf, calI_s, h n (by omega) (q % 6) (Nat.mod_lt _ (by decide)), es, h (n + 1 + q / 6) (by omega) (q % 6) (Nat.mod_lt _ (by decide)), ← nI_succ]
        by_cases c : hsz (u (n + 1 + q / 6) (q % 6) - u n (q % 6)) ≤ b
        · rw [if_pos c, if_pos c, ← es]
          rfl
        · rw [if_neg c, if_neg c]
          exact jretZ_0
      by_cases c : hsz (u (n + 1 + q / 6) (q % 6) - u n (q % 6)) ≤ b
      · rcases ih (q + 1) (by omega) with ⟨a1, a2⟩ | ⟨⟨p, a0, a1, a2⟩, a3⟩
        · refine Or.inl ⟨fun p h1 h2 => ?_, fun f hf => ?_⟩
          · by_cases e : p = q
            · rw [e]; exact c
            · exact a1 p (by omega) h2
          · obtain ⟨f, rfl⟩ : ∃ x, f = x + 1 := ⟨f - 1, by omega⟩
            rw [step, if_pos c]
            exact a2 f (by omega)
        · refine Or.inr ⟨⟨p, by omega, a1, a2⟩, fun f hf => ?_⟩
          obtain ⟨f, rfl⟩ : ∃ x, f = x + 1 := ⟨f - 1, by omega⟩
          rw [step, if_pos c]
          exact a3 f (by omega)
      · refine Or.inr ⟨⟨q, Nat.le_refl _, by omega, c⟩, fun f hf => ?_⟩
        obtain ⟨f, rfl⟩ : ∃ x, f = x + 1 := ⟨f - 1, by omega⟩
        rw [step, if_neg c]
  unfold JX0_staysWithin
  rw [lt_s9, e1]
  rcases key 192 0 (by omega) with ⟨a1, a2⟩ | ⟨⟨p, _, a1, a2⟩, a3⟩
  · refine Or.inl ⟨fun d hd i hi => ?_, a2 FU (by rw [FU_eq]; omega)⟩
    have z := a1 (6 * d + i) (by omega) (by omega)
    rw [show (6 * d + i) / 6 = d from by omega, show (6 * d + i) % 6 = i from by omega] at z
    exact z
  · refine Or.inr ⟨fun q => a2 (q (p / 6) (by omega) (p % 6) (Nat.mod_lt _ (by decide))), a3 FU (by rw [FU_eq]; omega)⟩
/-- the reference's inner row -/
theorem m_keepI {n k T : Nat} {v3 : Int32} {K : Int32 → hM → hR} (hT : T ≤ 6) (ht : JX12_taps M = some (some (.inl (nI T)), M)) (hn : n ≤ 200) (hk : k ≤ 232) (h : ∀ k, k ≤ 232 → ∀ i, i < T → M.1 58 0 (6 * k + i) = u k i) (hv : v3 = 0 ∨ v3 = 1) : ∃ x : Int32, ((x = 1 ∧ v3 = 1 ∧ ∀ i, i < T → hsz (u k i - u n i) ≤ b) ∨ (x = 0 ∧ (v3 = 0 ∨ ∃ i, i < T ∧ ¬ hsz (u k i - u n i) ≤ b))) ∧ JX12_isKeeping_19 K (nI n) b (nI k) FU v3 0 M = K x M := by
  have key : ∀ r q, q + r = T → ∀ v3 : Int32, (v3 = 0 ∨ v3 = 1) → ∃ x : Int32, ((x = 1 ∧ v3 = 1 ∧ ∀ i, q ≤ i → i < T → hsz (u k i - u n i) ≤ b) ∨ (x = 0 ∧ (v3 = 0 ∨ ∃ i, q ≤ i ∧ i < T ∧ ¬ hsz (u k i - u n i) ≤ b))) ∧ ∀ f, r < f → JX12_isKeeping_19 K (nI n) b (nI k) f v3 (nI q) M = K x M := by
    intro r
    induction r with
    | zero =>
      intro q hq v3 hv
      refine ⟨v3, ?_, fun f hf => ?_⟩
      · rcases hv with e | e
        · exact Or.inr ⟨e, Or.inl e⟩
        · exact Or.inl ⟨e, e, fun i h1 h2 => absurd h2 (by omega)⟩
      · obtain ⟨f, rfl⟩ : ∃ x, f = x + 1 := ⟨f - 1, by omega⟩
        show bJX12_isKeeping_19 _ _ _ _ _ _ _ _ = _
        unfold bJX12_isKeeping_19
        rw [ht, calI_s, if_pos (nI_le (by omega) (by omega))]
    | succ r ih =>
      intro q hq v3 hv
      have e6 : ∀ j, (6 : Int32) * nI j + nI q = nI (6 * j + q) := fun j => by rw [show (6 : Int32) = nI 6 from rfl, pk_mul, nI_add]
      have step : ∀ f, JX12_isKeeping_19 K (nI n) b (nI k) (f + 1) v3 (nI q) M = JX12_isKeeping_19 K (nI n) b (nI k) f (if v3 = 0 then 0 else if hsz (u k q - u n q) ≤ b then 1 else 0) (nI (q + 1)) M := fun f => by
        show bJX12_isKeeping_19 _ _ _ _ _ _ _ _ = _
        unfold bJX12_isKeeping_19 JX12_isKeeping_69 JX12_isKeeping_70
        rw [ht, calI_s, if_neg (nI_ge (by omega) (by omega)), e6, e6, ald_n (t := 58) (n := 0) (6 * k + q) rfl (by decide) (show 6 * k + q < 1398 by omega), ald_n (t := 58) (n := 0) (6 * n + q) rfl (by decide) (show 6 * n + q < 1398 by omega), h k hk q (by omega), h n (by omega) q (by omega), e_size, calI_s, ← nI_succ]
        by_cases c0 : v3 = 0
        · rw [if_pos c0, if_pos c0]
        · rw [if_neg c0, if_neg c0]
          by_cases c : hsz (u k q - u n q) ≤ b
          · rw [if_pos c, if_neg (by rw [Int32.lt_iff_toInt_lt]; rw [Int32.le_iff_toInt_le] at c; omega)]
          · rw [if_neg c, if_pos (by rw [Int32.lt_iff_toInt_lt]; rw [Int32.le_iff_toInt_le] at c; omega)]
      have go : ∀ f, r + 1 < f → ∀ x, (∀ f, r < f → JX12_isKeeping_19 K (nI n) b (nI k) f (if v3 = 0 then 0 else if hsz (u k q - u n q) ≤ b then 1 else 0) (nI (q + 1)) M = K x M) → JX12_isKeeping_19 K (nI n) b (nI k) f v3 (nI q) M = K x M := fun f hf x hx => by
        obtain ⟨f, rfl⟩ : ∃ x, f = x + 1 := ⟨f - 1, by omega⟩
        rw [step]
        exact hx f (by omega)
      by_cases c0 : v3 = 0
      · obtain ⟨x, a1, a2⟩ := ih (q + 1) (by omega) 0 (Or.inl rfl)
        rw [if_pos c0] at go
        refine ⟨x, ?_, fun f hf => go f hf x a2⟩
        rcases a1 with ⟨_, y, _⟩ | ⟨y, _⟩
        · exact absurd y (by decide)
        · exact Or.inr ⟨y, Or.inl c0⟩
      · have v1 : v3 = 1 := hv.resolve_left c0
        rw [if_neg c0] at go
        by_cases c : hsz (u k q - u n q) ≤ b
        · obtain ⟨x, a1, a2⟩ := ih (q + 1) (by omega) 1 (Or.inr rfl)
          rw [if_pos c] at go
          refine ⟨x, ?_, fun f hf => go f hf x a2⟩
          rcases a1 with ⟨y, _, y2⟩ | ⟨y, y2⟩
          · refine Or.inl ⟨y, v1, fun i h1 h2 => ?_⟩
            by_cases e : i = q
            · rw [e]; exact c
            · exact y2 i (by omega) h2
          · rcases y2 with y2 | ⟨i, y2, y3, y4⟩
            · exact absurd y2 (by decide)
            · exact Or.inr ⟨y, Or.inr ⟨i, by omega, y3, y4⟩⟩
        · obtain ⟨x, a1, a2⟩ := ih (q + 1) (by omega) 0 (Or.inl rfl)
          rw [if_neg c] at go
          refine ⟨x, ?_, fun f hf => go f hf x a2⟩
          rcases a1 with ⟨_, y, _⟩ | ⟨y, _⟩
          · exact absurd y (by decide)
          · exact Or.inr ⟨y, Or.inr ⟨q, Nat.le_refl _, by omega, c⟩⟩
  obtain ⟨x, a1, a2⟩ := key T 0 (by omega) v3 hv
  refine ⟨x, ?_, a2 FU (by rw [FU_eq]; omega)⟩
  rcases a1 with ⟨y, y1, y2⟩ | ⟨y, y2⟩
  · exact Or.inl ⟨y, y1, fun i hi => y2 i (by omega) hi⟩
  · refine Or.inr ⟨y, ?_⟩
    rcases y2 with y2 | ⟨i, _, y3, y4⟩
    · exact Or.inl y2
    · exact Or.inr ⟨i, y3, y4⟩
theorem m_keeping {n T : Nat} (hT : T ≤ 6) (ht : JX12_taps M = some (some (.inl (nI T)), M)) (hn : n ≤ 200) (h : ∀ k, k ≤ 232 → ∀ i, i < T → M.1 58 0 (6 * k + i) = u k i) : (KP u b T n ∧ JX12_isKeeping (nI n) b M = some (some (.inl 1), M)) ∨ (¬ KP u b T n ∧ JX12_isKeeping (nI n) b M = some (some (.inl 0), M)) := by
  have key : ∀ r q, q + r = 32 → ∀ v3 : Int32, (v3 = 0 ∨ v3 = 1) → ∃ x : Int32, ((x = 1 ∧ v3 = 1 ∧ ∀ d, q ≤ d → d < 32 → ∀ i, i < T → hsz (u (n + 1 + d) i - u n i) ≤ b) ∨ (x = 0 ∧ (v3 = 0 ∨ ∃ d i, q ≤ d ∧ d < 32 ∧ i < T ∧ ¬ hsz (u (n + 1 + d) i - u n i) ≤ b))) ∧ ∀ f, r < f → JX12_isKeeping_7 (fun v3 m9 => jretZ v3 m9) (nI n) b f v3 (nI (n + 1 + q)) M = some (some (.inl x), M) := by
    intro r
    induction r with
    | zero =>
      intro q hq v3 hv
      refine ⟨v3, ?_, fun f hf => ?_⟩
      · rcases hv with e | e
        · exact Or.inr ⟨e, Or.inl e⟩
        · exact Or.inl ⟨e, e, fun i h1 h2 => absurd h2 (by omega)⟩
      · obtain ⟨f, rfl⟩ : ∃ x, f = x + 1 := ⟨f - 1, by omega⟩
        show bJX12_isKeeping_7 _ _ _ _ _ _ _ = _
        unfold bJX12_isKeeping_7
        rw [if_pos (show nI n + 32 < nI (n + 1 + q) from by rw [show (32 : Int32) = nI 32 from rfl, nI_add]; exact nI_lt (by omega) (by omega))]
        exact jretZ_b hv
    | succ r ih =>
      intro q hq v3 hv
      have cnt : ¬ nI n + 32 < nI (n + 1 + q) := by rw [show (32 : Int32) = nI 32 from rfl, nI_add]; exact nI_nlt (by omega) (by omega)
      have main : ∀ y : Int32, (y = 0 ∨ y = 1) → (∀ f, JX12_isKeeping_7 (fun v3 m9 => jretZ v3 m9) (nI n) b (f + 1) v3 (nI (n + 1 + q)) M = JX12_isKeeping_7 (fun v3 m9 => jretZ v3 m9) (nI n) b f y (nI (n + 1 + (q + 1))) M) → ∃ x : Int32, ((x = 1 ∧ y = 1 ∧ ∀ d, q + 1 ≤ d → d < 32 → ∀ i, i < T → hsz (u (n + 1 + d) i - u n i) ≤ b) ∨ (x = 0 ∧ (y = 0 ∨ ∃ d i, q + 1 ≤ d ∧ d < 32 ∧ i < T ∧ ¬ hsz (u (n + 1 + d) i - u n i) ≤ b))) ∧ ∀ f, r + 1 < f → JX12_isKeeping_7 (fun v3 m9 => jretZ v3 m9) (nI n) b f v3 (nI (n + 1 + q)) M = some (some (.inl x), M) := fun y hy st => by
        obtain ⟨x, a1, a2⟩ := ih (q + 1) (by omega) y hy
        refine ⟨x, a1, fun f hf => ?_⟩
        obtain ⟨f, rfl⟩ : ∃ x, f = x + 1 := ⟨f - 1, by omega⟩
        rw [st]
        exact a2 f (by omega)
      have inner : ∃ y : Int32, ((y = 1 ∧ v3 = 1 ∧ ∀ i, i < T → hsz (u (n + 1 + q) i - u n i) ≤ b) ∨ (y = 0 ∧ (v3 = 0 ∨ ∃ i, i < T ∧ ¬ hsz (u (n + 1 + q) i - u n i) ≤ b))) ∧ ∀ f, JX12_isKeeping_7 (fun v3 m9 => jretZ v3 m9) (nI n) b (f + 1) v3 (nI (n + 1 + q)) M = JX12_isKeeping_7 (fun v3 m9 => jretZ v3 m9) (nI n) b f y (nI (n + 1 + (q + 1))) M := by
        have z : ∀ f, ∃ x : Int32, ((x = 1 ∧ v3 = 1 ∧ ∀ i, i < T → hsz (u (n + 1 + q) i - u n i) ≤ b) ∨ (x = 0 ∧ (v3 = 0 ∨ ∃ i, i < T ∧ ¬ hsz (u (n + 1 + q) i - u n i) ≤ b))) ∧ JX12_isKeeping_7 (fun v3 m9 => jretZ v3 m9) (nI n) b (f + 1) v3 (nI (n + 1 + q)) M = JX12_isKeeping_7 (fun v3 m9 => jretZ v3 m9) (nI n) b f x (nI (n + 1 + (q + 1))) M := fun f => by
          obtain ⟨x, a1, a2⟩ := m_keepI (K := fun v3 m8 => JX12_isKeeping_7 (fun v3 m9 => jretZ v3 m9) (nI n) b f v3 (nI (n + 1 + q) + 1) m8) hT ht hn (k := n + 1 + q) (by omega) h hv
          refine ⟨x, a1, ?_⟩
          show bJX12_isKeeping_7 _ _ _ _ _ _ _ = _
          unfold bJX12_isKeeping_7
          rw [if_neg cnt]
          refine a2.trans ?_
          rw [← nI_succ]
          rfl
        obtain ⟨x0, b1, _⟩ := z 0
        refine ⟨x0, b1, fun f => ?_⟩
        obtain ⟨x, c1, c2⟩ := z f
        have : x = x0 := by
          rcases b1 with ⟨y, y1, y2⟩ | ⟨y, y2⟩ <;> rcases c1 with ⟨w, w1, w2⟩ | ⟨w, w2⟩
          · rw [y, w]
          · exfalso
            rcases w2 with w2 | ⟨i, w2, w3⟩
            · rw [y1] at w2; exact absurd w2 (by decide)
            · exact w3 (y2 i w2)
          · exfalso
            rcases y2 with y2 | ⟨i, y2, y3⟩
            · rw [w1] at y2; exact absurd y2 (by decide)
            · exact y3 (w2 i y2)
          · rw [y, w]
        rw [← this]
        exact c2
      obtain ⟨y, b1, b2⟩ := inner
      obtain ⟨x, a1, a2⟩ := main y (by rcases b1 with z | z; exact Or.inr z.1; exact Or.inl z.1) b2
      refine ⟨x, ?_, a2⟩
      rcases a1 with ⟨p1, p2, p3⟩ | ⟨p1, p2⟩
      · rcases b1 with ⟨_, r1, r2⟩ | ⟨r1, _⟩
        · refine Or.inl ⟨p1, r1, fun d h1 h2 i hi => ?_⟩
          by_cases e : d = q
          · rw [e]; exact r2 i hi
          · exact p3 d (by omega) h2 i hi
        · rw [r1] at p2; exact absurd p2 (by decide)
      · refine Or.inr ⟨p1, ?_⟩
        rcases p2 with p2 | ⟨d, i, p2, p3, p4, p5⟩
        · rcases b1 with ⟨r1, _⟩ | ⟨_, r2⟩
          · rw [r1] at p2; exact absurd p2 (by decide)
          · rcases r2 with r2 | ⟨i, r2, r3⟩
            · exact Or.inl r2
            · exact Or.inr ⟨q, i, Nat.le_refl _, by omega, r2, r3⟩
        · exact Or.inr ⟨d, i, by omega, p3, p4, p5⟩
  unfold JX12_isKeeping
  rw [lt_s9, ← nI_succ]
  obtain ⟨x, a1, a2⟩ := key 32 0 (by omega) 1 (Or.inr rfl)
  have e := a2 FU (by rw [FU_eq]; omega)
  rcases a1 with ⟨p1, _, p3⟩ | ⟨p1, p2⟩
  · subst p1
    exact Or.inl ⟨fun d hd i hi => p3 d (by omega) hd i hi, e⟩
  · subst p1
    rcases p2 with p2 | ⟨d, i, _, p3, p4, p5⟩
    · exact absurd p2 (by decide)
    · exact Or.inr ⟨fun q => p5 (q d p3 i p4), e⟩
/-- the reference's search -/
theorem m_search {T : Nat} (hT : T ≤ 6) (ht : JX12_taps M = some (some (.inl (nI T)), M)) (h : ∀ k, k ≤ 232 → ∀ i, i < T → M.1 58 0 (6 * k + i) = u k i) : ∃ r, JX12_settledBy_67 (fun v2 m13 => some (some (.inl v2), m13)) (fun m14 => some (some (.inl (-1)), m14)) b FU 0 M = some (some (.inl r), M) ∧ SR (KP u b T) 201 r := by
  have key : ∀ r q, q + r = 201 → (∀ k, k < q → ¬ KP u b T k) → ∃ x, SR (KP u b T) 201 x ∧ ∀ f, r < f → JX12_settledBy_67 (fun v2 m13 => some (some (.inl v2), m13)) (fun m14 => some (some (.inl (-1)), m14)) b f (nI q) M = some (some (.inl x), M) := by
    intro r
    induction r with
    | zero =>
      intro q hq hn
      refine ⟨-1, Or.inr ⟨fun n h1 => hn n (by omega), rfl⟩, fun f hf => ?_⟩
      obtain ⟨f, rfl⟩ : ∃ x, f = x + 1 := ⟨f - 1, by omega⟩
      show bJX12_settledBy_67 _ _ _ _ _ _ = _
      unfold bJX12_settledBy_67
      rw [if_pos (show (200 : Int32) < nI q from nI_lt (a := 200) (by omega) (by omega))]
    | succ r ih =>
      intro q hq hn
      have c200 : ¬ (200 : Int32) < nI q := nI_nlt (a := 200) (by omega) (by decide)
      rcases m_keeping (b := b) hT ht (n := q) (by omega) h with ⟨k1, k2⟩ | ⟨k1, k2⟩
      · refine ⟨nI q, Or.inl ⟨q, by omega, k1, hn, rfl⟩, fun f hf => ?_⟩
        obtain ⟨f, rfl⟩ : ∃ x, f = x + 1 := ⟨f - 1, by omega⟩
        show bJX12_settledBy_67 _ _ _ _ _ _ = _
        unfold bJX12_settledBy_67
        rw [if_neg c200, k2, calI_s, if_neg (by decide)]
      · obtain ⟨x, a1, a2⟩ := ih (q + 1) (by omega) (fun k hk => by
          by_cases e : k = q
          · rw [e]; exact k1
          · exact hn k (by omega))
        refine ⟨x, a1, fun f hf => ?_⟩
        obtain ⟨f, rfl⟩ : ∃ x, f = x + 1 := ⟨f - 1, by omega⟩
        show bJX12_settledBy_67 _ _ _ _ _ _ = _
        unfold bJX12_settledBy_67
        rw [if_neg c200, k2, calI_s, if_pos rfl, ← nI_succ]
        exact a2 f (by omega)
  obtain ⟨x, a1, a2⟩ := key 201 0 (by omega) (fun k hk => absurd hk (by omega))
  exact ⟨x, a2 FU (by rw [FU_eq]; omega), a1⟩
end
theorem SR_u {Q Q2 : Nat → Prop} {L : Nat} {r r2 : Int32} (hL : L < 1000) (hq : ∀ n, n < L → (Q n ↔ Q2 n)) (h : SR Q L r) (h2 : SR Q2 L r2) : r = r2 := by
  rcases h with ⟨n, a1, a2, a3, a4⟩ | ⟨a1, a2⟩ <;> rcases h2 with ⟨k, b1, b2, b3, b4⟩ | ⟨b1, b2⟩
  · have : n = k := by
      rcases Nat.lt_trichotomy n k with z | z | z
      · exact absurd ((hq n a1).mp a2) (b3 n z)
      · exact z
      · exact absurd ((hq k b1).mpr b2) (a3 k z)
    rw [a4, b4, this]
  · exact absurd ((hq n a1).mp a2) (b1 n a1)
  · exact absurd ((hq k b1).mpr b2) (a1 k b1)
  · rw [a2, b2]
