/-! clauses -/
theorem e_lowest {n : Nat} (m : hM) (hn : n < 13) : JX12_lowest (nI n) m = some (some (.inl (ck_low.getD n 0)), m) := by
  have c : n = 0 ∨ n = 1 ∨ n = 2 ∨ n = 3 ∨ n = 4 ∨ n = 5 ∨ n = 6 ∨ n = 7 ∨ n = 8 ∨ n = 9 ∨ n = 10 ∨ n = 11 ∨ n = 12 := by omega
  unfold JX12_lowest
  rcases c with c | c | c | c | c | c | c | c | c | c | c | c | c <;> subst c
  · rw [swL_p (by decide)]; rfl
  · rw [swL_n (by decide), swL_p (by decide)]; rfl
  · rw [swL_n (by decide), swL_n (by decide), swL_p (by decide)]; rfl
  · rw [swL_n (by decide), swL_n (by decide), swL_n (by decide), swL_p (by decide)]; rfl
  · rw [swL_n (by decide), swL_n (by decide), swL_n (by decide), swL_n (by decide), swL_p (by decide)]; rfl
  · rw [swL_n (by decide), swL_n (by decide), swL_n (by decide), swL_n (by decide), swL_n (by decide), swL_p (by decide)]; rfl
  · rw [swL_n (by decide), swL_n (by decide), swL_n (by decide), swL_n (by decide), swL_n (by decide), swL_n (by decide), swL_p (by decide)]; rfl
  · rw [swL_n (by decide), swL_n (by decide), swL_n (by decide), swL_n (by decide), swL_n (by decide), swL_n (by decide), swL_n (by decide), swL_p (by decide)]; rfl
  · rw [swL_n (by decide), swL_n (by decide), swL_n (by decide), swL_n (by decide), swL_n (by decide), swL_n (by decide), swL_n (by decide), swL_n (by decide), swL_p (by decide)]; rfl
  · rw [swL_n (by decide), swL_n (by decide), swL_n (by decide), swL_n (by decide), swL_n (by decide), swL_n (by decide), swL_n (by decide), swL_n (by decide), swL_n (by decide), swL_p (by decide)]; rfl
  · rw [swL_n (by decide), swL_n (by decide), swL_n (by decide), swL_n (by decide), swL_n (by decide), swL_n (by decide), swL_n (by decide), swL_n (by decide), swL_n (by decide), swL_n (by decide), swL_0]; rfl
  · rw [swL_n (by decide), swL_n (by decide), swL_n (by decide), swL_n (by decide), swL_n (by decide), swL_n (by decide), swL_n (by decide), swL_n (by decide), swL_n (by decide), swL_n (by decide), swL_0]; rfl
  · rw [swL_n (by decide), swL_n (by decide), swL_n (by decide), swL_n (by decide), swL_n (by decide), swL_n (by decide), swL_n (by decide), swL_n (by decide), swL_n (by decide), swL_n (by decide), swL_0]; rfl
theorem e_highest {n : Nat} (m : hM) (hn : n < 13) : JX12_highest (nI n) m = some (some (.inl (ck_high.getD n 0)), m) := by
  have c : n = 0 ∨ n = 1 ∨ n = 2 ∨ n = 3 ∨ n = 4 ∨ n = 5 ∨ n = 6 ∨ n = 7 ∨ n = 8 ∨ n = 9 ∨ n = 10 ∨ n = 11 ∨ n = 12 := by omega
  unfold JX12_highest
  rcases c with c | c | c | c | c | c | c | c | c | c | c | c | c <;> subst c
  · rw [swL_p (by decide)]; rfl
  · rw [swL_n (by decide), swL_p (by decide)]; rfl
  · rw [swL_n (by decide), swL_n (by decide), swL_p (by decide)]; rfl
  · rw [swL_n (by decide), swL_n (by decide), swL_n (by decide), swL_p (by decide)]; rfl
  · rw [swL_n (by decide), swL_n (by decide), swL_n (by decide), swL_n (by decide), swL_p (by decide)]; rfl
  · rw [swL_n (by decide), swL_n (by decide), swL_n (by decide), swL_n (by decide), swL_n (by decide), swL_p (by decide)]; rfl
  · rw [swL_n (by decide), swL_n (by decide), swL_n (by decide), swL_n (by decide), swL_n (by decide), swL_n (by decide), swL_p (by decide)]; rfl
  · rw [swL_n (by decide), swL_n (by decide), swL_n (by decide), swL_n (by decide), swL_n (by decide), swL_n (by decide), swL_n (by decide), swL_p (by decide)]; rfl
  · rw [swL_n (by decide), swL_n (by decide), swL_n (by decide), swL_n (by decide), swL_n (by decide), swL_n (by decide), swL_n (by decide), swL_n (by decide), swL_p (by decide)]; rfl
  · rw [swL_n (by decide), swL_n (by decide), swL_n (by decide), swL_n (by decide), swL_n (by decide), swL_n (by decide), swL_n (by decide), swL_n (by decide), swL_n (by decide), swL_p (by decide)]; rfl
  · rw [swL_n (by decide), swL_n (by decide), swL_n (by decide), swL_n (by decide), swL_n (by decide), swL_n (by decide), swL_n (by decide), swL_n (by decide), swL_n (by decide), swL_n (by decide), swL_p (by decide)]; rfl
  · rw [swL_n (by decide), swL_n (by decide), swL_n (by decide), swL_n (by decide), swL_n (by decide), swL_n (by decide), swL_n (by decide), swL_n (by decide), swL_n (by decide), swL_n (by decide), swL_n (by decide), swL_p (by decide)]; rfl
  · rw [swL_n (by decide), swL_n (by decide), swL_n (by decide), swL_n (by decide), swL_n (by decide), swL_n (by decide), swL_n (by decide), swL_n (by decide), swL_n (by decide), swL_n (by decide), swL_n (by decide), swL_n (by decide), swL_0]; rfl
theorem e_usual {n : Nat} (m : hM) (hn : n < 13) : JX12_usual (nI n) m = some (some (.inl (ck_usual.getD n 0)), m) := by
  have c : n = 0 ∨ n = 1 ∨ n = 2 ∨ n = 3 ∨ n = 4 ∨ n = 5 ∨ n = 6 ∨ n = 7 ∨ n = 8 ∨ n = 9 ∨ n = 10 ∨ n = 11 ∨ n = 12 := by omega
  unfold JX12_usual
  rcases c with c | c | c | c | c | c | c | c | c | c | c | c | c <;> subst c
  · rw [swL_n (by decide), swL_n (by decide), swL_n (by decide), swL_n (by decide), swL_n (by decide), swL_n (by decide), swL_n (by decide), swL_n (by decide), swL_n (by decide), swL_0]; rfl
  · rw [swL_p (by decide)]; rfl
  · rw [swL_n (by decide), swL_p (by decide)]; rfl
  · rw [swL_n (by decide), swL_n (by decide), swL_p (by decide)]; rfl
  · rw [swL_n (by decide), swL_n (by decide), swL_n (by decide), swL_p (by decide)]; rfl
  · rw [swL_n (by decide), swL_n (by decide), swL_n (by decide), swL_n (by decide), swL_p (by decide)]; rfl
  · rw [swL_n (by decide), swL_n (by decide), swL_n (by decide), swL_n (by decide), swL_n (by decide), swL_p (by decide)]; rfl
  · rw [swL_n (by decide), swL_n (by decide), swL_n (by decide), swL_n (by decide), swL_n (by decide), swL_n (by decide), swL_p (by decide)]; rfl
  · rw [swL_n (by decide), swL_n (by decide), swL_n (by decide), swL_n (by decide), swL_n (by decide), swL_n (by decide), swL_n (by decide), swL_p (by decide)]; rfl
  · rw [swL_n (by decide), swL_n (by decide), swL_n (by decide), swL_n (by decide), swL_n (by decide), swL_n (by decide), swL_n (by decide), swL_n (by decide), swL_p (by decide)]; rfl
  · rw [swL_n (by decide), swL_n (by decide), swL_n (by decide), swL_n (by decide), swL_n (by decide), swL_n (by decide), swL_n (by decide), swL_n (by decide), swL_n (by decide), swL_0]; rfl
  · rw [swL_n (by decide), swL_n (by decide), swL_n (by decide), swL_n (by decide), swL_n (by decide), swL_n (by decide), swL_n (by decide), swL_n (by decide), swL_n (by decide), swL_0]; rfl
  · rw [swL_n (by decide), swL_n (by decide), swL_n (by decide), swL_n (by decide), swL_n (by decide), swL_n (by decide), swL_n (by decide), swL_n (by decide), swL_n (by decide), swL_0]; rfl
theorem ckb : ∀ k, k < 13 → (-255 ≤ (ck_low.getD k 0).toInt ∧ (ck_low.getD k 0).toInt ≤ 255) ∧ (-255 ≤ (ck_high.getD k 0).toInt ∧ (ck_high.getD k 0).toInt ≤ 255) := by decide +kernel
section
variable {T : Nat → Int32} {l s p : Nat}
theorem tK_x {x r : Int32} (hx : (x = 59 ∧ r = 3) ∨ (x = 44 ∧ r = 4)) : (tK T l s = r ↔ tA T l s = x) ∧ (tK T l s = r → tE T l s = s + 1 ∧ s < l) := by
  have key : (tK T l s = r ↔ tA T l s = x) := by
    unfold tK
    by_cases c : s < l
    · rw [if_pos c, tA_y c]
      by_cases c1 : qL (T s) = true
      · rw [if_pos c1]
        refine ⟨fun z => ?_, fun z => ?_⟩
        · rcases hx with h | h <;> (rw [h.2] at z; exact absurd z (by decide))
        · rw [z] at c1
          rcases hx with h | h <;> (rw [h.1] at c1; exact absurd c1 (by decide))
      · rw [if_neg c1]
        by_cases c2 : qD (T s) = true
        · rw [if_pos c2]
          refine ⟨fun z => ?_, fun z => ?_⟩
          · rcases hx with h | h <;> (rw [h.2] at z; exact absurd z (by decide))
          · rw [z] at c2
            rcases hx with h | h <;> (rw [h.1] at c2; exact absurd c2 (by decide))
        · rw [if_neg c2]
          by_cases c3 : T s = 45
          · rw [if_pos c3, c3]
            refine ⟨fun z => ?_, fun z => ?_⟩
            · by_cases c4 : qD (tA T l (s + 1)) = true
              · rw [if_pos c4] at z
                rcases hx with h | h <;> (rw [h.2] at z; exact absurd z (by decide))
              · rw [if_neg c4] at z
                rcases hx with h | h <;> (rw [h.2] at z; exact absurd z (by decide))
            · rcases hx with h | h <;> (rw [h.1] at z; exact absurd z (by decide))
          · rw [if_neg c3]
            by_cases c5 : T s = 59
            · rw [if_pos c5, c5]
              rcases hx with h | h
              · rw [h.1, h.2]; exact ⟨fun _ => rfl, fun _ => rfl⟩
              · rw [h.1, h.2]; exact ⟨fun z => absurd z (by decide), fun z => absurd z (by decide)⟩
            · rw [if_neg c5]
              by_cases c6 : T s = 44
              · rw [if_pos c6, c6]
                rcases hx with h | h
                · rw [h.1, h.2]; exact ⟨fun z => absurd z (by decide), fun z => absurd z (by decide)⟩
                · rw [h.1, h.2]; exact ⟨fun _ => rfl, fun _ => rfl⟩
              · rw [if_neg c6]
                rcases hx with h | h
                · rw [h.1, h.2]; exact ⟨fun z => absurd z (by decide), fun z => absurd z c5⟩
                · rw [h.1, h.2]; exact ⟨fun z => absurd z (by decide), fun z => absurd z c6⟩
    · rw [if_neg c, tA_n c]
      rcases hx with h | h <;> (rw [h.1, h.2]; exact ⟨fun z => absurd z (by decide), fun z => absurd z (by decide)⟩)
  refine ⟨key, fun z => ?_⟩
  have y := key.mp z
  by_cases c : s < l
  · refine ⟨?_, c⟩
    rw [tA_y c] at y
    unfold tE
    have n1 : ¬ qL (T s) = true := fun q => by rw [y] at q; rcases hx with h | h <;> (rw [h.1] at q; exact absurd q (by decide))
    have n2 : ¬ qD (T s) = true := fun q => by rw [y] at q; rcases hx with h | h <;> (rw [h.1] at q; exact absurd q (by decide))
    have n3 : ¬ T s = 45 := fun q => by rw [y] at q; rcases hx with h | h <;> (rw [h.1] at q; exact absurd q (by decide))
    rw [if_pos c, if_neg n1, if_neg n2, if_neg n3]
  · rw [tA_n c] at y
    rcases hx with h | h <;> (rw [h.1] at y; exact absurd y (by decide))
theorem tK_0 (h : s < l) : tK T l s ≠ 0 := by
  unfold tK
  rw [if_pos h]
  repeat' split
  all_goals decide
theorem tE_le (h : s ≤ l) : s ≤ tE T l s ∧ tE T l s ≤ l := by
  unfold tE
  by_cases c : s < l
  · have a := rn_b (q := qL) (T := T) (l := l) (l - s) s rfl h
    have b := rn_b (q := qD) (T := T) (l := l) (l - s) s rfl h
    have d := rn_b (q := qD) (T := T) (l := l) (l - (s + 1)) (s + 1) rfl (by omega)
    rw [if_pos c]
    repeat' split
    all_goals omega
  · rw [if_neg c]; omega
theorem rn_i (h : p ≤ l) : rn qB T l (rn qB T l p) = rn qB T l p := by
  obtain ⟨a, b, _, d⟩ := rn_b (q := qB) (T := T) (l := l) (l - p) p rfl h
  by_cases c : rn qB T l p < l
  · exact rn_n c (d c)
  · exact rn_e (by omega)
end
/-- what a list of numbers may change in the class, and in the reference -/
def Fk (R k : Nat) (M M2 : hM) : Prop := (∀ a b c, ¬ ((a = 1 ∧ (c = 5 ∨ c = 6 ∨ c = 7)) ∨ (a = R ∧ b = 1) ∨ (a = 5 ∧ b = 1 ∧ c = k)) → M2.1 a b c = M.1 a b c) ∧ M2.2 = M.2
def Gk (R : Nat) (M M2 : hM) : Prop := (∀ a b c, ¬ ((a = 40 ∧ (c = 3 ∨ c = 4 ∨ c = 5 ∨ c = 6 ∨ c = 7)) ∨ a = R) → M2.1 a b c = M.1 a b c) ∧ ∀ a b c, ¬ (a = 40 ∧ c = 8) → M2.2 a b c = M.2 a b c
theorem Fk_t {R k : Nat} {a b c : hM} (h : Fk R k a b) (h2 : Fk R k b c) : Fk R k a c := ⟨fun x y z q => (h2.1 x y z q).trans (h.1 x y z q), h2.2.trans h.2⟩
theorem Gk_t {R : Nat} {a b c : hM} (h : Gk R a b) (h2 : Gk R b c) : Gk R a c := ⟨fun x y z q => (h2.1 x y z q).trans (h.1 x y z q), fun x y z q => (h2.2 x y z q).trans (h.2 x y z q)⟩
theorem Fk_x {R k : Nat} {M M2 : hM} (h : Cx M M2) : Fk R k M M2 := ⟨fun a b c q => h.1 a b c (fun z => q (Or.inl z)), h.2⟩
theorem Gk_x {R : Nat} {M M2 : hM} (h : Nx M M2) : Gk R M M2 := ⟨fun a b c q => h.1 a b c (fun z => q (Or.inl ⟨z.1, by omega⟩)), h.2⟩
theorem CTx_k {R k : Nat} {M M2 : hM} {T : Nat → Int32} {l : Nat} (hR : R = 6 ∨ R = 7 ∨ R = 5) (h : Fk R k M M2) (q : CTx M T l) : CTx M2 T l := ⟨by rw [h.1 1 0 4 (by omega)]; exact q.1, q.2.1, fun i hi => by rw [h.1 2 0 i (by omega)]; exact q.2.2 i hi⟩
theorem RTx_k {R : Nat} {M M2 : hM} {T : Nat → Int32} {l : Nat} (hR : R = 43 ∨ R = 44 ∨ R = 42) (h : Gk R M M2) (q : RTx M T l) : RTx M2 T l := ⟨by rw [h.1 40 0 2 (by omega)]; exact q.1, q.2.1, fun i hi => by rw [h.1 41 0 i (by omega)]; exact q.2.2 i hi⟩
theorem m_bad {M : hM} (h : M.1 40 0 4 = -1) : JX12_bad M = some (none, uI M 40 0 4 (M.1 40 0 6)) := by
  unfold JX12_bad
  rw [if_pos h, stI_s]
