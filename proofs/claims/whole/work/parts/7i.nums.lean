/-! a list of numbers -/
section
variable {T : Nat → Int32} {l k R Q : Nat}
theorem nums (hb : ∀ i, i < l → bw (T i) 1 255) (hl : l ≤ 240) (hk : k < 13) (hm : ck_most.getD k 0 = 16) (hRr : R = 6 ∨ R = 7) (hQ : Q = 43 ∨ Q = 44) (hput : ∀ (M : hM) i v, i < 16 → JX4_put 1 (nI k) (nI i) v M = some (none, uI (uI M R 1 i v) 5 1 k (nI (i + 1)))) (hast : ∀ (N : hM) i v (K : hM → hR), i < 16 → ast N Q 0 (nI i) v K = K (uI N Q 0 i v)) : ∀ n i p, i + n = 15 → p ≤ l →
    (∃ s, s ≤ l ∧ (∀ M, CTx M T l → M.1 1 0 5 = nI p → ∃ M2, Fk R k M M2 ∧ M2.1 1 0 6 = nI s ∧ ∀ K1 K2 F, JX6_readClause_79 K1 K2 (nI k) k (F + n + 2) 1 (nI i) M = K1 M2) ∧ ∀ N, RTx N T l → N.1 40 0 3 = nI p → N.1 40 0 4 = -1 → ∃ N2 c, Gk Q N N2 ∧ N2.1 40 0 4 = nI s ∧ ∀ K2 F, JX12_manyNumbers_5 (fun v3 m10 => JX12_manyNumbers_40 v3 m10) K2 (nI k) Q 0 (F + n + 2) (nI i) 1 N = some (some (.inl c), N2)) ∨
    (∃ cnt, ∃ g : Nat → Int32, ∃ q, i < cnt ∧ cnt ≤ 16 ∧ q ≤ l ∧ (∀ j, i ≤ j → j < cnt → bw (g j) (ck_low.getD k 0).toInt (ck_high.getD k 0).toInt) ∧ (∀ M, CTx M T l → M.1 1 0 5 = nI p → ∃ M2, Fk R k M M2 ∧ M2.1 1 0 6 = M.1 1 0 6 ∧ M2.1 1 0 5 = nI q ∧ M2.1 5 1 k = nI cnt ∧ (∀ j, j < i → M2.1 R 1 j = M.1 R 1 j) ∧ (∀ j, i ≤ j → j < cnt → M2.1 R 1 j = g j) ∧ ∀ K1 K2 F, JX6_readClause_79 K1 K2 (nI k) k (F + n + 2) 1 (nI i) M = K2 M2) ∧ ∀ N, RTx N T l → N.1 40 0 3 = nI p → N.1 40 0 4 = -1 → ∃ N2, Gk Q N N2 ∧ N2.1 40 0 4 = -1 ∧ Tok N2 T l (rn qB T l q) ∧ (∀ j, j < i → N2.1 Q 0 j = N.1 Q 0 j) ∧ (∀ j, i ≤ j → j < cnt → N2.1 Q 0 j = g j) ∧ ∀ K2 F, JX12_manyNumbers_5 (fun v3 m10 => JX12_manyNumbers_40 v3 m10) K2 (nI k) Q 0 (F + n + 2) (nI i) 1 N = K2 (nI cnt) N2) := by
  have cb := ckb k hk
  intro n
  induction n with
  | zero =>
    intro i p hi hp
    have i15 : i = 15 := by omega
    subst i15
    have hi6 : 15 < 16 := by decide
    obtain ⟨r1, r2, _, _⟩ := rn_b (q := qB) (T := T) (l := l) (l - p) p rfl hp
    have rdn := fun (M : hM) (h1 : CTx M T l) (h2 : M.1 1 0 5 = nI p) => c_rdn (lo := ck_low.getD k 0) (hi := ck_high.getD k 0) hp h1 h2
    have nxt := fun (N : hM) (h1 : RTx N T l) (h2 : N.1 40 0 3 = nI p) => m_nxt hb hp h1 h2
    generalize rn qB T l p = s at rdn nxt r1 r2
    have m16 : ¬ (16 : Int32) ≤ nI 15 := nI_ge (b := 16) hi6 (by decide)
    have no : ¬ (tK T l s = 2 ∧ hwi (tV stK T l s) (ck_low.getD k 0) (ck_high.getD k 0) = 1) → ∃ s, s ≤ l ∧ (∀ M, CTx M T l → M.1 1 0 5 = nI p → ∃ M2, Fk R k M M2 ∧ M2.1 1 0 6 = nI s ∧ ∀ K1 K2 F, JX6_readClause_79 K1 K2 (nI k) k (F + 0 + 2) 1 (nI 15) M = K1 M2) ∧ ∀ N, RTx N T l → N.1 40 0 3 = nI p → N.1 40 0 4 = -1 → ∃ N2 c, Gk Q N N2 ∧ N2.1 40 0 4 = nI s ∧ ∀ K2 F, JX12_manyNumbers_5 (fun v3 m10 => JX12_manyNumbers_40 v3 m10) K2 (nI k) Q 0 (F + 0 + 2) (nI 15) 1 N = some (some (.inl c), N2) := fun bad => by
      refine ⟨s, r2, fun M h1 h2 => ?_, fun N h1 h2 h3 => ?_⟩
      · obtain ⟨M2, a1, a2, a3⟩ := (rdn M h1 h2).2 bad
        refine ⟨M2, Fk_x a2, a3, fun K1 K2 F => ?_⟩
        show bJX6_readClause_79 _ _ _ _ _ _ _ _ = _
        unfold bJX6_readClause_79
        rw [hm, if_neg m16, if_neg (by decide), a1, calI_s, if_pos rfl]
      · obtain ⟨N1, a1, a2, a3⟩ := nxt N h1 h2
        have f1 : N1.1 40 0 4 = -1 := by rw [a2.1 40 0 4 (by decide)]; exact h3
        have e40 : JX12_manyNumbers_40 (nI 15) N1 = some (some (.inl (nI 15)), uI N1 40 0 4 (nI s)) := by
          unfold JX12_manyNumbers_40
          rw [m_bad f1, calV_s, a3.1]
        have g4 : Gk Q N1 (uI N1 40 0 4 (nI s)) := ⟨fun a b c z => uI_n (by omega), fun _ _ _ _ => rfl⟩
        refine ⟨uI N1 40 0 4 (nI s), nI 15, Gk_t (Gk_x a2) g4, uI_s, fun K2 F => ?_⟩
        show bJX12_manyNumbers_5 _ _ _ _ _ _ _ _ _ = _
        unfold bJX12_manyNumbers_5
        rw [if_neg (by decide), a1, calV_s, a3.2.1]
        by_cases c2 : tK T l s = 2
        · have w := tV_w c2 cb.1 cb.2
          rw [if_pos c2, e_lowest N1 hk, calI_s, e_highest N1 hk, calI_s, a3.2.2.2.1 c2, e_in, calI_s, ← w.1, (hwi_b _ _ _).resolve_right (fun z => bad ⟨c2, z⟩), if_pos rfl]
          exact e40
        · rw [if_neg c2]
          exact e40
    have ok : (tK T l s = 2 ∧ hwi (tV stK T l s) (ck_low.getD k 0) (ck_high.getD k 0) = 1) → (∀ N, RTx N T l → N.1 40 0 3 = nI p → N.1 40 0 4 = -1 → ∃ N3, Gk Q N N3 ∧ N3.1 40 0 4 = -1 ∧ Tok N3 T l (rn qB T l (tE T l s)) ∧ (∀ j, j ≠ 15 → N3.1 Q 0 j = N.1 Q 0 j) ∧ N3.1 Q 0 15 = tV stR T l s ∧ ∀ K2 F, JX12_manyNumbers_5 (fun v3 m10 => JX12_manyNumbers_40 v3 m10) K2 (nI k) Q 0 (F + 1) (nI 15) 1 N = if tK T l (rn qB T l (tE T l s)) = 4 then (if 16 ≤ nI (15 + 1) then JX12_manyNumbers_5 (fun v3 m10 => JX12_manyNumbers_40 v3 m10) K2 (nI k) Q 0 F (nI (15 + 1)) 0 N3 else JX12_manyNumbers_5 (fun v3 m10 => JX12_manyNumbers_40 v3 m10) K2 (nI k) Q 0 F (nI (15 + 1)) 1 N3) else JX12_manyNumbers_5 (fun v3 m10 => JX12_manyNumbers_40 v3 m10) K2 (nI k) Q 0 F (nI (15 + 1)) 0 N3) ∧ (∀ M, CTx M T l → M.1 1 0 5 = nI p → ∃ M3, Fk R k M M3 ∧ M3.1 1 0 6 = M.1 1 0 6 ∧ M3.1 1 0 5 = nI (tE T l s) ∧ M3.1 5 1 k = nI (15 + 1) ∧ (∀ j, j ≠ 15 → M3.1 R 1 j = M.1 R 1 j) ∧ M3.1 R 1 15 = tV stR T l s ∧ ∀ K1 K2 F, JX6_readClause_79 K1 K2 (nI k) k (F + 1) 1 (nI 15) M = if 16 ≤ nI (15 + 1) then JX6_readClause_79 K1 K2 (nI k) k F 0 (nI (15 + 1)) M3 else calI (JX6_passByte 44 M3) fun x16 m15 => if x16 = 0 then JX6_readClause_79 K1 K2 (nI k) k F 0 (nI (15 + 1)) m15 else JX6_readClause_79 K1 K2 (nI k) k F 1 (nI (15 + 1)) m15) ∧ bw (tV stR T l s) (ck_low.getD k 0).toInt (ck_high.getD k 0).toInt := fun good => by
      obtain ⟨c2, wi⟩ := good
      have w := tV_w c2 cb.1 cb.2
      have ev := w.2 wi
      have wr : hwi (tV stR T l s) (ck_low.getD k 0) (ck_high.getD k 0) = 1 := by rw [← w.1]; exact wi
      have e2 := (tE_le (T := T) r2).2
      refine ⟨fun N h1 h2 h3 => ?_, fun M h1 h2 => ?_, hwi_bw wr⟩
      · obtain ⟨N1, a1, a2, a3⟩ := nxt N h1 h2
        have qs : ∀ (b : Nat) (c : Nat), Q = 43 ∨ Q = 44 := fun _ _ => hQ
        have u1 : Gk Q N1 (uI N1 Q 0 15 (tV stR T l s)) := ⟨fun a b c z => uI_o (fun y => z (Or.inr y)), fun _ _ _ _ => rfl⟩
        have x1 : RTx (uI N1 Q 0 15 (tV stR T l s)) T l := RTx_k (by omega) (Gk_t (Gk_x a2) u1) h1
        obtain ⟨N3, b1, b2, b3⟩ := m_nxt hb e2 x1 (by rw [uI_o (by omega)]; exact a3.2.2.1)
        refine ⟨N3, Gk_t (Gk_x a2) (Gk_t u1 (Gk_x b2)), ?_, b3, fun j hj => ?_, ?_, fun K2 F => ?_⟩
        · rw [b2.1 40 0 4 (by decide), uI_o (by omega), a2.1 40 0 4 (by decide)]; exact h3
        · rw [b2.1 Q 0 j (by omega), uI_n (Or.inr hj), a2.1 Q 0 j (by omega)]
        · rw [b2.1 Q 0 15 (by omega), uI_s]
        · show bJX12_manyNumbers_5 _ _ _ _ _ _ _ _ _ = _
          unfold bJX12_manyNumbers_5 JX12_manyNumbers_78 JX12_manyNumbers_79
          rw [if_neg (by decide), a1, calV_s, a3.2.1, if_pos c2, e_lowest N1 hk, calI_s, e_highest N1 hk, calI_s, a3.2.2.2.1 c2, e_in, calI_s, wr, if_neg (show ¬ (1 : Int32) = 0 by decide), hast N1 15 _ _ hi6, a3.2.2.2.1 c2, b1, calV_s, b3.2.1, ← nI_succ]
      · obtain ⟨M2, a1, a2, a3, a4, a5⟩ := (rdn M h1 h2).1 ⟨c2, wi⟩
        have f2 : Fk R k M2 (uI (uI M2 R 1 15 (tV stR T l s)) 5 1 k (nI (15 + 1))) := ⟨fun a b c z => by
          rw [uI_x (fun y => z (Or.inr (Or.inr y))), uI_x (fun y => z (Or.inr (Or.inl ⟨y.1, y.2.1⟩)))], rfl⟩
        refine ⟨uI (uI M2 R 1 15 (tV stR T l s)) 5 1 k (nI (15 + 1)), Fk_t (Fk_x a2) f2, ?_, ?_, uI_s, fun j hj => ?_, ?_, fun K1 K2 F => ?_⟩
        · rw [uI_o (by decide), uI_o (by omega)]; exact a4
        · rw [uI_o (by decide), uI_o (by omega)]; exact a3
        · rw [uI_o (by omega), uI_n (Or.inr hj), a2.1 R 1 j (by omega)]
        · rw [uI_o (by omega), uI_s]
        · show bJX6_readClause_79 _ _ _ _ _ _ _ _ = _
          unfold bJX6_readClause_79 JX6_readClause_147 JX6_readClause_148
          rw [hm, if_neg m16, if_neg (show ¬ (1 : Int32) = 0 by decide), a1, calI_s, if_neg (show ¬ (1 : Int32) = 0 by decide), a5, ev, hput M2 15 _ hi6, calV_s, ← nI_succ]
    by_cases good : tK T l s = 2 ∧ hwi (tV stK T l s) (ck_low.getD k 0) (ck_high.getD k 0) = 1
    · obtain ⟨rg, cg, vb⟩ := ok good
      refine Or.inr ⟨16, fun _ => tV stR T l s, tE T l s, by decide, by decide, (tE_le r2).2, fun j h1 h2 => vb, fun M h1 h2 => ?_, fun N h1 h2 h3 => ?_⟩
      · obtain ⟨M3, a1, a2, a3, a4, a5, a6, a7⟩ := cg M h1 h2
        refine ⟨M3, a1, a2, a3, a4, fun j hj => a5 j (by omega), fun j x y => by rw [show j = 15 from by omega]; exact a6, fun K1 K2 F => ?_⟩
        rw [show F + 0 + 2 = F + 1 + 1 from rfl, a7, if_pos (by decide)]
        show bJX6_readClause_79 _ _ _ _ _ _ _ _ = _
        unfold bJX6_readClause_79
        rw [hm, if_pos (by decide)]
      · obtain ⟨N3, a1, a2, a3, a4, a5, a6⟩ := rg N h1 h2 h3
        refine ⟨N3, a1, a2, a3, fun j hj => a4 j (by omega), fun j x y => by rw [show j = 15 from by omega]; exact a5, fun K2 F => ?_⟩
        have fin : ∀ v : Int32, v = 0 → JX12_manyNumbers_5 (fun v3 m10 => JX12_manyNumbers_40 v3 m10) K2 (nI k) Q 0 (F + 1) (nI (15 + 1)) v N3 = K2 (nI 16) N3 := fun v hv => by
          show bJX12_manyNumbers_5 _ _ _ _ _ _ _ _ _ = _
          unfold bJX12_manyNumbers_5
          rw [if_pos hv]
        rw [show F + 0 + 2 = F + 1 + 1 from rfl, a6]
        by_cases c4 : tK T l (rn qB T l (tE T l s)) = 4
        · rw [if_pos c4, if_pos (by decide)]; exact fin 0 rfl
        · rw [if_neg c4]; exact fin 0 rfl
    · exact Or.inl (no good)
  | succ n ih =>
    intro i p hi hp
    have hi6 : i < 16 := by omega
    obtain ⟨r1, r2, _, _⟩ := rn_b (q := qB) (T := T) (l := l) (l - p) p rfl hp
    have rdn := fun (M : hM) (h1 : CTx M T l) (h2 : M.1 1 0 5 = nI p) => c_rdn (lo := ck_low.getD k 0) (hi := ck_high.getD k 0) hp h1 h2
    have nxt := fun (N : hM) (h1 : RTx N T l) (h2 : N.1 40 0 3 = nI p) => m_nxt hb hp h1 h2
    generalize rn qB T l p = s at rdn nxt r1 r2
    have m16 : ¬ (16 : Int32) ≤ nI i := nI_ge (b := 16) hi6 (by decide)
    have no : ¬ (tK T l s = 2 ∧ hwi (tV stK T l s) (ck_low.getD k 0) (ck_high.getD k 0) = 1) → ∃ s, s ≤ l ∧ (∀ M, CTx M T l → M.1 1 0 5 = nI p → ∃ M2, Fk R k M M2 ∧ M2.1 1 0 6 = nI s ∧ ∀ K1 K2 F, JX6_readClause_79 K1 K2 (nI k) k (F + (n + 1) + 2) 1 (nI i) M = K1 M2) ∧ ∀ N, RTx N T l → N.1 40 0 3 = nI p → N.1 40 0 4 = -1 → ∃ N2 c, Gk Q N N2 ∧ N2.1 40 0 4 = nI s ∧ ∀ K2 F, JX12_manyNumbers_5 (fun v3 m10 => JX12_manyNumbers_40 v3 m10) K2 (nI k) Q 0 (F + (n + 1) + 2) (nI i) 1 N = some (some (.inl c), N2) := fun bad => by
      refine ⟨s, r2, fun M h1 h2 => ?_, fun N h1 h2 h3 => ?_⟩
      · obtain ⟨M2, a1, a2, a3⟩ := (rdn M h1 h2).2 bad
        refine ⟨M2, Fk_x a2, a3, fun K1 K2 F => ?_⟩
        show bJX6_readClause_79 _ _ _ _ _ _ _ _ = _
        unfold bJX6_readClause_79
        rw [hm, if_neg m16, if_neg (by decide), a1, calI_s, if_pos rfl]
      · obtain ⟨N1, a1, a2, a3⟩ := nxt N h1 h2
        have f1 : N1.1 40 0 4 = -1 := by rw [a2.1 40 0 4 (by decide)]; exact h3
        have e40 : JX12_manyNumbers_40 (nI i) N1 = some (some (.inl (nI i)), uI N1 40 0 4 (nI s)) := by
          unfold JX12_manyNumbers_40
          rw [m_bad f1, calV_s, a3.1]
        have g4 : Gk Q N1 (uI N1 40 0 4 (nI s)) := ⟨fun a b c z => uI_n (by omega), fun _ _ _ _ => rfl⟩
        refine ⟨uI N1 40 0 4 (nI s), nI i, Gk_t (Gk_x a2) g4, uI_s, fun K2 F => ?_⟩
        show bJX12_manyNumbers_5 _ _ _ _ _ _ _ _ _ = _
        unfold bJX12_manyNumbers_5
        rw [if_neg (by decide), a1, calV_s, a3.2.1]
        by_cases c2 : tK T l s = 2
        · have w := tV_w c2 cb.1 cb.2
          rw [if_pos c2, e_lowest N1 hk, calI_s, e_highest N1 hk, calI_s, a3.2.2.2.1 c2, e_in, calI_s, ← w.1, (hwi_b _ _ _).resolve_right (fun z => bad ⟨c2, z⟩), if_pos rfl]
          exact e40
        · rw [if_neg c2]
          exact e40
    have ok : (tK T l s = 2 ∧ hwi (tV stK T l s) (ck_low.getD k 0) (ck_high.getD k 0) = 1) → (∀ N, RTx N T l → N.1 40 0 3 = nI p → N.1 40 0 4 = -1 → ∃ N3, Gk Q N N3 ∧ N3.1 40 0 4 = -1 ∧ Tok N3 T l (rn qB T l (tE T l s)) ∧ (∀ j, j ≠ i → N3.1 Q 0 j = N.1 Q 0 j) ∧ N3.1 Q 0 i = tV stR T l s ∧ ∀ K2 F, JX12_manyNumbers_5 (fun v3 m10 => JX12_manyNumbers_40 v3 m10) K2 (nI k) Q 0 (F + 1) (nI i) 1 N = if tK T l (rn qB T l (tE T l s)) = 4 then (if 16 ≤ nI (i + 1) then JX12_manyNumbers_5 (fun v3 m10 => JX12_manyNumbers_40 v3 m10) K2 (nI k) Q 0 F (nI (i + 1)) 0 N3 else JX12_manyNumbers_5 (fun v3 m10 => JX12_manyNumbers_40 v3 m10) K2 (nI k) Q 0 F (nI (i + 1)) 1 N3) else JX12_manyNumbers_5 (fun v3 m10 => JX12_manyNumbers_40 v3 m10) K2 (nI k) Q 0 F (nI (i + 1)) 0 N3) ∧ (∀ M, CTx M T l → M.1 1 0 5 = nI p → ∃ M3, Fk R k M M3 ∧ M3.1 1 0 6 = M.1 1 0 6 ∧ M3.1 1 0 5 = nI (tE T l s) ∧ M3.1 5 1 k = nI (i + 1) ∧ (∀ j, j ≠ i → M3.1 R 1 j = M.1 R 1 j) ∧ M3.1 R 1 i = tV stR T l s ∧ ∀ K1 K2 F, JX6_readClause_79 K1 K2 (nI k) k (F + 1) 1 (nI i) M = if 16 ≤ nI (i + 1) then JX6_readClause_79 K1 K2 (nI k) k F 0 (nI (i + 1)) M3 else calI (JX6_passByte 44 M3) fun x16 m15 => if x16 = 0 then JX6_readClause_79 K1 K2 (nI k) k F 0 (nI (i + 1)) m15 else JX6_readClause_79 K1 K2 (nI k) k F 1 (nI (i + 1)) m15) ∧ bw (tV stR T l s) (ck_low.getD k 0).toInt (ck_high.getD k 0).toInt := fun good => by
      obtain ⟨c2, wi⟩ := good
      have w := tV_w c2 cb.1 cb.2
      have ev := w.2 wi
      have wr : hwi (tV stR T l s) (ck_low.getD k 0) (ck_high.getD k 0) = 1 := by rw [← w.1]; exact wi
      have e2 := (tE_le (T := T) r2).2
      refine ⟨fun N h1 h2 h3 => ?_, fun M h1 h2 => ?_, hwi_bw wr⟩
      · obtain ⟨N1, a1, a2, a3⟩ := nxt N h1 h2
        have qs : ∀ (b : Nat) (c : Nat), Q = 43 ∨ Q = 44 := fun _ _ => hQ
        have u1 : Gk Q N1 (uI N1 Q 0 i (tV stR T l s)) := ⟨fun a b c z => uI_o (fun y => z (Or.inr y)), fun _ _ _ _ => rfl⟩
        have x1 : RTx (uI N1 Q 0 i (tV stR T l s)) T l := RTx_k (by omega) (Gk_t (Gk_x a2) u1) h1
        obtain ⟨N3, b1, b2, b3⟩ := m_nxt hb e2 x1 (by rw [uI_o (by omega)]; exact a3.2.2.1)
        refine ⟨N3, Gk_t (Gk_x a2) (Gk_t u1 (Gk_x b2)), ?_, b3, fun j hj => ?_, ?_, fun K2 F => ?_⟩
        · rw [b2.1 40 0 4 (by decide), uI_o (by omega), a2.1 40 0 4 (by decide)]; exact h3
        · rw [b2.1 Q 0 j (by omega), uI_n (Or.inr hj), a2.1 Q 0 j (by omega)]
        · rw [b2.1 Q 0 i (by omega), uI_s]
        · show bJX12_manyNumbers_5 _ _ _ _ _ _ _ _ _ = _
          unfold bJX12_manyNumbers_5 JX12_manyNumbers_78 JX12_manyNumbers_79
          rw [if_neg (by decide), a1, calV_s, a3.2.1, if_pos c2, e_lowest N1 hk, calI_s, e_highest N1 hk, calI_s, a3.2.2.2.1 c2, e_in, calI_s, wr, if_neg (show ¬ (1 : Int32) = 0 by decide), hast N1 i _ _ hi6, a3.2.2.2.1 c2, b1, calV_s, b3.2.1, ← nI_succ]
      · obtain ⟨M2, a1, a2, a3, a4, a5⟩ := (rdn M h1 h2).1 ⟨c2, wi⟩
        have f2 : Fk R k M2 (uI (uI M2 R 1 i (tV stR T l s)) 5 1 k (nI (i + 1))) := ⟨fun a b c z => by
          rw [uI_x (fun y => z (Or.inr (Or.inr y))), uI_x (fun y => z (Or.inr (Or.inl ⟨y.1, y.2.1⟩)))], rfl⟩
        refine ⟨uI (uI M2 R 1 i (tV stR T l s)) 5 1 k (nI (i + 1)), Fk_t (Fk_x a2) f2, ?_, ?_, uI_s, fun j hj => ?_, ?_, fun K1 K2 F => ?_⟩
        · rw [uI_o (by decide), uI_o (by omega)]; exact a4
        · rw [uI_o (by decide), uI_o (by omega)]; exact a3
        · rw [uI_o (by omega), uI_n (Or.inr hj), a2.1 R 1 j (by omega)]
        · rw [uI_o (by omega), uI_s]
        · show bJX6_readClause_79 _ _ _ _ _ _ _ _ = _
          unfold bJX6_readClause_79 JX6_readClause_147 JX6_readClause_148
          rw [hm, if_neg m16, if_neg (show ¬ (1 : Int32) = 0 by decide), a1, calI_s, if_neg (show ¬ (1 : Int32) = 0 by decide), a5, ev, hput M2 i _ hi6, calV_s, ← nI_succ]
    by_cases good : tK T l s = 2 ∧ hwi (tV stK T l s) (ck_low.getD k 0) (ck_high.getD k 0) = 1
    · obtain ⟨rg, cg, vb⟩ := ok good
      have e2 := (tE_le (T := T) r2).2
      obtain ⟨u1, u2, _, _⟩ := rn_b (q := qB) (T := T) (l := l) (l - tE T l s) (tE T l s) rfl e2
      have n16 : ¬ (16 : Int32) ≤ nI (i + 1) := nI_ge (b := 16) (by omega) (by decide)
      have t4 := tK_x (T := T) (l := l) (s := rn qB T l (tE T l s)) (x := 44) (r := 4) (Or.inr ⟨rfl, rfl⟩)
      by_cases c4 : tA T l (rn qB T l (tE T l s)) = 44
      · have k4 := t4.1.mpr c4
        have ee := t4.2 k4
        have cst : ∀ M, CTx M T l → M.1 1 0 5 = nI p → ∃ M4, Fk R k M M4 ∧ CTx M4 T l ∧ M4.1 1 0 5 = nI (rn qB T l (tE T l s) + 1) ∧ M4.1 1 0 6 = M.1 1 0 6 ∧ (∀ j, j ≠ i → M4.1 R 1 j = M.1 R 1 j) ∧ M4.1 R 1 i = tV stR T l s ∧ ∀ K1 K2 F, JX6_readClause_79 K1 K2 (nI k) k (F + 1) 1 (nI i) M = JX6_readClause_79 K1 K2 (nI k) k F 1 (nI (i + 1)) M4 := fun M h1 h2 => by
          obtain ⟨M3, a1, a2, a3, a4, a5, a6, a7⟩ := cg M h1 h2
          have x3 := CTx_k (by omega) a1 h1
          have pb := c_passB (x := 44) (by decide) e2 x3 a3
          rw [if_pos c4] at pb
          refine ⟨uI M3 1 0 5 (nI (rn qB T l (tE T l s) + 1)), Fk_t a1 (Fk_x (Cx_u (by decide))), CTx_u x3 (by decide), uI_s, by rw [uI_n (by decide)]; exact a2, fun j hj => by rw [uI_o (by omega)]; exact a5 j hj, by rw [uI_o (by omega)]; exact a6, fun K1 K2 F => ?_⟩
          rw [a7, if_neg n16, pb, calI_s, if_neg (by decide)]
        have rst : ∀ N, RTx N T l → N.1 40 0 3 = nI p → N.1 40 0 4 = -1 → ∃ N4, Gk Q N N4 ∧ RTx N4 T l ∧ N4.1 40 0 3 = nI (rn qB T l (tE T l s) + 1) ∧ N4.1 40 0 4 = -1 ∧ (∀ j, j ≠ i → N4.1 Q 0 j = N.1 Q 0 j) ∧ N4.1 Q 0 i = tV stR T l s ∧ ∀ K2 F, JX12_manyNumbers_5 (fun v3 m10 => JX12_manyNumbers_40 v3 m10) K2 (nI k) Q 0 (F + 1) (nI i) 1 N = JX12_manyNumbers_5 (fun v3 m10 => JX12_manyNumbers_40 v3 m10) K2 (nI k) Q 0 F (nI (i + 1)) 1 N4 := fun N h1 h2 h3 => by
          obtain ⟨N3, a1, a2, a3, a4, a5, a6⟩ := rg N h1 h2 h3
          refine ⟨N3, a1, RTx_k (by omega) a1 h1, by rw [a3.2.2.1, ee.1], a2, a4, a5, fun K2 F => ?_⟩
          rw [a6, if_pos k4, if_neg n16]
        rcases ih (i + 1) (rn qB T l (tE T l s) + 1) (by omega) (by omega) with ⟨x, x1, x2, x3⟩ | ⟨cnt, g, q, y1, y2, y3, y4, y5, y6⟩
        · refine Or.inl ⟨x, x1, fun M h1 h2 => ?_, fun N h1 h2 h3 => ?_⟩
          · obtain ⟨M4, a1, a2, a3, a4, a5, a6, a7⟩ := cst M h1 h2
            obtain ⟨M5, b1, b2, b3⟩ := x2 M4 a2 a3
            refine ⟨M5, Fk_t a1 b1, b2, fun K1 K2 F => ?_⟩
            rw [show F + (n + 1) + 2 = F + n + 2 + 1 from by omega, a7, b3]
          · obtain ⟨N4, a1, a2, a3, a4, a5, a6, a7⟩ := rst N h1 h2 h3
            obtain ⟨N5, c, b1, b2, b3⟩ := x3 N4 a2 a3 a4
            refine ⟨N5, c, Gk_t a1 b1, b2, fun K2 F => ?_⟩
            rw [show F + (n + 1) + 2 = F + n + 2 + 1 from by omega, a7, b3]
        · refine Or.inr ⟨cnt, fun j => if j = i then tV stR T l s else g j, q, by omega, y2, y3, fun j h1 h2 => ?_, fun M h1 h2 => ?_, fun N h1 h2 h3 => ?_⟩
          · by_cases c : j = i
            · show bw (if j = i then tV stR T l s else g j) _ _
              rw [if_pos c]; exact vb
            · show bw (if j = i then tV stR T l s else g j) _ _
              rw [if_neg c]; exact y4 j (by omega) h2
          · obtain ⟨M4, a1, a2, a3, a4, a5, a6, a7⟩ := cst M h1 h2
            obtain ⟨M5, b1, b2, b3, b4, b5, b6, b7⟩ := y5 M4 a2 a3
            refine ⟨M5, Fk_t a1 b1, b2.trans a4, b3, b4, fun j hj => (b5 j (by omega)).trans (a5 j (by omega)), fun j z1 z2 => ?_, fun K1 K2 F => ?_⟩
            · by_cases c : j = i
              · show M5.1 R 1 j = if j = i then tV stR T l s else g j
                rw [if_pos c, c, b5 i (by omega)]; exact a6
              · show M5.1 R 1 j = if j = i then tV stR T l s else g j
                rw [if_neg c]; exact b6 j (by omega) z2
            · rw [show F + (n + 1) + 2 = F + n + 2 + 1 from by omega, a7, b7]
          · obtain ⟨N4, a1, a2, a3, a4, a5, a6, a7⟩ := rst N h1 h2 h3
            obtain ⟨N5, b1, b2, b3, b4, b5, b6⟩ := y6 N4 a2 a3 a4
            refine ⟨N5, Gk_t a1 b1, b2, b3, fun j hj => (b4 j (by omega)).trans (a5 j (by omega)), fun j z1 z2 => ?_, fun K2 F => ?_⟩
            · by_cases c : j = i
              · show N5.1 Q 0 j = if j = i then tV stR T l s else g j
                rw [if_pos c, c, b4 i (by omega)]; exact a6
              · show N5.1 Q 0 j = if j = i then tV stR T l s else g j
                rw [if_neg c]; exact b5 j (by omega) z2
            · rw [show F + (n + 1) + 2 = F + n + 2 + 1 from by omega, a7, b6]
      · refine Or.inr ⟨i + 1, fun _ => tV stR T l s, rn qB T l (tE T l s), by omega, by omega, u2, fun j h1 h2 => vb, fun M h1 h2 => ?_, fun N h1 h2 h3 => ?_⟩
        · obtain ⟨M3, a1, a2, a3, a4, a5, a6, a7⟩ := cg M h1 h2
          have x3 := CTx_k (by omega) a1 h1
          have pb := c_passB (x := 44) (by decide) e2 x3 a3
          rw [if_neg c4] at pb
          refine ⟨uI M3 1 0 5 (nI (rn qB T l (tE T l s))), Fk_t a1 (Fk_x (Cx_u (by decide))), by rw [uI_n (by decide)]; exact a2, uI_s, by rw [uI_o (by decide)]; exact a4, fun j hj => by rw [uI_o (by omega)]; exact a5 j (by omega), fun j z1 z2 => by rw [uI_o (by omega), show j = i from by omega]; exact a6, fun K1 K2 F => ?_⟩
          rw [show F + (n + 1) + 2 = F + n + 1 + 1 + 1 from by omega, a7, if_neg n16, pb, calI_s, if_pos rfl]
          show bJX6_readClause_79 _ _ _ _ _ _ _ _ = _
          unfold bJX6_readClause_79
          rw [hm, if_neg n16, if_pos rfl]
        · obtain ⟨N3, a1, a2, a3, a4, a5, a6⟩ := rg N h1 h2 h3
          refine ⟨N3, a1, a2, by rw [rn_i e2]; exact a3, fun j hj => a4 j (by omega), fun j x y => by rw [show j = i from by omega]; exact a5, fun K2 F => ?_⟩
          rw [show F + (n + 1) + 2 = F + n + 1 + 1 + 1 from by omega, a6, if_neg (fun z => c4 (t4.1.mp z))]
          show bJX12_manyNumbers_5 _ _ _ _ _ _ _ _ _ = _
          unfold bJX12_manyNumbers_5
          rw [if_pos rfl]
    · exact Or.inl (no good)
end
