/-! one clause -/
def FL (M M2 : hM) : Prop := (∀ a b c, ¬ ((a = 1 ∧ (c = 5 ∨ c = 6 ∨ c = 7)) ∨ (5 ≤ a ∧ a ≤ 7 ∧ b = 1)) → M2.1 a b c = M.1 a b c) ∧ M2.2 = M.2
def GL (M M2 : hM) : Prop := (∀ a b c, ¬ ((a = 40 ∧ (c = 3 ∨ c = 4 ∨ c = 5 ∨ c = 6 ∨ c = 7)) ∨ (42 ≤ a ∧ a ≤ 44)) → M2.1 a b c = M.1 a b c) ∧ ∀ a b c, ¬ (a = 40 ∧ c = 8) → M2.2 a b c = M.2 a b c
theorem FL_t {a b c : hM} (h : FL a b) (h2 : FL b c) : FL a c := ⟨fun x y z q => (h2.1 x y z q).trans (h.1 x y z q), h2.2.trans h.2⟩
theorem GL_t {a b c : hM} (h : GL a b) (h2 : GL b c) : GL a c := ⟨fun x y z q => (h2.1 x y z q).trans (h.1 x y z q), fun x y z q => (h2.2 x y z q).trans (h.2 x y z q)⟩
theorem FL_x {M M2 : hM} (h : Cx M M2) : FL M M2 := ⟨fun a b c q => h.1 a b c (fun z => q (Or.inl z)), h.2⟩
theorem GL_x {M M2 : hM} (h : Nx M M2) : GL M M2 := ⟨fun a b c q => h.1 a b c (fun z => q (Or.inl ⟨z.1, by omega⟩)), h.2⟩
theorem FL_k {R k : Nat} {M M2 : hM} (hk : R = 6 ∨ R = 7) (h : Fk R k M M2) : FL M M2 := ⟨fun a b c q => h.1 a b c (fun z => by
  rcases z with z | z | z
  · exact q (Or.inl z)
  · refine q (Or.inr ⟨?_, ?_, z.2⟩)
    · have := z.1; clear q h; omega
    · have := z.1; clear q h; omega
  · refine q (Or.inr ⟨?_, ?_, z.2.1⟩)
    · have := z.1; clear q h; omega
    · have := z.1; clear q h; omega), h.2⟩
theorem GL_k {R : Nat} {M M2 : hM} (hk : R = 43 ∨ R = 44) (h : Gk R M M2) : GL M M2 := ⟨fun a b c q => h.1 a b c (fun z => by
  rcases z with z | z
  · exact q (Or.inl z)
  · refine q (Or.inr ⟨?_, ?_⟩)
    · clear q h; omega
    · clear q h; omega), h.2⟩
theorem GL_u {M : hM} {t k : Nat} {x : Int32} (h : 42 ≤ t ∧ t ≤ 44) : GL M (uI M t 0 k x) := ⟨fun a b c q => uI_o (fun e => q (Or.inr ⟨by rw [e]; exact h.1, by rw [e]; exact h.2⟩)), fun _ _ _ _ => rfl⟩
theorem GL_4 {M : hM} {x : Int32} : GL M (uI M 40 0 4 x) := ⟨fun a b c q => uI_x (fun y => q (Or.inl ⟨y.1, Or.inr (Or.inl y.2.2)⟩)), fun _ _ _ _ => rfl⟩
theorem CTx_l {M M2 : hM} {T : Nat → Int32} {l : Nat} (h : FL M M2) (q : CTx M T l) : CTx M2 T l := ⟨by rw [h.1 1 0 4 (by decide)]; exact q.1, q.2.1, fun i hi => by rw [h.1 2 0 i (fun z => by rcases z with z | z <;> (have := z.1; omega))]; exact q.2.2 i hi⟩
theorem RTx_l {M M2 : hM} {T : Nat → Int32} {l : Nat} (h : GL M M2) (q : RTx M T l) : RTx M2 T l := ⟨by rw [h.1 40 0 2 (by decide)]; exact q.1, q.2.1, fun i hi => by rw [h.1 41 0 i (fun z => by rcases z with z | z <;> (have := z.1; omega))]; exact q.2.2 i hi⟩
/-- what a line holds -/
def CLV (f g h : Nat → Int32) (P W : Nat) : Prop := (P ≤ 16 ∧ f 0 = nI P ∧ ∀ j, j < P → bw (g j) (-60) 60) ∧ (W ≤ 16 ∧ f 12 = nI W ∧ ∀ j, j < W → bw (h j) 0 1) ∧ ∀ k, 1 ≤ k → k ≤ 11 → bw (f k) (ck_low.getD k 0).toInt (ck_high.getD k 0).toInt
def CL (M : hM) (f g h : Nat → Int32) (P W : Nat) : Prop := (∀ k, k < 13 → M.1 5 1 k = f k) ∧ (∀ j, j < P → M.1 6 1 j = g j) ∧ ∀ j, j < W → M.1 7 1 j = h j
def RCn (M : hM) (f g h : Nat → Int32) (P W : Nat) : Prop := (∀ k, k < 13 → M.1 42 0 k = f k) ∧ (∀ j, j < P → M.1 43 0 j = g j) ∧ ∀ j, j < W → M.1 44 0 j = h j
section
variable {T : Nat → Int32} {l : Nat} {f g h : Nat → Int32} {P W k p : Nat}
theorem p_0 (M : hM) (i : Nat) (v : Int32) (hi : i < 16) : JX4_put 1 (nI 0) (nI i) v M = some (none, uI (uI M 6 1 i v) 5 1 0 (nI (i + 1))) := by
  have w : hwi (nI i) 0 15 = 1 := by
    rcases hw (nI i) 15 16 (by decide) (by decide) with ⟨j, _, _, e1⟩ | ⟨_, e2⟩
    · exact e1
    · exact absurd rfl (e2 i hi)
  unfold JX4_put
  rw [e_within, calI_s, if_neg (by decide), e_within, calI_s, w, if_neg (by decide), if_pos (by decide), ast_n (t := 6) (n := 1) i rfl (by decide) (show i < 16 from hi), ast_n (i := 0) (t := 5) (n := 1) 0 rfl (by decide) (by decide), ← nI_succ]
theorem p_12 (M : hM) (i : Nat) (v : Int32) (hi : i < 16) : JX4_put 1 (nI 12) (nI i) v M = some (none, uI (uI M 7 1 i v) 5 1 12 (nI (i + 1))) := by
  have w : hwi (nI i) 0 15 = 1 := by
    rcases hw (nI i) 15 16 (by decide) (by decide) with ⟨j, _, _, e1⟩ | ⟨_, e2⟩
    · exact e1
    · exact absurd rfl (e2 i hi)
  unfold JX4_put
  rw [e_within, calI_s, if_neg (by decide), e_within, calI_s, w, if_neg (by decide), if_neg (by decide), if_pos (by decide), ast_n (t := 7) (n := 1) i rfl (by decide) (show i < 16 from hi), ast_n (i := 12) (t := 5) (n := 1) 12 rfl (by decide) (by decide), ← nI_succ]
theorem p_k (M : hM) (v : Int32) (hk : 1 ≤ k ∧ k ≤ 11) : JX4_put 1 (nI k) 0 v M = some (none, uI M 5 1 k v) := by
  have w : hwi (nI k) 0 12 = 1 := by
    rcases hw (nI k) 12 13 (by decide) (by decide) with ⟨j, _, _, e1⟩ | ⟨_, e2⟩
    · exact e1
    · exact absurd rfl (e2 k (by omega))
  unfold JX4_put
  rw [e_within, calI_s, w, if_neg (by decide), e_within, calI_s, if_neg (by decide), if_neg (nI_ne0 (by omega) (by omega)), if_neg (fun z => by have := nI_ij (a := k) (b := 12) (by omega) (by decide) z; omega), ast_n (t := 5) (n := 1) k rfl (by decide) (show k < 13 by omega)]
theorem ck1 : ∀ k, k < 13 → 1 ≤ k → k ≤ 11 → ck_most.getD k 0 = 1 := by decide +kernel
/-- a clause: either both find a fault at s, or both take it -/
theorem one (hb : ∀ i, i < l → bw (T i) 1 255) (hl : l ≤ 240) (hk : k < 13) (hp : p ≤ l) (hv : CLV f g h P W) :
    (∃ s, s ≤ l ∧ (∀ M, CTx M T l → M.1 1 0 5 = nI p → ∃ M2, FL M M2 ∧ M2.1 1 0 6 = nI s ∧ ∀ K1 K2, JX6_readClause_79 K1 K2 (nI k) k FU 1 0 M = K1 M2) ∧ ∀ N, RTx N T l → N.1 40 0 3 = nI p → N.1 40 0 4 = -1 → ∃ N2, GL N N2 ∧ N2.1 40 0 4 = nI s ∧ JX12_clause (nI k) N = some (none, N2)) ∨
    (∃ f2 g2 h2 P2 W2 q, CLV f2 g2 h2 P2 W2 ∧ (k = 0 → 1 ≤ P2) ∧ (k ≠ 0 → P2 = P) ∧ q ≤ l ∧ (∀ M, CTx M T l → M.1 1 0 5 = nI p → CL M f g h P W → ∃ M2, FL M M2 ∧ CL M2 f2 g2 h2 P2 W2 ∧ M2.1 1 0 6 = M.1 1 0 6 ∧ M2.1 1 0 5 = nI q ∧ ∀ K1 K2, JX6_readClause_79 K1 K2 (nI k) k FU 1 0 M = K2 M2) ∧ ∀ N, RTx N T l → N.1 40 0 3 = nI p → N.1 40 0 4 = -1 → RCn N f g h P W → ∃ N2, GL N N2 ∧ RCn N2 f2 g2 h2 P2 W2 ∧ N2.1 40 0 4 = -1 ∧ Tok N2 T l (rn qB T l q) ∧ JX12_clause (nI k) N = some (none, N2)) := by
  have fu : FU = 99983 + 15 + 2 := rfl
  have c : k = 0 ∨ k = 12 ∨ (1 ≤ k ∧ k ≤ 11) := by omega
  rcases c with c | c | c
  · subst c
    rcases nums (k := 0) (R := 6) (Q := 43) hb hl hk (by decide) (by decide) (by decide) p_0 (fun N i v K hi => ast_n (t := 43) (n := 0) i rfl (by decide) (show i < 16 from hi)) 15 0 p (by decide) hp with ⟨s, x1, x2, x3⟩ | ⟨cnt, gg, q, y1, y2, y3, y4, y5, y6⟩
    · refine Or.inl ⟨s, x1, fun M h1 h2 => ?_, fun N h1 h2 h3 => ?_⟩
      · obtain ⟨M2, a1, a2, a3⟩ := x2 M h1 h2
        exact ⟨M2, FL_k (by decide) a1, a2, fun K1 K2 => by have z := a3 K1 K2 99983; rw [← fu] at z; exact z⟩
      · obtain ⟨N2, cc, a1, a2, a3⟩ := x3 N h1 h2 h3
        refine ⟨uI N2 42 0 0 cc, GL_t (GL_k (by decide) a1) (GL_u (by decide)), by rw [uI_o (by decide)]; exact a2, ?_⟩
        unfold JX12_clause JX12_clause_10 JX12_manyNumbers
        rw [if_pos (by decide), if_pos (by decide)]
        have z := a3 (fun v3 m12 => some (some (.inl v3), m12)) 99983
        rw [← fu] at z
        refine (congrArg (fun x => calI x _) z).trans ?_
        rw [calI_s, ast_n (t := 42) (n := 0) 0 rfl (by decide) (by decide)]
    · refine Or.inr ⟨upd f 0 (nI cnt), gg, h, cnt, W, q, ⟨⟨y2, pk_us, fun j hj => y4 j (by omega) hj⟩, ⟨hv.2.1.1, by rw [pk_un (by decide)]; exact hv.2.1.2.1, hv.2.1.2.2⟩, fun k a b => by rw [pk_un (by omega)]; exact hv.2.2 k a b⟩, fun _ => by omega, fun z => absurd rfl z, y3, fun M h1 h2 h3 => ?_, fun N h1 h2 h3 h4 => ?_⟩
      · obtain ⟨M2, a1, a2, a3, a4, a5, a6, a7⟩ := y5 M h1 h2
        refine ⟨M2, FL_k (by decide) a1, ⟨fun j hj => ?_, fun j hj => a6 j (by omega) hj, fun j hj => ?_⟩, a2, a3, fun K1 K2 => by have z := a7 K1 K2 99983; rw [← fu] at z; exact z⟩
        · by_cases e : j = 0
          · rw [e, pk_us]; exact a4
          · rw [pk_un e, a1.1 5 1 j (by omega)]; exact h3.1 j hj
        · rw [a1.1 7 1 j (by omega)]; exact h3.2.2 j hj
      · obtain ⟨N2, a1, a2, a3, a4, a5, a6⟩ := y6 N h1 h2 h3
        refine ⟨uI N2 42 0 0 (nI cnt), GL_t (GL_k (by decide) a1) (GL_u (by decide)), ⟨fun j hj => ?_, fun j hj => ?_, fun j hj => ?_⟩, by rw [uI_o (by decide)]; exact a2, ?_, ?_⟩
        · by_cases e : j = 0
          · rw [e, pk_us, uI_s]
          · rw [pk_un e, uI_n (Or.inr e), a1.1 42 0 j (by omega)]; exact h4.1 j hj
        · rw [uI_o (by decide)]; exact a5 j (by omega) hj
        · rw [uI_o (by decide), a1.1 44 0 j (by omega)]; exact h4.2.2 j hj
        · unfold Tok
          rw [uI_o (by decide), uI_o (by decide), uI_o (by decide), uI_o (by decide)]
          exact a3
        · unfold JX12_clause JX12_clause_10 JX12_manyNumbers
          rw [if_pos (by decide), if_pos (by decide)]
          have z := a6 (fun v3 m12 => some (some (.inl v3), m12)) 99983
          rw [← fu] at z
          refine (congrArg (fun x => calI x _) z).trans ?_
          rw [calI_s, ast_n (t := 42) (n := 0) 0 rfl (by decide) (by decide)]
  · subst c
    rcases nums (k := 12) (R := 7) (Q := 44) hb hl hk (by decide) (by decide) (by decide) p_12 (fun N i v K hi => ast_n (t := 44) (n := 0) i rfl (by decide) (show i < 16 from hi)) 15 0 p (by decide) hp with ⟨s, x1, x2, x3⟩ | ⟨cnt, gg, q, y1, y2, y3, y4, y5, y6⟩
    · refine Or.inl ⟨s, x1, fun M h1 h2 => ?_, fun N h1 h2 h3 => ?_⟩
      · obtain ⟨M2, a1, a2, a3⟩ := x2 M h1 h2
        exact ⟨M2, FL_k (by decide) a1, a2, fun K1 K2 => by have z := a3 K1 K2 99983; rw [← fu] at z; exact z⟩
      · obtain ⟨N2, cc, a1, a2, a3⟩ := x3 N h1 h2 h3
        refine ⟨uI N2 42 0 12 cc, GL_t (GL_k (by decide) a1) (GL_u (by decide)), by rw [uI_o (by decide)]; exact a2, ?_⟩
        unfold JX12_clause JX12_clause_10 JX12_manyNumbers
        rw [if_neg (by decide), if_pos (by decide), if_neg (by decide)]
        have z := a3 (fun v3 m12 => some (some (.inl v3), m12)) 99983
        rw [← fu] at z
        refine (congrArg (fun x => calI x _) z).trans ?_
        rw [calI_s, ast_n (t := 42) (n := 0) 12 rfl (by decide) (by decide)]
    · refine Or.inr ⟨upd f 12 (nI cnt), g, gg, P, cnt, q, ⟨⟨hv.1.1, by rw [pk_un (by decide)]; exact hv.1.2.1, hv.1.2.2⟩, ⟨y2, pk_us, fun j hj => y4 j (by omega) hj⟩, fun k a b => by rw [pk_un (by omega)]; exact hv.2.2 k a b⟩, fun z => absurd z (by decide), fun _ => rfl, y3, fun M h1 h2 h3 => ?_, fun N h1 h2 h3 h4 => ?_⟩
      · obtain ⟨M2, a1, a2, a3, a4, a5, a6, a7⟩ := y5 M h1 h2
        refine ⟨M2, FL_k (by decide) a1, ⟨fun j hj => ?_, fun j hj => ?_, fun j hj => a6 j (by omega) hj⟩, a2, a3, fun K1 K2 => by have z := a7 K1 K2 99983; rw [← fu] at z; exact z⟩
        · by_cases e : j = 12
          · rw [e, pk_us]; exact a4
          · rw [pk_un e, a1.1 5 1 j (by omega)]; exact h3.1 j hj
        · rw [a1.1 6 1 j (by omega)]; exact h3.2.1 j hj
      · obtain ⟨N2, a1, a2, a3, a4, a5, a6⟩ := y6 N h1 h2 h3
        refine ⟨uI N2 42 0 12 (nI cnt), GL_t (GL_k (by decide) a1) (GL_u (by decide)), ⟨fun j hj => ?_, fun j hj => ?_, fun j hj => ?_⟩, by rw [uI_o (by decide)]; exact a2, ?_, ?_⟩
        · by_cases e : j = 12
          · rw [e, pk_us, uI_s]
          · rw [pk_un e, uI_n (Or.inr e), a1.1 42 0 j (by omega)]; exact h4.1 j hj
        · rw [uI_o (by decide), a1.1 43 0 j (by omega)]; exact h4.2.1 j hj
        · rw [uI_o (by decide)]; exact a5 j (by omega) hj
        · unfold Tok
          rw [uI_o (by decide), uI_o (by decide), uI_o (by decide), uI_o (by decide)]
          exact a3
        · unfold JX12_clause JX12_clause_10 JX12_manyNumbers
          rw [if_neg (by decide), if_pos (by decide), if_neg (by decide)]
          have z := a6 (fun v3 m12 => some (some (.inl v3), m12)) 99983
          rw [← fu] at z
          refine (congrArg (fun x => calI x _) z).trans ?_
          rw [calI_s, ast_n (t := 42) (n := 0) 12 rfl (by decide) (by decide)]
  · have hm := ck1 k hk c.1 c.2
    have cb := ckb k hk
    have k0 : ¬ nI k = 0 := nI_ne0 (by omega) (by omega)
    have k12 : ¬ nI k = 12 := fun z => by have := nI_ij (a := k) (b := 12) (by omega) (by decide) z; omega
    obtain ⟨r1, r2, _, _⟩ := rn_b (q := qB) (T := T) (l := l) (l - p) p rfl hp
    have rdn := fun (M : hM) (h1 : CTx M T l) (h2 : M.1 1 0 5 = nI p) => c_rdn (lo := ck_low.getD k 0) (hi := ck_high.getD k 0) hp h1 h2
    have nxt := fun (N : hM) (h1 : RTx N T l) (h2 : N.1 40 0 3 = nI p) => m_nxt hb hp h1 h2
    generalize rn qB T l p = s at rdn nxt r1 r2
    by_cases good : tK T l s = 2 ∧ hwi (tV stK T l s) (ck_low.getD k 0) (ck_high.getD k 0) = 1
    · obtain ⟨c2, wi⟩ := good
      have w := tV_w c2 cb.1 cb.2
      have ev := w.2 wi
      have wr : hwi (tV stR T l s) (ck_low.getD k 0) (ck_high.getD k 0) = 1 := by rw [← w.1]; exact wi
      have e2 := (tE_le (T := T) r2).2
      refine Or.inr ⟨upd f k (tV stR T l s), g, h, P, W, tE T l s, ⟨⟨hv.1.1, by rw [pk_un (by omega)]; exact hv.1.2.1, hv.1.2.2⟩, ⟨hv.2.1.1, by rw [pk_un (by omega)]; exact hv.2.1.2.1, hv.2.1.2.2⟩, fun j a b => ?_⟩, fun z => absurd z (by omega), fun _ => rfl, e2, fun M h1 h2 h3 => ?_, fun N h1 h2 h3 h4 => ?_⟩
      · by_cases e : j = k
        · rw [e, pk_us]; exact hwi_bw wr
        · rw [pk_un e]; exact hv.2.2 j a b
      · obtain ⟨M2, a1, a2, a3, a4, a5⟩ := (rdn M h1 h2).1 ⟨c2, wi⟩
        refine ⟨uI M2 5 1 k (tV stR T l s), FL_t (FL_x a2) ⟨fun a b d q => uI_x (fun y => q (Or.inr ⟨by rw [y.1]; decide, by rw [y.1]; decide, y.2.1⟩)), rfl⟩, ⟨fun j hj => ?_, fun j hj => ?_, fun j hj => ?_⟩, by rw [uI_o (by decide)]; exact a4, by rw [uI_o (by decide)]; exact a3, fun K1 K2 => ?_⟩
        · by_cases e : j = k
          · rw [e, pk_us, uI_s]
          · rw [pk_un e, uI_n (Or.inr e), a2.1 5 1 j (by omega)]; exact h3.1 j hj
        · rw [uI_o (by decide), a2.1 6 1 j (by omega)]; exact h3.2.1 j hj
        · rw [uI_o (by decide), a2.1 7 1 j (by omega)]; exact h3.2.2 j hj
        · rw [show FU = 99998 + 1 + 1 from rfl]
          show bJX6_readClause_79 _ _ _ _ _ _ _ _ = _
          unfold bJX6_readClause_79 JX6_readClause_147 JX6_readClause_148
          rw [hm, if_neg (show ¬ (1 : Int32) ≤ 0 by decide), if_neg (show ¬ (1 : Int32) = 0 by decide), a1, calI_s, if_neg (show ¬ (1 : Int32) = 0 by decide), a5, ev, p_k M2 _ c, calV_s, if_pos (show (1 : Int32) ≤ 0 + 1 by decide)]
          show bJX6_readClause_79 _ _ _ _ _ _ _ _ = _
          unfold bJX6_readClause_79
          rw [hm, if_pos (show (1 : Int32) ≤ 0 + 1 by decide)]
      · obtain ⟨N1, a1, a2, a3⟩ := nxt N h1 h2
        have u1 : GL N1 (uI N1 42 0 k (tV stR T l s)) := GL_u (by decide)
        have x1 : RTx (uI N1 42 0 k (tV stR T l s)) T l := RTx_l (GL_t (GL_x a2) u1) h1
        obtain ⟨N3, b1, b2, b3⟩ := m_nxt hb e2 x1 (by rw [uI_o (by decide)]; exact a3.2.2.1)
        refine ⟨N3, GL_t (GL_x a2) (GL_t u1 (GL_x b2)), ⟨fun j hj => ?_, fun j hj => ?_, fun j hj => ?_⟩, ?_, b3, ?_⟩
        · rw [b2.1 42 0 j (by omega)]
          by_cases e : j = k
          · rw [e, pk_us, uI_s]
          · rw [pk_un e, uI_n (Or.inr e), a2.1 42 0 j (by omega)]; exact h4.1 j hj
        · rw [b2.1 43 0 j (by omega), uI_o (by decide), a2.1 43 0 j (by omega)]; exact h4.2.1 j hj
        · rw [b2.1 44 0 j (by omega), uI_o (by decide), a2.1 44 0 j (by omega)]; exact h4.2.2 j hj
        · rw [b2.1 40 0 4 (by decide), uI_o (by decide), a2.1 40 0 4 (by decide)]; exact h3
        · unfold JX12_clause
          rw [if_neg k0, if_neg k12, a1, calV_s, a3.2.1, if_pos c2, e_lowest N1 hk, calI_s, e_highest N1 hk, calI_s, a3.2.2.2.1 c2, e_in, calI_s, wr, if_neg (show ¬ (1 : Int32) = 0 by decide), ast_n (t := 42) (n := 0) k rfl (by decide) (show k < 13 from hk), a3.2.2.2.1 c2, b1, calV_s]
    · refine Or.inl ⟨s, r2, fun M h1 h2 => ?_, fun N h1 h2 h3 => ?_⟩
      · obtain ⟨M2, a1, a2, a3⟩ := (rdn M h1 h2).2 good
        refine ⟨M2, FL_x a2, a3, fun K1 K2 => ?_⟩
        rw [show FU = 99999 + 1 from rfl]
        show bJX6_readClause_79 _ _ _ _ _ _ _ _ = _
        unfold bJX6_readClause_79
        rw [hm, if_neg (show ¬ (1 : Int32) ≤ 0 by decide), if_neg (show ¬ (1 : Int32) = 0 by decide), a1, calI_s, if_pos rfl]
      · obtain ⟨N1, a1, a2, a3⟩ := nxt N h1 h2
        have f1 : N1.1 40 0 4 = -1 := by rw [a2.1 40 0 4 (by decide)]; exact h3
        have e67 : JX12_clause_67 N1 = some (none, uI N1 40 0 4 (nI s)) := by
          unfold JX12_clause_67
          rw [m_bad f1, calV_s, a3.1]
        refine ⟨uI N1 40 0 4 (nI s), GL_t (GL_x a2) GL_4, uI_s, ?_⟩
        unfold JX12_clause
        rw [if_neg k0, if_neg k12, a1, calV_s, a3.2.1]
        by_cases c2 : tK T l s = 2
        · have w := tV_w c2 cb.1 cb.2
          rw [if_pos c2, e_lowest N1 hk, calI_s, e_highest N1 hk, calI_s, a3.2.2.2.1 c2, e_in, calI_s, ← w.1, (hwi_b _ _ _).resolve_right (fun z => good ⟨c2, z⟩), if_pos rfl]
          exact e67
        · rw [if_neg c2]
          exact e67
end
