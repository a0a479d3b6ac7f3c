/-! the numbers of one step -/
def HID : Int32 := -1000000000
def krA (m20 : hM) : hR := calI (JX6_refuseAt (m20.1 1 0 5) m20) fun x22 m21 => jretZ x22 m21
def krB (m23 : hM) : hR := jretZ 0 m23
def krC (m24 : hM) : hR := jretZ 1 m24
theorem krA_s {M : hM} {s : Int32} (h : M.1 1 0 5 = s) : krA M = some (some (.inl 0), uI M 1 0 6 s) := by
  unfold krA JX6_refuseAt
  rw [h, stI_s, jretZ_0, calI_s, jretZ_0]
theorem e_sN {k : Nat} (o : Int32) (N : hM) (hk : k < 8) : JX12_stepNumbers (nI k) o N = JX12_stepNumbers_25 (nI k) o (nI (nmS k)) N := by
  have ne : ∀ r, r < 8 → k ≠ r → ¬ nI k = nI r := fun r hr h z => h (nI_ij (by omega) (by omega) z)
  unfold JX12_stepNumbers
  by_cases c3 : k = 3
  · subst c3; rw [if_pos (show nI 3 = 3 from rfl)]; rfl
  rw [if_neg (show ¬ nI k = 3 from ne 3 (by decide) c3)]
  by_cases c4 : k = 4
  · subst c4; rw [if_pos (show nI 4 = 4 from rfl)]; rfl
  rw [if_neg (show ¬ nI k = 4 from ne 4 (by decide) c4)]
  by_cases c7 : k = 7
  · subst c7; rw [if_pos (show nI 7 = 7 from rfl)]; rfl
  rw [if_neg (show ¬ nI k = 7 from ne 7 (by decide) c7)]
  unfold nmS
  rw [if_neg c3, if_neg (by omega)]
  rfl
theorem SV_1 {k : Nat} (hk : k < 8) (h : nmS k = 1) {v b : Int32} (w : hwi v (loS k 0) (hiS k 0) = 1) : SV (nI k) v b := by
  have q := hwi_bw w
  have c : k = 0 ∨ k = 1 ∨ k = 2 ∨ k = 5 ∨ k = 6 := by
    rcases Nat.lt_or_ge k 3 with a | a
    · omega
    · by_cases e3 : k = 3
      · rw [e3] at h; exact absurd h (by decide)
      by_cases e4 : k = 4
      · rw [e4] at h; exact absurd h (by decide)
      by_cases e7 : k = 7
      · rw [e7] at h; exact absurd h (by decide)
      omega
  clear w h hk
  rcases c with c | c | c | c | c <;> subst c
  · rw [show (loS 0 0).toInt = 1 by decide, show (hiS 0 0).toInt = 60 by decide] at q; exact Or.inl ⟨rfl, q⟩
  · rw [show (loS 1 0).toInt = 0 by decide, show (hiS 1 0).toInt = 3 by decide] at q; exact Or.inr (Or.inl ⟨rfl, q⟩)
  · rw [show (loS 2 0).toInt = 0 by decide, show (hiS 2 0).toInt = 1 by decide] at q; exact Or.inr (Or.inr (Or.inl ⟨rfl, q⟩))
  · rw [show (loS 5 0).toInt = 0 by decide, show (hiS 5 0).toInt = 4 by decide] at q; exact Or.inr (Or.inr (Or.inr (Or.inr (Or.inr (Or.inl ⟨rfl, q⟩)))))
  · rw [show (loS 6 0).toInt = 0 by decide, show (hiS 6 0).toInt = 99 by decide] at q; exact Or.inr (Or.inr (Or.inr (Or.inr (Or.inr (Or.inr (Or.inl ⟨rfl, q⟩))))))
theorem SV_2 {v b : Int32} (w : hwi v (loS 3 0) (hiS 3 0) = 1) (w2 : hwi b (loS 3 1) (hiS 3 1) = 1) : SV (nI 3) v b := by
  have q := hwi_bw w
  have q2 := hwi_bw w2
  rw [show (loS 3 0).toInt = 0 by decide, show (hiS 3 0).toInt = 5 by decide] at q
  rw [show (loS 3 1).toInt = -255 by decide, show (hiS 3 1).toInt = 255 by decide] at q2
  exact Or.inr (Or.inr (Or.inr (Or.inl ⟨rfl, q, q2⟩)))
theorem SV_0 {k : Nat} (hk : k < 8) (h : nmS k = 0) {v b : Int32} : SV (nI k) v b := by
  have c : k = 4 ∨ k = 7 := by
    unfold nmS at h
    by_cases c : k = 3
    · rw [if_pos c] at h; omega
    · rw [if_neg c] at h
      by_cases c : k = 4 ∨ k = 7
      · exact c
      · rw [if_neg c] at h; omega
  rcases c with c | c <;> subst c
  · exact Or.inr (Or.inr (Or.inr (Or.inr (Or.inl rfl))))
  · exact Or.inr (Or.inr (Or.inr (Or.inr (Or.inr (Or.inr (Or.inr rfl))))))
section
variable {T : Nat → Int32} {l p : Nat} {k i o : Nat}
theorem c_62 {K83 K109 K129 : hM → hR} {v : Int32} {M : hM} (F : Nat) : JX6_readStep_62 K83 K109 K129 k (F + 1) v M = bJX6_readStep_62 (fun v3 m => JX6_readStep_62 K83 K109 K129 k F v3 m) K83 K109 K129 k v M := rfl
theorem m_29 {K48 K87 K117 : hM → hR} {v1 v2 v3 v : Int32} {M : hM} (F : Nat) : JX12_stepNumbers_29 K48 K87 K117 v1 v2 v3 (F + 1) v M = bJX12_stepNumbers_29 (fun v4 m => JX12_stepNumbers_29 K48 K87 K117 v1 v2 v3 F v4 m) K48 K87 K117 v1 v2 v3 v M := rfl
theorem m_87 {N : hM} {s : Int32} (h : N.1 40 0 4 = -1) (h2 : N.1 40 0 6 = s) : JX12_stepNumbers_87 N = some (none, uI N 40 0 4 s) := by
  unfold JX12_stepNumbers_87
  rw [m_bad h, calV_s, h2]
theorem GS1_4 {M : hM} {x : Int32} : GS1 o M (uI M 40 0 4 x) := ⟨fun a b c q => uI_x (fun y => q (Or.inl ⟨y.1, Or.inr (Or.inl y.2.2)⟩)), fun _ _ _ _ => rfl⟩
theorem nmb (hb : ∀ i, i < l → bw (T i) 1 255) (hl : l ≤ 240) (hp : p ≤ l) (hk : k < 8) (hi : i < 12) (ho : o + 3 ≤ 180) :
    (∃ s, s ≤ l ∧ (∀ M, CTx M T l → M.1 1 0 5 = nI p → M.1 8 4 3 = nI (i + 1) → ∃ M2, FS1 i M M2 ∧ M2.1 1 0 6 = nI s ∧ JX6_readStep_62 krA krB krC k FU 0 M = some (some (.inl 0), M2)) ∧
      ∀ N, RTx N T l → N.1 40 0 3 = nI p → N.1 40 0 4 = -1 → ∃ N2, GS1 o N N2 ∧ N2.1 40 0 4 = nI s ∧ JX12_stepNumbers (nI k) (nI o) N = some (none, N2)) ∨
    (∃ a b q, SV (nI k) a b ∧ q ≤ l ∧ (∀ M, CTx M T l → M.1 1 0 5 = nI p → M.1 8 4 3 = nI (i + 1) → M.1 10 4 i = HID → M.1 11 4 i = HID → ∃ M2, FS1 i M M2 ∧ M2.1 10 4 i = a ∧ M2.1 11 4 i = b ∧ M2.1 1 0 6 = M.1 1 0 6 ∧ M2.1 1 0 5 = nI q ∧ JX6_readStep_62 krA krB krC k FU 0 M = some (some (.inl 1), M2)) ∧
      ∀ N, RTx N T l → N.1 40 0 3 = nI p → N.1 40 0 4 = -1 → N.1 48 0 (o + 1) = HID → N.1 48 0 (o + 2) = HID → ∃ N2, GS1 o N N2 ∧ N2.1 48 0 (o + 1) = a ∧ N2.1 48 0 (o + 2) = b ∧ N2.1 40 0 4 = -1 ∧ Tok N2 T l (rn qB T l q) ∧ JX12_stepNumbers (nI k) (nI o) N = some (none, N2)) := by
  have fu : FU = 99997 + 1 + 1 + 1 := rfl
  have tn := tsN k hk
  have c : nmS k = 0 ∨ nmS k = 1 ∨ nmS k = 2 := by have := tn.2; omega
  rcases c with c | c | c
  · refine Or.inr ⟨HID, HID, p, SV_0 hk c, hp, fun M h1 h2 h3 h4 h5 => ?_, fun N h1 h2 h3 h4 h5 => ?_⟩
    · refine ⟨M, FS1_x (Cx_r M), h4, h5, rfl, h2, ?_⟩
      rw [fu, c_62]
      unfold bJX6_readStep_62
      rw [tn.1, c, if_pos (by decide)]
      exact jretZ_1
    · obtain ⟨N1, a1, a2, a3⟩ := m_nxt hb hp h1 h2
      refine ⟨N1, GS1_x a2, by rw [a2.1 48 0 (o + 1) (by omega)]; exact h4, by rw [a2.1 48 0 (o + 2) (by omega)]; exact h5, by rw [a2.1 40 0 4 (by decide)]; exact h3, a3, ?_⟩
      rw [e_sN _ _ hk, c]
      unfold JX12_stepNumbers_25
      rw [fu, m_29]
      unfold bJX12_stepNumbers_29
      rw [if_pos (show nI 0 ≤ 0 by decide)]
      show (if nI 0 = 0 then calV (JX12_next N) (fun m15 => some (none, m15)) else some (none, N)) = _
      rw [if_pos (show nI 0 = 0 from rfl), a1, calV_s]
  · have ge1 : ¬ nI 1 ≤ 0 := by decide
    rcases rd92 (j := 0) (T := T) (i := i) (o := o) hb hp hk (by omega) hi ho with ⟨s, x1, x2, x3⟩ | ⟨v, q, x1, x0, x2, x3⟩
    · refine Or.inl ⟨s, x1, fun M h1 h2 h3 => ?_, fun N h1 h2 h3 => ?_⟩
      · obtain ⟨M2, a1, a2, a3⟩ := x2 M h1 h2
        refine ⟨M2, a1, a2, ?_⟩
        rw [fu, c_62]
        unfold bJX6_readStep_62
        rw [tn.1, c, if_neg ge1, if_pos (by decide)]
        refine (a3 _ _ _ _).trans ?_
        exact jretZ_0
      · obtain ⟨N2, a1, a2, a3, a4⟩ := x3 N h1 h2
        refine ⟨uI N2 40 0 4 (nI s), GS1_t a1 GS1_4, uI_s, ?_⟩
        rw [e_sN _ _ hk, c]
        unfold JX12_stepNumbers_25
        rw [fu, m_29]
        unfold bJX12_stepNumbers_29
        rw [if_neg ge1, if_pos (show (0 : Int32) ≤ 0 by decide)]
        refine (a4 _ _ _ _ _).trans ?_
        exact m_87 (a2.trans h3) a3
    · refine Or.inr ⟨v, HID, q, SV_1 hk c x0, x1, fun M h1 h2 h3 h4 h5 => ?_, fun N h1 h2 h3 h4 h5 => ?_⟩
      · obtain ⟨M1, a1, a2, a3, a4⟩ := x2 M h1 h2 h3
        refine ⟨uI M1 10 4 i v, FS1_t (FS1_x a1) (FS1_u (j := 0) (by decide)), uI_s, by rw [uI_o (by decide), a1.1 11 4 i (by omega)]; exact h5, by rw [uI_o (by decide)]; exact a2, by rw [uI_o (by decide)]; exact a3, ?_⟩
        rw [fu, c_62]
        unfold bJX6_readStep_62
        rw [tn.1, c, if_neg ge1, if_pos (by decide)]
        refine (a4 _ _ _ _).trans ?_
        show JX6_readStep_62 krA krB krC k (99997 + 1 + 1) (nI 1) (uI M1 10 4 i v) = _
        rw [c_62]
        unfold bJX6_readStep_62
        rw [tn.1, c, if_pos (by decide)]
        exact jretZ_1
      · obtain ⟨N1, N2, a1, a2, a3, a4⟩ := x3 N h1 h2
        refine ⟨N2, GS1_t (GS1_x a1) (GS1_t (GS1_u (j := 0) (by decide)) (GS1_x a2)), by rw [a2.1 48 0 (o + 1) (by omega)]; exact uI_s, by rw [a2.1 48 0 (o + 2) (by omega), uI_n (by omega), a1.1 48 0 (o + 2) (by omega)]; exact h5, by rw [a2.1 40 0 4 (by decide), uI_o (by decide), a1.1 40 0 4 (by decide)]; exact h3, a3, ?_⟩
        rw [e_sN _ _ hk, c]
        unfold JX12_stepNumbers_25
        rw [fu, m_29]
        unfold bJX12_stepNumbers_29
        rw [if_neg ge1, if_pos (show (0 : Int32) ≤ 0 by decide)]
        refine (a4 _ _ _ _ _).trans ?_
        show JX12_stepNumbers_29 _ _ _ (nI k) (nI o) (nI 1) (99997 + 1 + 1) (nI 1) N2 = _
        rw [m_29]
        unfold bJX12_stepNumbers_29
        rw [if_pos (show nI 1 ≤ nI 1 by decide)]
        exact if_neg (show ¬ nI 1 = 0 by decide)
  · have k3 : k = 3 := by
      unfold nmS at c
      by_cases e : k = 3
      · exact e
      · rw [if_neg e] at c
        by_cases e : k = 4 ∨ k = 7
        · rw [if_pos e] at c; omega
        · rw [if_neg e] at c; omega
    subst k3
    have n2 : nmS 3 = 2 := rfl
    have ge1 : ¬ nI 2 ≤ 0 := by decide
    have ge2 : ¬ nI 2 ≤ nI 1 := by decide
    rcases rd92 (j := 0) (T := T) (i := i) (o := o) hb hp hk (by omega) hi ho with ⟨s, x1, x2, x3⟩ | ⟨v, q, x1, x0, x2, x3⟩
    · refine Or.inl ⟨s, x1, fun M h1 h2 h3 => ?_, fun N h1 h2 h3 => ?_⟩
      · obtain ⟨M2, a1, a2, a3⟩ := x2 M h1 h2
        refine ⟨M2, a1, a2, ?_⟩
        rw [fu, c_62]
        unfold bJX6_readStep_62
        rw [tn.1, n2, if_neg ge1, if_pos (by decide)]
        refine (a3 _ _ _ _).trans ?_
        exact jretZ_0
      · obtain ⟨N2, a1, a2, a3, a4⟩ := x3 N h1 h2
        refine ⟨uI N2 40 0 4 (nI s), GS1_t a1 GS1_4, uI_s, ?_⟩
        rw [e_sN _ _ hk, n2]
        unfold JX12_stepNumbers_25
        rw [fu, m_29]
        unfold bJX12_stepNumbers_29
        rw [if_neg ge1, if_pos (show (0 : Int32) ≤ 0 by decide)]
        refine (a4 _ _ _ _ _).trans ?_
        exact m_87 (a2.trans h3) a3
    have rq := rn_b (q := qB) (T := T) (l := l) (l - q) q rfl x1
    have cst : ∀ M, CTx M T l → M.1 1 0 5 = nI p → M.1 8 4 3 = nI (i + 1) → ∃ M1, FS1 i M M1 ∧ CTx M1 T l ∧ M1.1 8 4 3 = nI (i + 1) ∧ M1.1 10 4 i = v ∧ M1.1 11 4 i = M.1 11 4 i ∧ M1.1 1 0 6 = M.1 1 0 6 ∧ M1.1 1 0 5 = nI q ∧ JX6_readStep_62 krA krB krC 3 FU 0 M = bJX6_readStep_62 (fun v3 m => JX6_readStep_62 krA krB krC 3 (99997 + 1) v3 m) krA krB krC 3 (nI 1) M1 := by
      intro M h1 h2 h3
      obtain ⟨M1, a1, a2, a3, a4⟩ := x2 M h1 h2 h3
      have f1 : FS1 i M (uI M1 10 4 i v) := FS1_t (FS1_x a1) (FS1_u (j := 0) (by decide))
      refine ⟨uI M1 10 4 i v, f1, CTx_1 f1 h1, by rw [uI_o (by decide), a1.1 8 4 3 (by decide)]; exact h3, uI_s, by rw [uI_o (by decide), a1.1 11 4 i (by omega)], by rw [uI_o (by decide)]; exact a2, by rw [uI_o (by decide)]; exact a3, ?_⟩
      rw [fu, c_62]
      conv => lhs; unfold bJX6_readStep_62
      rw [tn.1, n2, if_neg ge1, if_pos (by decide)]
      refine (a4 _ _ _ _).trans ?_
      rfl
    have mst : ∀ N, RTx N T l → N.1 40 0 3 = nI p → ∃ N1, GS1 o N N1 ∧ RTx N1 T l ∧ N1.1 48 0 (o + 1) = v ∧ N1.1 48 0 (o + 2) = N.1 48 0 (o + 2) ∧ N1.1 40 0 4 = N.1 40 0 4 ∧ Tok N1 T l (rn qB T l q) ∧ JX12_stepNumbers (nI 3) (nI o) N = bJX12_stepNumbers_29 (fun v4 m => JX12_stepNumbers_29 (fun m10 => calV (JX12_bad m10) fun m11 => some (none, m11)) (fun m12 => JX12_stepNumbers_87 m12) (fun m14 => if nI 2 = 0 then (calV (JX12_next m14) fun m15 => some (none, m15)) else (some (none, m14))) (nI 3) (nI o) (nI 2) (99997 + 1) v4 m) (fun m10 => calV (JX12_bad m10) fun m11 => some (none, m11)) (fun m12 => JX12_stepNumbers_87 m12) (fun m14 => if nI 2 = 0 then (calV (JX12_next m14) fun m15 => some (none, m15)) else (some (none, m14))) (nI 3) (nI o) (nI 2) (nI 1) N1 := by
      intro N h1 h2
      obtain ⟨N1, N2, a1, a2, a3, a4⟩ := x3 N h1 h2
      have g1 : GS1 o N N2 := GS1_t (GS1_x a1) (GS1_t (GS1_u (j := 0) (by decide)) (GS1_x a2))
      refine ⟨N2, g1, RTx_1 g1 h1, by rw [a2.1 48 0 (o + 1) (by omega)]; exact uI_s, by rw [a2.1 48 0 (o + 2) (by omega), uI_n (by omega), a1.1 48 0 (o + 2) (by omega)], by rw [a2.1 40 0 4 (by decide), uI_o (by decide), a1.1 40 0 4 (by decide)], a3, ?_⟩
      rw [e_sN _ _ hk, n2]
      unfold JX12_stepNumbers_25
      rw [fu, m_29]
      conv => lhs; unfold bJX12_stepNumbers_29
      rw [if_neg ge1, if_pos (show (0 : Int32) ≤ 0 by decide)]
      refine (a4 _ _ _ _ _).trans ?_
      rfl
    have k4 := tK_x (T := T) (l := l) (s := rn qB T l q) (x := 44) (r := 4) (Or.inr ⟨rfl, rfl⟩)
    by_cases t4 : tK T l (rn qB T l q) = 4
    · have te := k4.2 t4
      have hq2 : rn qB T l q + 1 ≤ l := by omega
      have c92 : ∀ M1 : hM, CTx M1 T l → M1.1 1 0 5 = nI q → bJX6_readStep_62 (fun v3 m => JX6_readStep_62 krA krB krC 3 (99997 + 1) v3 m) krA krB krC 3 (nI 1) M1 = JX6_readStep_92 (fun v3 m => JX6_readStep_62 krA krB krC 3 (99997 + 1) v3 m) krA krB krC 3 (nI 1) (uI M1 1 0 5 (nI (rn qB T l q + 1))) := by
        intro M1 h1 h2
        conv => lhs; unfold bJX6_readStep_62
        rw [tn.1, n2, if_neg ge2, if_neg (show ¬ nI 1 ≤ 0 by decide), c_passB (by decide) x1 h1 h2, if_pos (k4.1.mp t4), calI_s, if_neg (by decide)]
      rcases rd92 (j := 1) (T := T) (p := rn qB T l q + 1) (i := i) (o := o) hb hq2 hk (by omega) hi ho with ⟨s, y1, y2, y3⟩ | ⟨v2, q2, y1, y0, y2, y3⟩
      · refine Or.inl ⟨s, y1, fun M h1 h2 h3 => ?_, fun N h1 h2 h3 => ?_⟩
        · obtain ⟨M1, a1, a2, a3, a4, a5, a6, a7, a8⟩ := cst M h1 h2 h3
          obtain ⟨M2, b1, b2, b3⟩ := y2 (uI M1 1 0 5 (nI (rn qB T l q + 1))) (CTx_u a2 (by decide)) uI_s
          refine ⟨M2, FS1_t a1 (FS1_t (FS1_x (Cx_u (Or.inl rfl))) b1), b2, ?_⟩
          rw [a8, c92 M1 a2 a7, b3]
          exact jretZ_0
        · obtain ⟨N1, a1, a2, a3, a4, a5, a6, a7⟩ := mst N h1 h2
          obtain ⟨N2, b1, b2, b3, b4⟩ := y3 N1 a2 (by rw [← te.1]; exact a6.2.2.1)
          refine ⟨uI N2 40 0 4 (nI s), GS1_t a1 (GS1_t b1 GS1_4), uI_s, ?_⟩
          rw [a7]
          unfold bJX12_stepNumbers_29
          rw [if_neg ge2, if_neg (show ¬ nI 1 ≤ 0 by decide), a6.2.1, if_pos t4, b4]
          exact m_87 (b2.trans (a5.trans h3)) b3
      · refine Or.inr ⟨v, v2, q2, SV_2 x0 y0, y1, fun M h1 h2 h3 h4 h5 => ?_, fun N h1 h2 h3 h4 h5 => ?_⟩
        · obtain ⟨M1, a1, a2, a3, a4, a5, a6, a7, a8⟩ := cst M h1 h2 h3
          obtain ⟨M2, b1, b2, b3, b4⟩ := y2 (uI M1 1 0 5 (nI (rn qB T l q + 1))) (CTx_u a2 (by decide)) uI_s (by rw [uI_o (by decide)]; exact a3)
          refine ⟨uI M2 11 4 i v2, FS1_t a1 (FS1_t (FS1_x (Cx_u (Or.inl rfl))) (FS1_t (FS1_x b1) (FS1_u (j := 1) (by decide)))), ?_, uI_s, ?_, by rw [uI_o (by decide)]; exact b3, ?_⟩
          · rw [uI_o (by decide), b1.1 10 4 i (by omega), uI_o (by decide)]; exact a4
          · rw [uI_o (by decide), b2, uI_n (by decide)]; exact a6
          · rw [a8, c92 M1 a2 a7, b4]
            show JX6_readStep_62 krA krB krC 3 (99997 + 1) (nI 2) (uI M2 11 4 i v2) = _
            rw [c_62]
            unfold bJX6_readStep_62
            rw [tn.1, n2, if_pos (by decide)]
            exact jretZ_1
        · obtain ⟨N1, a1, a2, a3, a4, a5, a6, a7⟩ := mst N h1 h2
          obtain ⟨N2, N3, b1, b2, b3, b4⟩ := y3 N1 a2 (by rw [← te.1]; exact a6.2.2.1)
          refine ⟨N3, GS1_t a1 (GS1_t (GS1_x b1) (GS1_t (GS1_u (j := 1) (by decide)) (GS1_x b2))), ?_, ?_, ?_, b3, ?_⟩
          · rw [b2.1 48 0 (o + 1) (by omega), uI_n (by omega), b1.1 48 0 (o + 1) (by omega)]; exact a3
          · rw [b2.1 48 0 (o + 2) (by omega)]; exact uI_s
          · rw [b2.1 40 0 4 (by decide), uI_o (by decide), b1.1 40 0 4 (by decide), a5]; exact h3
          · rw [a7]
            unfold bJX12_stepNumbers_29
            rw [if_neg ge2, if_neg (show ¬ nI 1 ≤ 0 by decide), a6.2.1, if_pos t4, b4]
            show JX12_stepNumbers_29 _ _ _ (nI 3) (nI o) (nI 2) (99997 + 1) (nI 2) N3 = _
            rw [m_29]
            unfold bJX12_stepNumbers_29
            rw [if_pos (show nI 2 ≤ nI 2 by decide)]
            exact if_neg (show ¬ nI 2 = 0 by decide)
    · refine Or.inl ⟨rn qB T l q, rq.2.1, fun M h1 h2 h3 => ?_, fun N h1 h2 h3 => ?_⟩
      · obtain ⟨M1, a1, a2, a3, a4, a5, a6, a7, a8⟩ := cst M h1 h2 h3
        refine ⟨uI (uI M1 1 0 5 (nI (rn qB T l q))) 1 0 6 (nI (rn qB T l q)), FS1_t a1 (FS1_t (FS1_x (Cx_u (Or.inl rfl))) (FS1_x (Cx_u (Or.inr (Or.inl rfl))))), uI_s, ?_⟩
        rw [a8]
        unfold bJX6_readStep_62
        rw [tn.1, n2, if_neg ge2, if_neg (show ¬ nI 1 ≤ 0 by decide), c_passB (by decide) x1 a2 a7, if_neg (fun z => t4 (k4.1.mpr z)), calI_s, if_pos rfl]
        exact krA_s uI_s
      · obtain ⟨N1, a1, a2, a3, a4, a5, a6, a7⟩ := mst N h1 h2
        refine ⟨uI N1 40 0 4 (nI (rn qB T l q)), GS1_t a1 GS1_4, uI_s, ?_⟩
        rw [a7]
        unfold bJX12_stepNumbers_29
        rw [if_neg ge2, if_neg (show ¬ nI 1 ≤ 0 by decide), a6.2.1, if_neg t4]
        show calV (JX12_bad N1) (fun m11 => some (none, m11)) = _
        rw [m_bad (a5.trans h3), calV_s, a6.1]
end
