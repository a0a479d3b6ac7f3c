/-! a whole line -/
def ResL (l : Nat) (C D : hM → Prop) (cf df : hM → hR) : Prop :=
  (∃ s, s ≤ l ∧ (∀ M, C M → ∃ M2, FCl M M2 ∧ cf M = some (some (.inl (nI s)), M2)) ∧ ∀ N, D N → ∃ N2, GL N N2 ∧ df N = some (some (.inl (nI s)), N2)) ∨
  (∃ f g h P W, CLV f g h P W ∧ 1 ≤ P ∧ (∀ M, C M → ∃ M2, FCl M M2 ∧ CL M2 f g h P W ∧ cf M = some (some (.inl (-1)), M2)) ∧ ∀ N, D N → ∃ N2, GL N N2 ∧ RCn N2 f g h P W ∧ df N = some (some (.inl (-1)), N2))
theorem ResL_st {l : Nat} {C D C' D' : hM → Prop} {cf df cf' df' : hM → hR} (hc : ∀ M, C M → ∃ M', FCl M M' ∧ C' M' ∧ cf M = cf' M') (hd : ∀ N, D N → ∃ N', GL N N' ∧ D' N' ∧ df N = df' N') (h : ResL l C' D' cf' df') : ResL l C D cf df := by
  rcases h with ⟨s, a1, a2, a3⟩ | ⟨f, g, h, P, W, a1, a2, a3, a4⟩
  · refine Or.inl ⟨s, a1, fun M hM => ?_, fun N hN => ?_⟩
    · obtain ⟨M', b1, b2, b3⟩ := hc M hM
      obtain ⟨M2, c1, c2⟩ := a2 M' b2
      exact ⟨M2, FCl_t b1 c1, b3.trans c2⟩
    · obtain ⟨M', b1, b2, b3⟩ := hd N hN
      obtain ⟨M2, c1, c2⟩ := a3 M' b2
      exact ⟨M2, GL_t b1 c1, b3.trans c2⟩
  · refine Or.inr ⟨f, g, h, P, W, a1, a2, fun M hM => ?_, fun N hN => ?_⟩
    · obtain ⟨M', b1, b2, b3⟩ := hc M hM
      obtain ⟨M2, c1, c2, c3⟩ := a3 M' b2
      exact ⟨M2, FCl_t b1 c1, c2, b3.trans c3⟩
    · obtain ⟨M', b1, b2, b3⟩ := hd N hN
      obtain ⟨M2, c1, c2, c3⟩ := a4 M' b2
      exact ⟨M2, GL_t b1 c1, c2, b3.trans c3⟩
def LCl (T : Nat → Int32) (l p : Nat) (S : Nat → Bool) (f g h : Nat → Int32) (P W : Nat) (M : hM) : Prop := CTx M T l ∧ M.1 1 0 5 = nI p ∧ M.1 1 0 6 = -1 ∧ (∀ j, j < 13 → M.1 3 0 j = if S j = true then 1 else 0) ∧ CL M f g h P W
def LDl (T : Nat → Int32) (l p : Nat) (f g h : Nat → Int32) (P W : Nat) (N : hM) : Prop := RTx N T l ∧ N.1 40 0 3 = nI p ∧ N.1 40 0 4 = -1 ∧ RCn N f g h P W
theorem RCn_x {M M2 : hM} {f g h : Nat → Int32} {P W : Nat} (h1 : Nx M M2) (q : RCn M f g h P W) : RCn M2 f g h P W := ⟨fun j hj => by rw [h1.1 42 0 j (by omega)]; exact q.1 j hj, fun j hj => by rw [h1.1 43 0 j (by omega)]; exact q.2.1 j hj, fun j hj => by rw [h1.1 44 0 j (by omega)]; exact q.2.2 j hj⟩
section
variable {T : Nat → Int32} {l : Nat} {f g h : Nat → Int32} {P W p : Nat} {S : Nat → Bool} {v1 : Int32}
theorem c_go {K : hM → hR} {M : hM} {n : Nat} (F : Nat) (hn : n ≤ 13) : JX6_faultOfLine_42 K (F + 1) 1 (nI n) M = calI (JX6_readClause M) fun x7 m6 => JX6_faultOfLine_42 K F x7 (nI (n + 1)) m6 := by
  show bJX6_faultOfLine_42 _ _ _ _ _ = _
  unfold bJX6_faultOfLine_42
  have n2 : ¬ (13 : Int32) < nI n := by rw [Int32.lt_iff_toInt_lt, nI_toInt (by omega)]; exact fun z => by have : (13 : Int) < (n : Int) := z; omega
  rw [if_neg n2, if_neg (show ¬ (1 : Int32) = 0 by decide), nI_succ]
theorem m_go {K : Int32 → hM → hR} {N : hM} (F : Nat) (h4 : N.1 40 0 4 = -1) : JX12_readLine_38 K (F + 1) v1 1 N = calV (JX12_next N) fun m7 =>
    calI (JX12_wordAsked 0 m7) fun x9 m8 =>
    if x9 = (-1) then (JX12_readLine_73 (fun v1 v2 m => JX12_readLine_38 K F v1 v2 m) K v1 m8) else (calI (JX12_has v1 x9 m8) fun x12 m11 =>
    if x12 = 0 then (lt (v1 ||| ((1 : Int32) <<< (x9 &&& 31))) fun x13 =>
    calV (JX12_clause x9 m11) fun m14 =>
    JX12_readLine_91 (fun v1 v2 m => JX12_readLine_38 K F v1 v2 m) K x13 m14) else (JX12_readLine_73 (fun v1 v2 m => JX12_readLine_38 K F v1 v2 m) K v1 m11)) := by
  show bJX12_readLine_38 _ _ _ _ _ = _
  unfold bJX12_readLine_38
  rw [if_neg (show ¬ (1 : Int32) = 0 by decide), if_pos h4]
theorem m_73 {K : Int32 → hM → hR} {N : hM} {s : Nat} (F : Nat) (hs : s ≤ 240) (h4 : N.1 40 0 4 = -1) (h6 : N.1 40 0 6 = nI s) : JX12_readLine_73 (fun v1 v2 m => JX12_readLine_38 K (F + 1) v1 v2 m) K v1 N = K v1 (uI N 40 0 4 (nI s)) := by
  unfold JX12_readLine_73
  rw [m_bad h4, calV_s, h6, m_91 hs uI_s, m_no]
/-- no clause that is new -/
theorem lns_r (hb : ∀ i, i < l → bw (T i) 1 255) (hl : l ≤ 240) (hp : p ≤ l) (hf : ∀ j, j < 13 → (hbt v1 (nI j) = 1 ↔ S j = true)) {n : Nat} (hn : n ≤ 13) (F G : Nat)
    (h6 : ∀ k, k < 13 → ffn (mtC T l (rn qB T l p)) 13 0 = nI k → S k = true) :
    ResL l (LCl T l p S f g h P W) (LDl T l p f g h P W) (fun M => JX6_faultOfLine_42 (fun m8 => JX6_faultOfLine_63 m8) (F + 2) 1 (nI n) M) (fun N => JX12_readLine_38 (fun v1 m15 => JX12_readLine_116 v1 m15) (G + 2) v1 1 N) := by
  have rb := rn_b (q := qB) (T := T) (l := l) (l - p) p rfl hp
  refine Or.inl ⟨rn qB T l p, rb.2.1, fun M hM => ?_, fun N hN => ?_⟩
  · refine ⟨uI (uI M 1 0 5 (nI (rn qB T l p))) 1 0 6 (nI (rn qB T l p)), FCl_t (FCl_u (Or.inl rfl)) (FCl_u (Or.inr (Or.inl rfl))), ?_⟩
    show JX6_faultOfLine_42 _ (F + 2) 1 (nI n) M = _
    rw [c_go _ hn, c_rf hp hM.1 hM.2.1 hM.2.2.2.1 h6, calI_s, c_no]
    exact c_63 (by omega) uI_s
  · obtain ⟨N1, a1, a2, a3⟩ := m_nxt hb hp hN.1 hN.2.1
    have f1 : N1.1 40 0 4 = -1 := by rw [a2.1 40 0 4 (by decide)]; exact hN.2.2.1
    refine ⟨uI N1 40 0 4 (nI (rn qB T l p)), GL_t (GL_x a2) GL_4, ?_⟩
    show JX12_readLine_38 _ (G + 2) v1 1 N = _
    rw [m_go _ hN.2.2.1, a1, calV_s, m_askC rb.2.1 hl a3, calI_s]
    have fin : JX12_readLine_73 (fun v1 v2 m => JX12_readLine_38 (fun v1 m15 => JX12_readLine_116 v1 m15) (G + 1) v1 v2 m) (fun v1 m15 => JX12_readLine_116 v1 m15) v1 N1 = some (some (.inl (nI (rn qB T l p))), uI N1 40 0 4 (nI (rn qB T l p))) := by
      rw [m_73 _ (by omega) f1 a3.1]
      exact m_116 (by omega) uI_s
    rcases ffn_b (mtC T l (rn qB T l p)) 13 0 with e | ⟨k, k1, k2, e, e2⟩
    · rw [e, if_pos rfl]
      exact fin
    · have k3 : k < 13 := by omega
      rw [e, if_neg (nI_m9 (by omega)), e_has, calI_s, if_pos ((hf k k3).mpr (h6 k k3 e)), if_neg (show ¬ (1 : Int32) = 0 by decide)]
      exact fin
/-- a new clause: its word is taken -/
theorem c_tk2 {k : Nat} (hl : l ≤ 240) (hp : p ≤ l) {M : hM} (hM : LCl T l p S f g h P W M) (hk : k < 13) (e : ffn (mtC T l (rn qB T l p)) 13 0 = nI k) (h6 : ¬ S k = true) (hm : mtC T l (rn qB T l p) k = true) :
    ∃ M3, FCl M M3 ∧ LCl T l (tE T l (rn qB T l p)) (usB S k) f g h P W M3 ∧ JX6_readClause M = JX6_readClause_79 (fun m17 => jretZ 0 m17) (fun m18 => JX6_readClause_155 m18) (nI k) k FU 1 0 M3 := by
  have rb := rn_b (q := qB) (T := T) (l := l) (l - p) p rfl hp
  have w := wrd_end (T := T) rb.2.1 (of_decide_eq_true hm).1 (by have := (tbC k hk).2.1; omega)
  obtain ⟨a1, a2, a3, a4, a5⟩ := hM
  refine ⟨uI (uI (uI M 1 0 5 (nI (rn qB T l p))) 3 0 k 1) 1 0 5 (nI (rn qB T l p + lnC k)), FCl_t (FCl_u (Or.inl rfl)) (FCl_t FCl_3 (FCl_u (Or.inl rfl))), ⟨CTx_c (FCl_t (FCl_u (Or.inl rfl)) (FCl_t FCl_3 (FCl_u (Or.inl rfl)))) a1, ?_, ?_, fun j hj => ?_, CL_u (by decide) (CL_u (by decide) (CL_u (by decide) a5))⟩, c_tk hp a1 a2 a4 hk e h6⟩
  · rw [uI_s, w.1]
  · rw [uI_n (by decide), uI_o (by decide), uI_n (by decide)]; exact a3
  · rw [uI_o (by decide)]
    by_cases c : j = k
    · rw [c, uI_s, usB_s, if_pos rfl]
    · rw [uI_n (Or.inr c), uI_o (by decide), usB_n c]; exact a4 j hj
theorem lns (hb : ∀ i, i < l → bw (T i) 1 255) (hl : l ≤ 240) : ∀ d S f g h P W p v1, ctF S 13 + d = 13 → p ≤ l → CLV f g h P W → (S 0 = true → 1 ≤ P) → (¬ S 0 = true → P = 0) → (∀ j, j < 13 → (hbt v1 (nI j) = 1 ↔ S j = true)) → ∀ F G,
    ResL l (LCl T l p S f g h P W) (LDl T l p f g h P W) (fun M => JX6_faultOfLine_42 (fun m8 => JX6_faultOfLine_63 m8) (F + d + 2) 1 (nI (13 - d)) M) (fun N => JX12_readLine_38 (fun v1 m15 => JX12_readLine_116 v1 m15) (G + d + 2) v1 1 N) := by
  intro d
  induction d with
  | zero =>
    intro S f g h P W p v1 hd hp hv s1 s2 hf F G
    refine lns_r hb hl hp hf (by omega) F G (fun k hk _ => ?_)
    by_cases c : S k = true
    · exact c
    · have := ctF_f c hk; omega
  | succ d ih =>
    intro S f g h P W p v1 hd hp hv s1 s2 hf F G
    by_cases h6 : ∀ k, k < 13 → ffn (mtC T l (rn qB T l p)) 13 0 = nI k → S k = true
    · exact lns_r hb hl hp hf (by omega) (F + (d + 1)) (G + (d + 1)) h6
    have rb := rn_b (q := qB) (T := T) (l := l) (l - p) p rfl hp
    rcases ffn_b (mtC T l (rn qB T l p)) 13 0 with e | ⟨k, k1, k2, e, hm⟩
    · exact absurd (fun k hk z => absurd (e.symm.trans z) (fun y => nI_m9 (show k ≤ 240 by omega) y.symm)) h6
    have hk : k < 13 := by omega
    have nS : ¬ S k = true := fun z => h6 (fun k' hk' z' => by
      have := nI_ij (a := k) (b := k') (by omega) (by omega) (e.symm.trans z')
      rw [← this]; exact z)
    have w := wrd_end (T := T) rb.2.1 (of_decide_eq_true hm).1 (by have := (tbC k hk).2.1; omega)
    have tl := (tE_le (T := T) rb.2.1).2
    have hd2 : ctF (usB S k) 13 + d = 13 := by rw [ctF_u nS, if_pos hk]; omega
    have hf2 : ∀ j, j < 13 → (hbt (v1 ||| ((1 : Int32) <<< (nI k &&& 31))) (nI j) = 1 ↔ usB S k j = true) := by
      intro j hj
      rw [hbt_or v1 hj hk, hf j hj]
      by_cases c : j = k
      · rw [c, usB_s]; exact ⟨fun _ => rfl, fun _ => Or.inl rfl⟩
      · rw [usB_n c]; exact ⟨fun z => z.resolve_left c, Or.inr⟩
    have cgo : ∀ M, LCl T l p S f g h P W M → ∃ M3, FCl M M3 ∧ LCl T l (tE T l (rn qB T l p)) (usB S k) f g h P W M3 ∧ JX6_faultOfLine_42 (fun m8 => JX6_faultOfLine_63 m8) (F + (d + 1) + 2) 1 (nI (13 - (d + 1))) M = calI (JX6_readClause_79 (fun m17 => jretZ 0 m17) (fun m18 => JX6_readClause_155 m18) (nI k) k FU 1 0 M3) fun x7 m6 => JX6_faultOfLine_42 (fun m8 => JX6_faultOfLine_63 m8) (F + d + 2) x7 (nI (13 - d)) m6 := by
      intro M hM
      obtain ⟨M3, b1, b2, b3⟩ := c_tk2 hl hp hM hk e nS hm
      refine ⟨M3, b1, b2, ?_⟩
      rw [show F + (d + 1) + 2 = F + d + 2 + 1 by omega, c_go _ (by omega), b3, show 13 - (d + 1) + 1 = 13 - d by omega]
    have mgo : ∀ N, LDl T l p f g h P W N → ∃ N1, GL N N1 ∧ LDl T l (tE T l (rn qB T l p)) f g h P W N1 ∧ JX12_readLine_38 (fun v1 m15 => JX12_readLine_116 v1 m15) (G + (d + 1) + 2) v1 1 N = calV (JX12_clause (nI k) N1) fun m14 => JX12_readLine_91 (fun v1 v2 m => JX12_readLine_38 (fun v1 m15 => JX12_readLine_116 v1 m15) (G + d + 2) v1 v2 m) (fun v1 m15 => JX12_readLine_116 v1 m15) (v1 ||| ((1 : Int32) <<< (nI k &&& 31))) m14 := by
      intro N hN
      obtain ⟨N1, a1, a2, a3⟩ := m_nxt hb hp hN.1 hN.2.1
      refine ⟨N1, GL_x a2, ⟨RTx_N a2 hN.1, a3.2.2.1, by rw [a2.1 40 0 4 (by decide)]; exact hN.2.2.1, RCn_x a2 hN.2.2.2⟩, ?_⟩
      rw [show G + (d + 1) + 2 = G + d + 2 + 1 by omega, m_go _ hN.2.2.1, a1, calV_s, m_askC rb.2.1 hl a3, calI_s, e, if_neg (nI_m9 (show k ≤ 240 by omega)), e_has, calI_s, if_neg (fun z => nS ((hf k hk).mp z)), if_pos rfl, lt_s9]
    rcases one (k := k) (p := tE T l (rn qB T l p)) hb hl hk tl hv with ⟨s, o1, o2, o3⟩ | ⟨f2, g2, h2, P2, W2, q, o1, o2, o3, o4, o5, o6⟩
    · refine Or.inl ⟨s, o1, fun M hM => ?_, fun N hN => ?_⟩
      · obtain ⟨M3, b1, b2, b3⟩ := cgo M hM
        obtain ⟨M2, c1, c2, c3⟩ := o2 M3 b2.1 b2.2.1
        refine ⟨M2, FCl_t b1 (FCl_l c1), b3.trans ?_⟩
        rw [c3, jretZ_0, calI_s, c_no]
        exact c_63 (by omega) c2
      · obtain ⟨N1, b1, b2, b3⟩ := mgo N hN
        obtain ⟨N2, c1, c2, c3⟩ := o3 N1 b2.1 b2.2.1 b2.2.2.1
        refine ⟨N2, GL_t b1 c1, b3.trans ?_⟩
        rw [c3, calV_s, m_91 (by omega) c2, m_no]
        exact m_116 (by omega) c2
    have rq := rn_b (q := qB) (T := T) (l := l) (l - q) q rfl o4
    have tq := (tE_le (T := T) rq.2.1).2
    have s1' : usB S k 0 = true → 1 ≤ P2 := by
      intro z
      by_cases c : k = 0
      · exact o2 c
      · rw [usB_n (fun y => c y.symm)] at z
        rw [o3 c]; exact s1 z
    have s2' : ¬ usB S k 0 = true → P2 = 0 := by
      intro z
      by_cases c : k = 0
      · exact absurd (by rw [c]; exact usB_s S 0) z
      · rw [usB_n (fun y => c y.symm)] at z
        rw [o3 c]; exact s2 z
    have ctk : ∀ M, LCl T l p S f g h P W M → ∃ M2, FCl M M2 ∧ LCl T l q (usB S k) f2 g2 h2 P2 W2 M2 ∧ JX6_faultOfLine_42 (fun m8 => JX6_faultOfLine_63 m8) (F + (d + 1) + 2) 1 (nI (13 - (d + 1))) M = calI (JX6_readClause_155 M2) fun x7 m6 => JX6_faultOfLine_42 (fun m8 => JX6_faultOfLine_63 m8) (F + d + 2) x7 (nI (13 - d)) m6 := by
      intro M hM
      obtain ⟨M3, b1, b2, b3⟩ := cgo M hM
      obtain ⟨M2, c1, c2, c3, c4, c5⟩ := o5 M3 b2.1 b2.2.1 b2.2.2.2.2
      refine ⟨M2, FCl_t b1 (FCl_l c1), ⟨CTx_l c1 b2.1, c4, c3.trans b2.2.2.1, fun j hj => (c1.1 3 0 j (by omega)).trans (b2.2.2.2.1 j hj), c2⟩, b3.trans ?_⟩
      rw [c5]
    have mtk : ∀ N, LDl T l p f g h P W N → ∃ N2, GL N N2 ∧ RTx N2 T l ∧ RCn N2 f2 g2 h2 P2 W2 ∧ N2.1 40 0 4 = -1 ∧ Tok N2 T l (rn qB T l q) ∧ JX12_readLine_38 (fun v1 m15 => JX12_readLine_116 v1 m15) (G + (d + 1) + 2) v1 1 N = JX12_readLine_91 (fun v1 v2 m => JX12_readLine_38 (fun v1 m15 => JX12_readLine_116 v1 m15) (G + d + 2) v1 v2 m) (fun v1 m15 => JX12_readLine_116 v1 m15) (v1 ||| ((1 : Int32) <<< (nI k &&& 31))) N2 := by
      intro N hN
      obtain ⟨N1, b1, b2, b3⟩ := mgo N hN
      obtain ⟨N2, c1, c2, c3, c4, c5⟩ := o6 N1 b2.1 b2.2.1 b2.2.2.1 b2.2.2.2
      refine ⟨N2, GL_t b1 c1, RTx_l c1 b2.1, c2, c3, c4, b3.trans ?_⟩
      rw [c5, calV_s]
    by_cases t3 : tK T l (rn qB T l q) = 3
    · refine ResL_st (fun M hM => ?_) (fun N hN => ?_) (ih (usB S k) f2 g2 h2 P2 W2 (tE T l (rn qB T l q)) (v1 ||| ((1 : Int32) <<< (nI k &&& 31))) hd2 tq o1 s1' s2' hf2 F G)
      · obtain ⟨M2, b1, b2, b3⟩ := ctk M hM
        refine ⟨uI M2 1 0 5 (nI (tE T l (rn qB T l q))), FCl_t b1 (FCl_u (Or.inl rfl)), ⟨CTx_u b2.1 (by decide), uI_s, by rw [uI_n (by decide)]; exact b2.2.2.1, fun j hj => by rw [uI_o (by decide)]; exact b2.2.2.2.1 j hj, CL_u (by decide) b2.2.2.2.2⟩, b3.trans ?_⟩
        rw [(c_mk o4 b2.1 b2.2.1).1 t3, calI_s]
      · obtain ⟨N2, b1, b2, b3, b4, b5, b6⟩ := mtk N hN
        refine ⟨N2, b1, ⟨b2, b5.2.2.1, b4, b3⟩, b6.trans ?_⟩
        unfold JX12_readLine_91 JX12_readLine_112
        rw [if_pos b4, b5.2.1, if_pos t3]
    have m91 : ∀ N2 : hM, N2.1 40 0 4 = -1 → Tok N2 T l (rn qB T l q) → JX12_readLine_91 (fun v1 v2 m => JX12_readLine_38 (fun v1 m15 => JX12_readLine_116 v1 m15) (G + d + 2) v1 v2 m) (fun v1 m15 => JX12_readLine_116 v1 m15) (v1 ||| ((1 : Int32) <<< (nI k &&& 31))) N2 = JX12_readLine_116 (v1 ||| ((1 : Int32) <<< (nI k &&& 31))) N2 := by
      intro N2 b4 b5
      unfold JX12_readLine_91 JX12_readLine_111 JX12_readLine_112
      rw [if_pos b4, b5.2.1, if_neg t3]
      exact m_no (G + d + 1)
    have m139 : ∀ N2 : hM, N2.1 40 0 4 = -1 → Tok N2 T l (rn qB T l q) → JX12_readLine_139 N2 = some (some (.inl (nI (rn qB T l q))), uI N2 40 0 4 (nI (rn qB T l q))) := by
      intro N2 b4 b5
      unfold JX12_readLine_139
      rw [m_bad b4, calV_s, b5.1, uI_s]
    by_cases t0 : tK T l (rn qB T l q) = 0
    · have e2 : rn qB T l q = l := by
        rcases Nat.lt_or_ge (rn qB T l q) l with z | z
        · exact absurd t0 (tK_0 z)
        · omega
      have has : ∀ N2 : hM, N2.1 40 0 4 = -1 → Tok N2 T l (rn qB T l q) → JX12_readLine_116 (v1 ||| ((1 : Int32) <<< (nI k &&& 31))) N2 = if usB S k 0 = true then some (some (.inl (-1)), N2) else JX12_readLine_139 N2 := by
        intro N2 b4 b5
        unfold JX12_readLine_116
        rw [if_pos b4, b5.2.1, if_pos t0, e_has, calI_s]
        have z := hf2 0 (by decide)
        rw [show nI 0 = 0 from rfl] at z
        by_cases c : usB S k 0 = true
        · rw [if_pos c, if_pos (z.mpr c), if_neg (show ¬ (1 : Int32) = 0 by decide), b4]
        · rw [if_neg c, if_neg (fun y => c (z.mp y)), if_pos rfl]
      have c63 : ∀ M2, LCl T l q (usB S k) f2 g2 h2 P2 W2 M2 → JX6_faultOfLine_63 (uI M2 1 0 5 (nI (rn qB T l q))) = if P2 = 0 then some (some (.inl (nI l)), uI (uI M2 1 0 5 (nI (rn qB T l q))) 1 0 6 (nI l)) else some (some (.inl (-1)), uI M2 1 0 5 (nI (rn qB T l q))) := by
        intro M2 b2
        have x1 : (uI M2 1 0 5 (nI (rn qB T l q))).1 1 0 6 = -1 := by rw [uI_n (by decide)]; exact b2.2.2.1
        have x2 : (uI M2 1 0 5 (nI (rn qB T l q))).1 1 0 4 = nI l := by rw [uI_n (by decide)]; exact b2.1.1
        have x3 : (uI M2 1 0 5 (nI (rn qB T l q))).1 5 1 0 = nI P2 := by rw [uI_o (by decide), b2.2.2.2.2.1 0 (by decide)]; exact o1.1.2.1
        unfold JX6_faultOfLine_63 JX4_pulseLength
        rw [if_pos x1, ald_n (i := 0) (t := 5) (n := 1) 0 rfl (by decide) (by decide), calI_s, x3]
        by_cases c : P2 = 0
        · rw [if_pos c, c, if_pos (show nI 0 = 0 from rfl), stI_s, x2, uI_s]
        · have := o1.1.1
          rw [if_neg c, if_neg (nI_ne0 (by omega) (by omega)), x1]
      by_cases c : usB S k 0 = true
      · have p1 := s1' c
        refine Or.inr ⟨f2, g2, h2, P2, W2, o1, p1, fun M hM => ?_, fun N hN => ?_⟩
        · obtain ⟨M2, b1, b2, b3⟩ := ctk M hM
          refine ⟨uI M2 1 0 5 (nI (rn qB T l q)), FCl_t b1 (FCl_u (Or.inl rfl)), CL_u (by decide) b2.2.2.2.2, b3.trans ?_⟩
          rw [(c_mk o4 b2.1 b2.2.1).2.1 t0, calI_s, c_no, c63 M2 b2, if_neg (by omega)]
        · obtain ⟨N2, b1, b2, b3, b4, b5, b6⟩ := mtk N hN
          refine ⟨N2, b1, b3, b6.trans ?_⟩
          rw [m91 N2 b4 b5, has N2 b4 b5, if_pos c]
      · have p0 := s2' c
        refine Or.inl ⟨l, Nat.le_refl l, fun M hM => ?_, fun N hN => ?_⟩
        · obtain ⟨M2, b1, b2, b3⟩ := ctk M hM
          refine ⟨uI (uI M2 1 0 5 (nI (rn qB T l q))) 1 0 6 (nI l), FCl_t b1 (FCl_t (FCl_u (Or.inl rfl)) (FCl_u (Or.inr (Or.inl rfl)))), b3.trans ?_⟩
          rw [(c_mk o4 b2.1 b2.2.1).2.1 t0, calI_s, c_no, c63 M2 b2, if_pos p0]
        · obtain ⟨N2, b1, b2, b3, b4, b5, b6⟩ := mtk N hN
          refine ⟨uI N2 40 0 4 (nI l), GL_t b1 GL_4, b6.trans ?_⟩
          rw [m91 N2 b4 b5, has N2 b4 b5, if_neg c, m139 N2 b4 b5, e2]
    · refine Or.inl ⟨rn qB T l q, rq.2.1, fun M hM => ?_, fun N hN => ?_⟩
      · obtain ⟨M2, b1, b2, b3⟩ := ctk M hM
        refine ⟨uI (uI M2 1 0 5 (nI (rn qB T l q))) 1 0 6 (nI (rn qB T l q)), FCl_t b1 (FCl_t (FCl_u (Or.inl rfl)) (FCl_u (Or.inr (Or.inl rfl)))), b3.trans ?_⟩
        rw [(c_mk o4 b2.1 b2.2.1).2.2 t0 t3, calI_s, c_no]
        exact c_63 (by omega) uI_s
      · obtain ⟨N2, b1, b2, b3, b4, b5, b6⟩ := mtk N hN
        refine ⟨uI N2 40 0 4 (nI (rn qB T l q)), GL_t b1 GL_4, b6.trans ?_⟩
        rw [m91 N2 b4 b5]
        unfold JX12_readLine_116
        rw [if_pos b4, b5.2.1, if_neg t0]
        exact m139 N2 b4 b5
end
