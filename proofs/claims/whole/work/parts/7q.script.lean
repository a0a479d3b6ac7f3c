/-! a whole script -/
def FS (M M2 : hM) : Prop := (∀ a b c, ¬ ((a = 1 ∧ (c = 5 ∨ c = 6 ∨ c = 7)) ∨ (8 ≤ a ∧ a ≤ 11 ∧ b = 4)) → M2.1 a b c = M.1 a b c) ∧ M2.2 = M.2
def GS (x : Nat) (M M2 : hM) : Prop := (∀ a b c, ¬ ((a = 40 ∧ (c = 3 ∨ c = 4 ∨ c = 5 ∨ c = 6 ∨ c = 7)) ∨ (a = 49 ∧ c = x) ∨ (a = 48 ∧ 36 * x ≤ c ∧ c < 36 * x + 36)) → M2.1 a b c = M.1 a b c) ∧ ∀ a b c, ¬ (a = 40 ∧ c = 8) → M2.2 a b c = M.2 a b c
theorem FS_t {a b c : hM} (h : FS a b) (h2 : FS b c) : FS a c := ⟨fun x y z q => (h2.1 x y z q).trans (h.1 x y z q), h2.2.trans h.2⟩
theorem GS_t {i : Nat} {a b c : hM} (h : GS i a b) (h2 : GS i b c) : GS i a c := ⟨fun x y z q => (h2.1 x y z q).trans (h.1 x y z q), fun x y z q => (h2.2 x y z q).trans (h.2 x y z q)⟩
theorem FS_x {M M2 : hM} (h : Cx M M2) : FS M M2 := ⟨fun a b c q => h.1 a b c (fun z => q (Or.inl z)), h.2⟩
theorem GS_x {x : Nat} {M M2 : hM} (h : Nx M M2) : GS x M M2 := ⟨fun a b c q => h.1 a b c (fun z => q (Or.inl ⟨z.1, by omega⟩)), h.2⟩
theorem FS_1 {i : Nat} {M M2 : hM} (h : FS1 i M M2) : FS M M2 := ⟨fun a b c q => h.1 a b c (fun z => by
  rcases z with z | z
  · exact q (Or.inl z)
  · have := z.1
    refine q (Or.inr ⟨?_, ?_, z.2.1⟩)
    · clear q h; omega
    · clear q h; omega), h.2⟩
theorem GS_1 {x i : Nat} {M M2 : hM} (hi : i < 12) (h : GS1 (3 * (12 * x + i)) M M2) : GS x M M2 := ⟨fun a b c q => h.1 a b c (fun z => by
  rcases z with z | z
  · exact q (Or.inl z)
  · have := z.2
    refine q (Or.inr (Or.inr ⟨z.1, ?_, ?_⟩))
    · clear q h; omega
    · clear q h; omega), h.2⟩
theorem FS_u {M : hM} {t k : Nat} {x : Int32} (h : 8 ≤ t ∧ t ≤ 11) : FS M (uI M t 4 k x) := ⟨fun a b c q => uI_x (fun y => q (Or.inr ⟨by rw [y.1]; exact h.1, by rw [y.1]; exact h.2, y.2.1⟩)), rfl⟩
theorem GS_4 {y : Nat} {M : hM} {x : Int32} : GS y M (uI M 40 0 4 x) := ⟨fun a b c q => uI_x (fun y => q (Or.inl ⟨y.1, Or.inr (Or.inl y.2.2)⟩)), fun _ _ _ _ => rfl⟩
theorem GS_49 {y : Nat} {M : hM} {x : Int32} : GS y M (uI M 49 0 y x) := ⟨fun a b c q => uI_x (fun y => q (Or.inr (Or.inl ⟨y.1, y.2.2⟩))), fun _ _ _ _ => rfl⟩
theorem GS_48 {y k : Nat} {M : hM} {x : Int32} (h : 36 * y ≤ k ∧ k < 36 * y + 36) : GS y M (uI M 48 0 k x) := ⟨fun a b c q => uI_x (fun y => q (Or.inr (Or.inr ⟨y.1, by rw [y.2.2]; exact h.1, by rw [y.2.2]; exact h.2⟩))), fun _ _ _ _ => rfl⟩
theorem CTx_s {M M2 : hM} {T : Nat → Int32} {l : Nat} (h : FS M M2) (q : CTx M T l) : CTx M2 T l := ⟨by rw [h.1 1 0 4 (by decide)]; exact q.1, q.2.1, fun i hi => by rw [h.1 2 0 i (by omega)]; exact q.2.2 i hi⟩
theorem RTx_s {x : Nat} {M M2 : hM} {T : Nat → Int32} {l : Nat} (h : GS x M M2) (q : RTx M T l) : RTx M2 T l := ⟨by rw [h.1 40 0 2 (by omega)]; exact q.1, q.2.1, fun i hi => by rw [h.1 41 0 i (by omega)]; exact q.2.2 i hi⟩
def CSt (M : hM) (A B C : Nat → Int32) (n : Nat) : Prop := ∀ j, j < n → M.1 9 4 j = A j ∧ M.1 10 4 j = B j ∧ M.1 11 4 j = C j
def RSt (x : Nat) (N : hM) (A B C : Nat → Int32) (n : Nat) : Prop := ∀ j, j < n → N.1 48 0 (3 * (12 * x + j)) = A j ∧ N.1 48 0 (3 * (12 * x + j) + 1) = B j ∧ N.1 48 0 (3 * (12 * x + j) + 2) = C j
def VSt (A B C : Nat → Int32) (n : Nat) : Prop := ∀ j, j < n → SV (A j) (B j) (C j)
def ResS (l x : Nat) (C D : hM → Prop) (cf df : hM → hR) : Prop :=
  (∃ s, s ≤ l ∧ (∀ M, C M → ∃ M2, FS M M2 ∧ cf M = some (some (.inl (nI s)), M2)) ∧ ∀ N, D N → ∃ N2, GS x N N2 ∧ df N = some (some (.inl (nI s)), N2)) ∨
  (∃ A B E n, n ≤ 12 ∧ VSt A B E n ∧ (∀ M, C M → ∃ M2, FS M M2 ∧ CSt M2 A B E n ∧ M2.1 8 4 3 = nI n ∧ cf M = some (some (.inl (-1)), M2)) ∧ ∀ N, D N → ∃ N2, GS x N N2 ∧ RSt x N2 A B E n ∧ N2.1 49 0 x = nI n ∧ df N = some (some (.inl (-1)), N2))
theorem ResS_st {l x : Nat} {C D C' D' : hM → Prop} {cf df cf' df' : hM → hR} (hc : ∀ M, C M → ∃ M', FS M M' ∧ C' M' ∧ cf M = cf' M') (hd : ∀ N, D N → ∃ N', GS x N N' ∧ D' N' ∧ df N = df' N') (h : ResS l x C' D' cf' df') : ResS l x C D cf df := by
  rcases h with ⟨s, a1, a2, a3⟩ | ⟨f, g, h, P, a1, a2, a3, a4⟩
  · refine Or.inl ⟨s, a1, fun M hM => ?_, fun N hN => ?_⟩
    · obtain ⟨M', b1, b2, b3⟩ := hc M hM
      obtain ⟨M2, c1, c2⟩ := a2 M' b2
      exact ⟨M2, FS_t b1 c1, b3.trans c2⟩
    · obtain ⟨M', b1, b2, b3⟩ := hd N hN
      obtain ⟨M2, c1, c2⟩ := a3 M' b2
      exact ⟨M2, GS_t b1 c1, b3.trans c2⟩
  · refine Or.inr ⟨f, g, h, P, a1, a2, fun M hM => ?_, fun N hN => ?_⟩
    · obtain ⟨M', b1, b2, b3⟩ := hc M hM
      obtain ⟨M2, c1, c2, c4, c3⟩ := a3 M' b2
      exact ⟨M2, FS_t b1 c1, c2, c4, b3.trans c3⟩
    · obtain ⟨M', b1, b2, b3⟩ := hd N hN
      obtain ⟨M2, c1, c2, c4, c3⟩ := a4 M' b2
      exact ⟨M2, GS_t b1 c1, c2, c4, b3.trans c3⟩
def SCc (T : Nat → Int32) (l p : Nat) (A B C : Nat → Int32) (n : Nat) (M : hM) : Prop := CTx M T l ∧ M.1 1 0 5 = nI p ∧ M.1 1 0 6 = -1 ∧ M.1 8 4 3 = nI n ∧ CSt M A B C n
def SDd (T : Nat → Int32) (l p x : Nat) (A B C : Nat → Int32) (n : Nat) (N : hM) : Prop := RTx N T l ∧ N.1 40 0 3 = nI p ∧ N.1 40 0 4 = -1 ∧ N.1 49 0 x = nI n ∧ RSt x N A B C n
section
variable {T : Nat → Int32} {l p x i k : Nat} {A B C : Nat → Int32}
/-- the mark behind a step -/
theorem c_pm {M : hM} {q : Nat} (h1 : q ≤ l) (h3 : CTx M T l) (h4 : M.1 1 0 5 = nI q) :
    (tK T l (rn qB T l q) = 3 → JX6_passMark 1 M = some (some (.inl 1), uI M 1 0 5 (nI (tE T l (rn qB T l q))))) ∧
    (tK T l (rn qB T l q) = 0 → ∀ b, JX6_passMark b M = some (some (.inl 0), uI M 1 0 5 (nI (rn qB T l q)))) ∧
    (tK T l (rn qB T l q) ≠ 0 → ∀ b, b = 0 ∨ tK T l (rn qB T l q) ≠ 3 → JX6_passMark b M = some (some (.inl 0), uI (uI M 1 0 5 (nI (rn qB T l q))) 1 0 6 (nI (rn qB T l q)))) := by
  have rb := rn_b (q := qB) (T := T) (l := l) (l - q) q rfl h1
  have k3 := tK_x (T := T) (l := l) (s := rn qB T l q) (x := 59) (r := 3) (Or.inl ⟨rfl, rfl⟩)
  have sk : JX6_skipBlanks (uI M 1 0 5 (nI (rn qB T l q))) = some (none, uI M 1 0 5 (nI (rn qB T l q))) := by
    rw [c_skip rb.2.1 (CTx_u h3 (by decide)) uI_s, rn_i h1, uI_id uI_s]
  have sk0 := c_skip h1 h3 h4
  have l4 : (uI M 1 0 5 (nI (rn qB T l q))).1 1 0 4 = nI l := by rw [uI_n (by omega)]; exact h3.1
  have h24 := h3.2.1
  refine ⟨fun a => ?_, fun a b => ?_, fun a b hb => ?_⟩
  · unfold JX6_passMark
    rw [if_neg (by decide), c_passB (by decide) h1 h3 h4, if_pos (k3.1.mp a), calI_s, if_neg (by decide), jretZ_1, (k3.2 a).1]
  · have e : ¬ tK T l (rn qB T l q) = 3 := by rw [a]; decide
    have e2 : rn qB T l q = l := by
      rcases Nat.lt_or_ge (rn qB T l q) l with z | z
      · exact absurd a (tK_0 z)
      · omega
    unfold JX6_passMark JX6_passMark_15
    by_cases c : b = 0
    · rw [if_pos c, sk0, calV_s, l4, uI_s, e2, if_pos (Int32.le_refl _), jretZ_0]
    · rw [if_neg c, c_passB (by decide) h1 h3 h4, if_neg (fun z => e (k3.1.mpr z)), calI_s, if_pos rfl, sk, calV_s, l4, uI_s, e2, if_pos (Int32.le_refl _), jretZ_0]
  · have e2 : rn qB T l q < l := by
      rcases Nat.lt_or_ge (rn qB T l q) l with z | z
      · exact z
      · exact absurd (show tK T l (rn qB T l q) = 0 by unfold tK; rw [if_neg (by omega)]) a
    have n2 : ¬ nI l ≤ nI (rn qB T l q) := by rw [Int32.le_iff_toInt_le, nI_toInt (by omega), nI_toInt (by omega)]; omega
    unfold JX6_passMark JX6_passMark_15 JX6_refuseAt
    by_cases c : b = 0
    · rw [if_pos c, sk0, calV_s, l4, uI_s, if_neg n2, stI_s, jretZ_0, calI_s, if_pos rfl, jretZ_0]
    · rw [if_neg c, c_passB (by decide) h1 h3 h4, if_neg (fun z => (hb.resolve_left c) (k3.1.mpr z)), calI_s, if_pos rfl, sk, calV_s, l4, uI_s, if_neg n2, stI_s, jretZ_0, calI_s, if_pos rfl, jretZ_0]
theorem c_rfS {M : hM} (h1 : p ≤ l) (h3 : CTx M T l) (h4 : M.1 1 0 5 = nI p) (e : ffn (mtS T l (rn qB T l p)) 8 0 = -1) :
    JX6_readStep M = some (some (.inl 0), uI (uI M 1 0 5 (nI (rn qB T l p))) 1 0 6 (nI (rn qB T l p))) := by
  have rb := rn_b (q := qB) (T := T) (l := l) (l - p) p rfl h1
  unfold JX6_readStep
  rw [c_skip h1 h3 h4, calV_s, c_wrdS rb.2.1 (CTx_u h3 (by decide)) uI_s, calI_s, e, if_pos (by decide)]
  unfold JX6_readStep_21 JX6_refuseAt
  rw [uI_s, stI_s, jretZ_0, calI_s, jretZ_0]
theorem c_open {M : hM} (hi : i < 12) (h : M.1 8 4 3 = nI i) : JX7_open 4 (nI k) M = some (none, uI (uI (uI (uI M 9 4 i (nI k)) 10 4 i HID) 11 4 i HID) 8 4 3 (nI (i + 1))) := by
  have w : hwi (nI i) 0 11 = 1 := by
    rcases hw (nI i) 11 12 (by decide) (by decide) with ⟨j, _, _, e1⟩ | ⟨_, e2⟩
    · exact e1
    · exact absurd rfl (e2 i hi)
  unfold JX7_open
  rw [h, e_within, calI_s, w, if_neg (by decide), h, ast_n (t := 9) (n := 4) i rfl (by decide) (show i < 12 from hi)]
  rw [show (uI M 9 4 i (nI k)).1 8 4 3 = nI i by rw [uI_o (by decide)]; exact h, ast_n (t := 10) (n := 4) i rfl (by decide) (show i < 12 from hi)]
  rw [show (uI (uI M 9 4 i (nI k)) 10 4 i (-1000000000)).1 8 4 3 = nI i by rw [uI_o (by decide), uI_o (by decide)]; exact h, ast_n (t := 11) (n := 4) i rfl (by decide) (show i < 12 from hi)]
  rw [show (uI (uI (uI M 9 4 i (nI k)) 10 4 i (-1000000000)) 11 4 i (-1000000000)).1 8 4 3 = nI i by rw [uI_o (by decide), uI_o (by decide), uI_o (by decide)]; exact h, stI_s, ← nI_succ]
  rfl
theorem c_tkS {M : hM} (hl : l ≤ 240) (h1 : p ≤ l) (hM : SCc T l p A B C i M) (hi : i < 12) (hk : k < 8) (e : ffn (mtS T l (rn qB T l p)) 8 0 = nI k) (hm : mtS T l (rn qB T l p) k = true) :
    ∃ M3, FS M M3 ∧ CTx M3 T l ∧ M3.1 1 0 5 = nI (tE T l (rn qB T l p)) ∧ M3.1 1 0 6 = -1 ∧ M3.1 8 4 3 = nI (i + 1) ∧ M3.1 9 4 i = nI k ∧ M3.1 10 4 i = HID ∧ M3.1 11 4 i = HID ∧ CSt M3 A B C i ∧ JX6_readStep M = JX6_readStep_62 krA krB krC k FU 0 M3 := by
  have rb := rn_b (q := qB) (T := T) (l := l) (l - p) p rfl h1
  have w := wrd_end (T := T) rb.2.1 (of_decide_eq_true hm).1 (by have := (tbS k hk).2.1; omega)
  obtain ⟨a1, a2, a3, a4, a5⟩ := hM
  have kt := nI_toInt (n := k) (by omega)
  have n1 : ¬ nI k < 0 := by rw [Int32.lt_iff_toInt_lt, kt]; exact Int.not_lt.mpr (Int.natCast_nonneg k)
  have n2 : nI k < 8 := by rw [Int32.lt_iff_toInt_lt, kt]; exact (show (k : Int) < 8 by omega)
  have ff : FS M (uI (uI (uI (uI (uI (uI M 1 0 5 (nI (rn qB T l p))) 9 4 i (nI k)) 10 4 i HID) 11 4 i HID) 8 4 3 (nI (i + 1))) 1 0 5 (nI (rn qB T l p + lnS k))) :=
    FS_t (FS_x (Cx_u (Or.inl rfl))) (FS_t (FS_u (by decide)) (FS_t (FS_u (by decide)) (FS_t (FS_u (by decide)) (FS_t (FS_u (by decide)) (FS_x (Cx_u (Or.inl rfl)))))))
  refine ⟨_, ff, CTx_s ff a1, ?_, ?_, ?_, ?_, ?_, ?_, fun j hj => ?_, ?_⟩
  · rw [uI_s, w.1]
  · rw [uI_n (by decide), uI_o (by decide), uI_o (by decide), uI_o (by decide), uI_o (by decide), uI_n (by decide)]; exact a3
  · rw [uI_o (by decide), uI_s]
  · rw [uI_o (by decide), uI_o (by decide), uI_o (by decide), uI_o (by decide), uI_s]
  · rw [uI_o (by decide), uI_o (by decide), uI_o (by decide), uI_s]
  · rw [uI_o (by decide), uI_o (by decide), uI_s]
  · obtain ⟨b1, b2, b3⟩ := a5 j hj
    have ne : j ≠ i := by omega
    refine ⟨?_, ?_, ?_⟩
    · rw [uI_o (by decide), uI_o (by decide), uI_o (by decide), uI_o (by decide), uI_n (Or.inr ne), uI_o (by decide)]; exact b1
    · rw [uI_o (by decide), uI_o (by decide), uI_o (by decide), uI_n (Or.inr ne), uI_o (by decide), uI_o (by decide)]; exact b2
    · rw [uI_o (by decide), uI_o (by decide), uI_n (Or.inr ne), uI_o (by decide), uI_o (by decide), uI_o (by decide)]; exact b3
  · unfold JX6_readStep
    rw [c_skip h1 a1 a2, calV_s, c_wrdS rb.2.1 (CTx_u a1 (by decide)) uI_s, calI_s, e, if_neg n1, if_pos n2, eal_s (inb_nI hk (by decide)), nI_clamp (show k < 2 ^ 31 by omega), c_open hi (by rw [uI_o (by decide)]; exact a4), calV_s, e_lenS _ hk, calI_s, stI_s]
    rw [show (uI (uI (uI (uI (uI M 1 0 5 (nI (rn qB T l p))) 9 4 i (nI k)) 10 4 i HID) 11 4 i HID) 8 4 3 (nI (i + 1))).1 1 0 5 = nI (rn qB T l p) by rw [uI_o (by decide), uI_o (by decide), uI_o (by decide), uI_o (by decide), uI_s], nI_add]
    rfl
def mK (m17 : hM) : hR := if (m17.1 40 0 4) = (-1) then (if (m17.1 40 0 5) = 0 then (some (some (.inl (m17.1 40 0 4)), m17)) else (calV (JX12_bad m17) fun m18 => some (some (.inl (m18.1 40 0 4)), m18))) else (some (some (.inl (m17.1 40 0 4)), m17))
def cK (m8 : hM) : hR := some (some (.inl (m8.1 1 0 6)), m8)
theorem e_off (x i : Nat) : (3 : Int32) * ((12 * nI x) + nI i) = nI (3 * (12 * x + i)) := by
  rw [show (12 : Int32) = nI 12 from rfl, show (3 : Int32) = nI 3 from rfl, pk_mul, nI_add, pk_mul]
theorem m_gS {K : hM → hR} {N : hM} (F : Nat) : JX12_readScript_19 K (nI x) (F + 1) 1 N = calV (JX12_next N) fun m4 =>
    calI (JX12_wordAsked 1 m4) fun x6 m5 =>
    ald m5 49 0 (nI x) fun x7 =>
    lt (3 * ((12 * (nI x)) + x7)) fun x8 =>
    if x6 = (-1) then (calV (JX12_bad m5) fun m16 =>
    JX12_readScript_97 (fun v2 m => JX12_readScript_19 K (nI x) F v2 m) K (nI x) m16) else (ast m5 48 0 x8 x6 fun m9 =>
    ast m9 48 0 (x8 + 1) (-1000000000) fun m10 =>
    ast m10 48 0 (x8 + 2) (-1000000000) fun m11 =>
    calV (JX12_stepNumbers x6 x8 m11) fun m12 =>
    JX12_readScript_97 (fun v2 m => JX12_readScript_19 K (nI x) F v2 m) K (nI x) m12) := by
  show bJX12_readScript_19 _ _ _ _ _ = _
  unfold bJX12_readScript_19
  rw [if_neg (show ¬ (1 : Int32) = 0 by decide)]
theorem m_nS {K : hM → hR} {N : hM} (F : Nat) : JX12_readScript_19 K (nI x) (F + 1) 0 N = K N := by
  show bJX12_readScript_19 _ _ _ _ _ = _
  unfold bJX12_readScript_19
  rw [if_pos rfl]
theorem c_nS {K : hM → hR} {M : hM} {v : Int32} (F : Nat) : JX6_faultOfScript_22 K (F + 1) 0 v M = K M := by
  show bJX6_faultOfScript_22 _ _ _ _ _ = _
  unfold bJX6_faultOfScript_22
  by_cases c : 12 ≤ v
  · rw [if_pos c]
  · rw [if_neg c, if_pos rfl]
theorem m_97a {K19 : Int32 → hM → hR} {K : hM → hR} {N : hM} (hx : x < 5) (h : N.1 49 0 x = nI i) : JX12_readScript_97 K19 K (nI x) N = 
  if ((uI N 49 0 x (nI (i + 1))).1 40 0 4) = (-1) then (if ((uI N 49 0 x (nI (i + 1))).1 40 0 5) = 3 then (
  if 12 ≤ nI (i + 1) then K19 0 (uI N 49 0 x (nI (i + 1))) else K19 1 (uI N 49 0 x (nI (i + 1)))) else K19 0 (uI N 49 0 x (nI (i + 1)))) else K19 0 (uI N 49 0 x (nI (i + 1))) := by
  unfold JX12_readScript_97 JX12_readScript_138 JX12_readScript_139
  rw [ald_n (t := 49) (n := 0) x rfl (by decide) (show x < 5 from hx), ast_n (t := 49) (n := 0) x rfl (by decide) (show x < 5 from hx), h, ← nI_succ, ald_n (t := 49) (n := 0) x rfl (by decide) (show x < 5 from hx), uI_s]
theorem mK_f {N : hM} {s : Nat} (hs : s ≤ 240) (h : N.1 40 0 4 = nI s) : mK N = some (some (.inl (nI s)), N) := by
  unfold mK
  rw [h, if_neg (nI_m9 hs)]
/-- one step: both refuse it, or both take it -/
theorem stp (hb : ∀ i, i < l → bw (T i) 1 255) (hl : l ≤ 240) (hp : p ≤ l) (hi : i < 12) (hx : x < 5) :
    (∃ s, s ≤ l ∧ (∀ M, SCc T l p A B C i M → ∃ M2, FS M M2 ∧ M2.1 1 0 6 = nI s ∧ JX6_readStep M = some (some (.inl 0), M2)) ∧
      ∀ N, SDd T l p x A B C i N → ∃ N2, GS x N N2 ∧ N2.1 40 0 4 = nI s ∧ N2.1 49 0 x = nI i ∧ ∀ K F, JX12_readScript_19 K (nI x) (F + 1) 1 N = JX12_readScript_97 (fun v2 m => JX12_readScript_19 K (nI x) F v2 m) K (nI x) N2) ∨
    (∃ a b k q, SV k a b ∧ q ≤ l ∧ (∀ M, SCc T l p A B C i M → ∃ M2, FS M M2 ∧ SCc T l q (upd A i k) (upd B i a) (upd C i b) (i + 1) M2 ∧ JX6_readStep M = some (some (.inl 1), M2)) ∧
      ∀ N, SDd T l p x A B C i N → ∃ N2, GS x N N2 ∧ RTx N2 T l ∧ N2.1 40 0 4 = -1 ∧ N2.1 49 0 x = nI i ∧ RSt x N2 (upd A i k) (upd B i a) (upd C i b) (i + 1) ∧ Tok N2 T l (rn qB T l q) ∧ ∀ K F, JX12_readScript_19 K (nI x) (F + 1) 1 N = JX12_readScript_97 (fun v2 m => JX12_readScript_19 K (nI x) F v2 m) K (nI x) N2) := by
  have rb := rn_b (q := qB) (T := T) (l := l) (l - p) p rfl hp
  rcases ffn_b (mtS T l (rn qB T l p)) 8 0 with e | ⟨k, k1, k2, e, hm⟩
  · refine Or.inl ⟨rn qB T l p, rb.2.1, fun M hM => ?_, fun N hN => ?_⟩
    · exact ⟨_, FS_t (FS_x (Cx_u (Or.inl rfl))) (FS_x (Cx_u (Or.inr (Or.inl rfl)))), uI_s, c_rfS hp hM.1 hM.2.1 e⟩
    · obtain ⟨N1, a1, a2, a3⟩ := m_nxt hb hp hN.1 hN.2.1
      have f1 : N1.1 40 0 4 = -1 := by rw [a2.1 40 0 4 (by decide)]; exact hN.2.2.1
      refine ⟨uI N1 40 0 4 (nI (rn qB T l p)), GS_t (GS_x a2) GS_4, uI_s, by rw [uI_o (by decide), a2.1 49 0 x (by omega)]; exact hN.2.2.2.1, fun K F => ?_⟩
      rw [m_gS, a1, calV_s, m_askS rb.2.1 hl a3, calI_s, ald_n (t := 49) (n := 0) x rfl (by decide) (show x < 5 from hx), lt_s9, e, if_pos rfl, m_bad f1, calV_s, a3.1]
  have hk : k < 8 := by omega
  have tl := (tE_le (T := T) rb.2.1).2
  have ho : 3 * (12 * x + i) + 3 ≤ 180 := by omega
  have mgo : ∀ N, SDd T l p x A B C i N → ∃ N1, GS x N N1 ∧ RTx N1 T l ∧ N1.1 40 0 3 = nI (tE T l (rn qB T l p)) ∧ N1.1 40 0 4 = -1 ∧ N1.1 49 0 x = nI i ∧ RSt x N1 A B C i ∧ N1.1 48 0 (3 * (12 * x + i)) = nI k ∧ N1.1 48 0 (3 * (12 * x + i) + 1) = HID ∧ N1.1 48 0 (3 * (12 * x + i) + 2) = HID ∧ ∀ K F, JX12_readScript_19 K (nI x) (F + 1) 1 N = calV (JX12_stepNumbers (nI k) (nI (3 * (12 * x + i))) N1) fun m12 => JX12_readScript_97 (fun v2 m => JX12_readScript_19 K (nI x) F v2 m) K (nI x) m12 := by
    intro N hN
    obtain ⟨h1, h2, h3, h4, h5⟩ := hN
    obtain ⟨N1, a1, a2, a3⟩ := m_nxt hb hp h1 h2
    have b49 : N1.1 49 0 x = nI i := by rw [a2.1 49 0 x (by omega)]; exact h4
    have gg : GS x N (uI (uI (uI N1 48 0 (3 * (12 * x + i)) (nI k)) 48 0 (3 * (12 * x + i) + 1) HID) 48 0 (3 * (12 * x + i) + 2) HID) := GS_t (GS_x a2) (GS_t (GS_48 (by omega)) (GS_t (GS_48 (by omega)) (GS_48 (by omega))))
    refine ⟨_, gg, RTx_s gg h1, ?_, ?_, ?_, fun j hj => ?_, ?_, ?_, uI_s, fun K F => ?_⟩
    · rw [uI_o (by decide), uI_o (by decide), uI_o (by decide)]; exact a3.2.2.1
    · rw [uI_o (by decide), uI_o (by decide), uI_o (by decide), a2.1 40 0 4 (by decide)]; exact h3
    · rw [uI_o (by decide), uI_o (by decide), uI_o (by decide)]; exact b49
    · obtain ⟨b1, b2, b3⟩ := h5 j hj
      refine ⟨?_, ?_, ?_⟩
      · rw [uI_n (by omega), uI_n (by omega), uI_n (by omega), a2.1 48 0 _ (by omega)]; exact b1
      · rw [uI_n (by omega), uI_n (by omega), uI_n (by omega), a2.1 48 0 _ (by omega)]; exact b2
      · rw [uI_n (by omega), uI_n (by omega), uI_n (by omega), a2.1 48 0 _ (by omega)]; exact b3
    · rw [uI_n (by omega), uI_n (by omega), uI_s]
    · rw [uI_n (by omega), uI_s]
    · rw [m_gS, a1, calV_s, m_askS rb.2.1 hl a3, calI_s, ald_n (t := 49) (n := 0) x rfl (by decide) (show x < 5 from hx), lt_s9, e, if_neg (nI_m9 (show k ≤ 240 by omega)), b49, e_off, ast_n (t := 48) (n := 0) (3 * (12 * x + i)) rfl (by decide) (show 3 * (12 * x + i) < 180 by omega), ← nI_succ, ast_n (t := 48) (n := 0) (3 * (12 * x + i) + 1) rfl (by decide) (show 3 * (12 * x + i) + 1 < 180 by omega), show nI (3 * (12 * x + i)) + 2 = nI (3 * (12 * x + i) + 2) from nI_add _ 2, ast_n (t := 48) (n := 0) (3 * (12 * x + i) + 2) rfl (by decide) (show 3 * (12 * x + i) + 2 < 180 by omega)]
      rfl
  rcases nmb (T := T) (p := tE T l (rn qB T l p)) (k := k) (i := i) (o := 3 * (12 * x + i)) hb hl tl hk hi ho with ⟨s, y1, y2, y3⟩ | ⟨a, b, q, y0, y1, y2, y3⟩
  · refine Or.inl ⟨s, y1, fun M hM => ?_, fun N hN => ?_⟩
    · obtain ⟨M3, a1, a2, a3, a4, a5, a6, a7, a8, a9, a10⟩ := c_tkS hl hp hM hi hk e hm
      obtain ⟨M2, b1, b2, b3⟩ := y2 M3 a2 a3 a5
      exact ⟨M2, FS_t a1 (FS_1 b1), b2, a10.trans b3⟩
    · obtain ⟨N1, a1, a2, a3, a4, a5, a6, a7, a8, a9, a10⟩ := mgo N hN
      obtain ⟨N2, b1, b2, b3⟩ := y3 N1 a2 a3 a4
      refine ⟨N2, GS_t a1 (GS_1 hi b1), b2, by rw [b1.1 49 0 x (by omega)]; exact a5, fun K F => ?_⟩
      rw [a10, b3, calV_s]
  · refine Or.inr ⟨a, b, nI k, q, y0, y1, fun M hM => ?_, fun N hN => ?_⟩
    · obtain ⟨M3, a1, a2, a3, a4, a5, a6, a7, a8, a9, a10⟩ := c_tkS hl hp hM hi hk e hm
      obtain ⟨M2, b1, b2, b3, b4, b5, b6⟩ := y2 M3 a2 a3 a5 a7 a8
      refine ⟨M2, FS_t a1 (FS_1 b1), ⟨CTx_1 b1 a2, b5, b4.trans a4, by rw [b1.1 8 4 3 (by omega)]; exact a5, fun j hj => ?_⟩, a10.trans b6⟩
      by_cases c : j = i
      · rw [c, pk_us, pk_us, pk_us]
        exact ⟨by rw [b1.1 9 4 i (by omega)]; exact a6, b2, b3⟩
      · rw [pk_un c, pk_un c, pk_un c, b1.1 9 4 j (by omega), b1.1 10 4 j (by omega), b1.1 11 4 j (by omega)]
        exact a9 j (by omega)
    · obtain ⟨N1, a1, a2, a3, a4, a5, a6, a7, a8, a9, a10⟩ := mgo N hN
      obtain ⟨N2, b1, b2, b3, b4, b5, b6⟩ := y3 N1 a2 a3 a4 a8 a9
      refine ⟨N2, GS_t a1 (GS_1 hi b1), RTx_1 b1 a2, b4, by rw [b1.1 49 0 x (by omega)]; exact a5, fun j hj => ?_, b5, fun K F => ?_⟩
      · by_cases c : j = i
        · rw [c, pk_us, pk_us, pk_us]
          exact ⟨by rw [b1.1 48 0 _ (by omega)]; exact a7, b2, b3⟩
        · rw [pk_un c, pk_un c, pk_un c, b1.1 48 0 _ (by omega), b1.1 48 0 _ (by omega), b1.1 48 0 _ (by omega)]
          exact a6 j (by omega)
      · rw [a10, b6, calV_s]
theorem c_gS {M : hM} (F : Nat) (hi : i < 12) : JX6_faultOfScript_22 cK (F + 1) 1 (nI i) M = calI (JX6_readStep M) fun x5 m4 =>
    if x5 = 0 then JX6_faultOfScript_22 cK F 0 (nI (i + 1)) m4 else calI (JX6_passMark (if 12 ≤ nI (i + 1) then 0 else 1) m4) fun x7 m6 => if x7 = 0 then JX6_faultOfScript_22 cK F 0 (nI (i + 1)) m6 else JX6_faultOfScript_22 cK F 1 (nI (i + 1)) m6 := by
  show bJX6_faultOfScript_22 _ _ _ _ _ = _
  unfold bJX6_faultOfScript_22 JX6_faultOfScript_53 JX6_faultOfScript_63 JX6_faultOfScript_64
  rw [if_neg (show ¬ (12 : Int32) ≤ nI i from nI_ge (b := 12) hi (by decide)), if_neg (show ¬ (1 : Int32) = 0 by decide), nI_succ]
  by_cases c : 12 ≤ nI i + 1
  · rw [if_pos c]
    congr 1; funext x5 m4
    rw [if_pos c]
  · rw [if_neg c]
    congr 1; funext x5 m4
    rw [if_neg c]
theorem scs (hb : ∀ i, i < l → bw (T i) 1 255) (hl : l ≤ 240) (hx : x < 5) : ∀ d i A B C p, i + d + 1 = 12 → p ≤ l → VSt A B C i → ∀ F G,
    ResS l x (SCc T l p A B C i) (SDd T l p x A B C i) (fun M => JX6_faultOfScript_22 cK (F + d + 2) 1 (nI i) M) (fun N => JX12_readScript_19 mK (nI x) (G + d + 2) 1 N) := by
  intro d
  induction d with
  | zero => 
    intro i A B C p hd hp hv F G
    obtain rfl : i = 11 := by omega
    rcases stp (A := A) (B := B) (C := C) hb hl hp (show 11 < 12 by decide) hx with ⟨s, y1, y2, y3⟩ | ⟨a, b, k, q, y0, y1, y2, y3⟩
    · refine Or.inl ⟨s, y1, fun M hM => ?_, fun N hN => ?_⟩
      · obtain ⟨M2, a1, a2, a3⟩ := y2 M hM
        refine ⟨M2, a1, ?_⟩
        show JX6_faultOfScript_22 cK (F + 1 + 1) 1 (nI 11) M = _
        rw [c_gS _ (by decide), a3, calI_s, if_pos rfl, c_nS]
        unfold cK; rw [a2]
      · obtain ⟨N2, a1, a2, a3, a4⟩ := y3 N hN
        refine ⟨uI N2 49 0 x (nI 12), GS_t a1 GS_49, ?_⟩
        have f4 : (uI N2 49 0 x (nI 12)).1 40 0 4 = nI s := by rw [uI_o (by decide)]; exact a2
        show JX12_readScript_19 mK (nI x) (G + 1 + 1) 1 N = _
        rw [a4, m_97a hx a3, if_neg (by rw [f4]; exact nI_m9 (by omega))]
        show JX12_readScript_19 mK (nI x) (G + 1) 0 (uI N2 49 0 x (nI 12)) = _
        rw [m_nS, mK_f (by omega) f4]
    have rq := rn_b (q := qB) (T := T) (l := l) (l - q) q rfl y1
    by_cases t0 : tK T l (rn qB T l q) = 0
    · refine Or.inr ⟨upd A 11 k, upd B 11 a, upd C 11 b, 12, Nat.le_refl _, fun j hj => ?_, fun M hM => ?_, fun N hN => ?_⟩
      · by_cases c : j = 11
        · rw [c, pk_us, pk_us, pk_us]; exact y0
        · rw [pk_un c, pk_un c, pk_un c]; exact hv j (by omega)
      · obtain ⟨M2, a1, a2, a3⟩ := y2 M hM
        refine ⟨uI M2 1 0 5 (nI (rn qB T l q)), FS_t a1 (FS_x (Cx_u (Or.inl rfl))), fun j hj => by rw [uI_o (by decide), uI_o (by decide), uI_o (by decide)]; exact a2.2.2.2.2 j hj, by rw [uI_o (by decide)]; exact a2.2.2.2.1, ?_⟩
        show JX6_faultOfScript_22 cK (F + 1 + 1) 1 (nI 11) M = _
        rw [c_gS _ (by decide), a3, calI_s, if_neg (show ¬ (1 : Int32) = 0 by decide), (c_pm y1 a2.1 a2.2.1).2.1 t0, calI_s, if_pos rfl, c_nS]
        unfold cK; rw [uI_n (by decide), a2.2.2.1]
      · obtain ⟨N2, a1, a2, a3, a4, a5, a6, a7⟩ := y3 N hN
        have f4 : (uI N2 49 0 x (nI 12)).1 40 0 4 = -1 := by rw [uI_o (by decide)]; exact a3
        have f5 : (uI N2 49 0 x (nI 12)).1 40 0 5 = 0 := by rw [uI_o (by decide)]; exact a6.2.1.trans t0
        refine ⟨uI N2 49 0 x (nI 12), GS_t a1 GS_49, fun j hj => by rw [uI_o (by decide), uI_o (by decide), uI_o (by decide)]; exact a5 j hj, uI_s, ?_⟩
        show JX12_readScript_19 mK (nI x) (G + 1 + 1) 1 N = _
        rw [a7, m_97a hx a4]
        show (if (uI N2 49 0 x (nI 12)).1 40 0 4 = -1 then (if (uI N2 49 0 x (nI 12)).1 40 0 5 = 3 then (if 12 ≤ nI 12 then JX12_readScript_19 mK (nI x) (G + 1) 0 (uI N2 49 0 x (nI 12)) else JX12_readScript_19 mK (nI x) (G + 1) 1 (uI N2 49 0 x (nI 12))) else JX12_readScript_19 mK (nI x) (G + 1) 0 (uI N2 49 0 x (nI 12))) else JX12_readScript_19 mK (nI x) (G + 1) 0 (uI N2 49 0 x (nI 12))) = _
        rw [if_pos f4, f5, if_neg (show ¬ (0 : Int32) = 3 by decide), m_nS]
        unfold mK
        rw [if_pos f4, if_pos f5, f4]
    · refine Or.inl ⟨rn qB T l q, rq.2.1, fun M hM => ?_, fun N hN => ?_⟩
      · obtain ⟨M2, a1, a2, a3⟩ := y2 M hM
        refine ⟨uI (uI M2 1 0 5 (nI (rn qB T l q))) 1 0 6 (nI (rn qB T l q)), FS_t a1 (FS_t (FS_x (Cx_u (Or.inl rfl))) (FS_x (Cx_u (Or.inr (Or.inl rfl))))), ?_⟩
        show JX6_faultOfScript_22 cK (F + 1 + 1) 1 (nI 11) M = _
        rw [c_gS _ (by decide), a3, calI_s, if_neg (show ¬ (1 : Int32) = 0 by decide), (c_pm y1 a2.1 a2.2.1).2.2 t0 _ (Or.inl (if_pos (by decide))), calI_s, if_pos rfl, c_nS]
        unfold cK; rw [uI_s]
      · obtain ⟨N2, a1, a2, a3, a4, a5, a6, a7⟩ := y3 N hN
        have f4 : (uI N2 49 0 x (nI 12)).1 40 0 4 = -1 := by rw [uI_o (by decide)]; exact a3
        have f5 : (uI N2 49 0 x (nI 12)).1 40 0 5 = tK T l (rn qB T l q) := by rw [uI_o (by decide)]; exact a6.2.1
        have f6 : (uI N2 49 0 x (nI 12)).1 40 0 6 = nI (rn qB T l q) := by rw [uI_o (by decide)]; exact a6.1
        refine ⟨uI (uI N2 49 0 x (nI 12)) 40 0 4 (nI (rn qB T l q)), GS_t a1 (GS_t GS_49 GS_4), ?_⟩
        show JX12_readScript_19 mK (nI x) (G + 1 + 1) 1 N = _
        have e0 : JX12_readScript_97 (fun v2 m => JX12_readScript_19 mK (nI x) (G + 1) v2 m) mK (nI x) N2 = mK (uI N2 49 0 x (nI 12)) := by
          rw [m_97a hx a4]
          show (if (uI N2 49 0 x (nI 12)).1 40 0 4 = -1 then (if (uI N2 49 0 x (nI 12)).1 40 0 5 = 3 then (if 12 ≤ nI 12 then JX12_readScript_19 mK (nI x) (G + 1) 0 (uI N2 49 0 x (nI 12)) else JX12_readScript_19 mK (nI x) (G + 1) 1 (uI N2 49 0 x (nI 12))) else JX12_readScript_19 mK (nI x) (G + 1) 0 (uI N2 49 0 x (nI 12))) else JX12_readScript_19 mK (nI x) (G + 1) 0 (uI N2 49 0 x (nI 12))) = _
          rw [if_pos f4, if_pos (show 12 ≤ nI 12 by decide)]
          by_cases c : (uI N2 49 0 x (nI 12)).1 40 0 5 = 3
          · rw [if_pos c, m_nS]
          · rw [if_neg c, m_nS]
        rw [a7, e0]
        unfold mK
        rw [if_pos f4, if_neg (by rw [f5]; exact t0), m_bad f4, calV_s, f6, uI_s]
  | succ d ih =>
    intro i A B C p hd hp hv F G
    have hi : i < 12 := by omega
    have n12 : ¬ (12 : Int32) ≤ nI (i + 1) := nI_ge (b := 12) (show i + 1 < 12 by omega) (by decide)
    rcases stp (A := A) (B := B) (C := C) hb hl hp hi hx with ⟨s, y1, y2, y3⟩ | ⟨a, b, k, q, y0, y1, y2, y3⟩
    · refine Or.inl ⟨s, y1, fun M hM => ?_, fun N hN => ?_⟩
      · obtain ⟨M2, a1, a2, a3⟩ := y2 M hM
        refine ⟨M2, a1, ?_⟩
        show JX6_faultOfScript_22 cK (F + (d + 1) + 1 + 1) 1 (nI i) M = _
        rw [c_gS _ hi, a3, calI_s, if_pos rfl, c_nS]
        unfold cK; rw [a2]
      · obtain ⟨N2, a1, a2, a3, a4⟩ := y3 N hN
        refine ⟨uI N2 49 0 x (nI (i + 1)), GS_t a1 GS_49, ?_⟩
        have f4 : (uI N2 49 0 x (nI (i + 1))).1 40 0 4 = nI s := by rw [uI_o (by decide)]; exact a2
        show JX12_readScript_19 mK (nI x) (G + (d + 1) + 1 + 1) 1 N = _
        rw [a4, m_97a hx a3, if_neg (by rw [f4]; exact nI_m9 (by omega)), m_nS, mK_f (by omega) f4]
    have rq := rn_b (q := qB) (T := T) (l := l) (l - q) q rfl y1
    have tq := (tE_le (T := T) rq.2.1).2
    have hv2 : VSt (upd A i k) (upd B i a) (upd C i b) (i + 1) := by
      intro j hj
      by_cases c : j = i
      · rw [c, pk_us, pk_us, pk_us]; exact y0
      · rw [pk_un c, pk_un c, pk_un c]; exact hv j (by omega)
    by_cases t3 : tK T l (rn qB T l q) = 3
    · refine ResS_st (fun M hM => ?_) (fun N hN => ?_) (ih (i + 1) (upd A i k) (upd B i a) (upd C i b) (tE T l (rn qB T l q)) (by omega) tq hv2 F G)
      · obtain ⟨M2, a1, a2, a3⟩ := y2 M hM
        refine ⟨uI M2 1 0 5 (nI (tE T l (rn qB T l q))), FS_t a1 (FS_x (Cx_u (Or.inl rfl))), ⟨CTx_u a2.1 (by decide), uI_s, by rw [uI_n (by decide)]; exact a2.2.2.1, by rw [uI_o (by decide)]; exact a2.2.2.2.1, fun j hj => by rw [uI_o (by decide), uI_o (by decide), uI_o (by decide)]; exact a2.2.2.2.2 j hj⟩, ?_⟩
        show JX6_faultOfScript_22 cK (F + d + 2 + 1) 1 (nI i) M = _
        rw [c_gS _ hi, a3, calI_s, if_neg (show ¬ (1 : Int32) = 0 by decide), if_neg n12, (c_pm y1 a2.1 a2.2.1).1 t3, calI_s, if_neg (show ¬ (1 : Int32) = 0 by decide)]
      · obtain ⟨N2, a1, a2, a3, a4, a5, a6, a7⟩ := y3 N hN
        have f4 : (uI N2 49 0 x (nI (i + 1))).1 40 0 4 = -1 := by rw [uI_o (by decide)]; exact a3
        have f5 : (uI N2 49 0 x (nI (i + 1))).1 40 0 5 = 3 := by rw [uI_o (by decide)]; exact a6.2.1.trans t3
        refine ⟨uI N2 49 0 x (nI (i + 1)), GS_t a1 GS_49, ⟨RTx_s GS_49 a2, by rw [uI_o (by decide)]; exact a6.2.2.1, f4, uI_s, fun j hj => by rw [uI_o (by decide), uI_o (by decide), uI_o (by decide)]; exact a5 j hj⟩, ?_⟩
        show JX12_readScript_19 mK (nI x) (G + d + 2 + 1) 1 N = _
        rw [a7, m_97a hx a4, if_pos f4, if_pos f5, if_neg n12]
    have e0 : ∀ N2 : hM, N2.1 49 0 x = nI i → N2.1 40 0 4 = -1 → Tok N2 T l (rn qB T l q) → JX12_readScript_97 (fun v2 m => JX12_readScript_19 mK (nI x) (G + (d + 1) + 1) v2 m) mK (nI x) N2 = mK (uI N2 49 0 x (nI (i + 1))) := by
      intro N2 a4 a3 a6
      have f4 : (uI N2 49 0 x (nI (i + 1))).1 40 0 4 = -1 := by rw [uI_o (by decide)]; exact a3
      have f5 : (uI N2 49 0 x (nI (i + 1))).1 40 0 5 = tK T l (rn qB T l q) := by rw [uI_o (by decide)]; exact a6.2.1
      rw [m_97a hx a4, if_pos f4, f5, if_neg t3, m_nS]
    by_cases t0 : tK T l (rn qB T l q) = 0
    · refine Or.inr ⟨upd A i k, upd B i a, upd C i b, i + 1, by omega, hv2, fun M hM => ?_, fun N hN => ?_⟩
      · obtain ⟨M2, a1, a2, a3⟩ := y2 M hM
        refine ⟨uI M2 1 0 5 (nI (rn qB T l q)), FS_t a1 (FS_x (Cx_u (Or.inl rfl))), fun j hj => by rw [uI_o (by decide), uI_o (by decide), uI_o (by decide)]; exact a2.2.2.2.2 j hj, by rw [uI_o (by decide)]; exact a2.2.2.2.1, ?_⟩
        show JX6_faultOfScript_22 cK (F + (d + 1) + 1 + 1) 1 (nI i) M = _
        rw [c_gS _ hi, a3, calI_s, if_neg (show ¬ (1 : Int32) = 0 by decide), (c_pm y1 a2.1 a2.2.1).2.1 t0, calI_s, if_pos rfl, c_nS]
        unfold cK; rw [uI_n (by decide), a2.2.2.1]
      · obtain ⟨N2, a1, a2, a3, a4, a5, a6, a7⟩ := y3 N hN
        have f4 : (uI N2 49 0 x (nI (i + 1))).1 40 0 4 = -1 := by rw [uI_o (by decide)]; exact a3
        have f5 : (uI N2 49 0 x (nI (i + 1))).1 40 0 5 = 0 := by rw [uI_o (by decide)]; exact a6.2.1.trans t0
        refine ⟨uI N2 49 0 x (nI (i + 1)), GS_t a1 GS_49, fun j hj => by rw [uI_o (by decide), uI_o (by decide), uI_o (by decide)]; exact a5 j hj, uI_s, ?_⟩
        show JX12_readScript_19 mK (nI x) (G + (d + 1) + 1 + 1) 1 N = _
        rw [a7, e0 N2 a4 a3 a6]
        unfold mK
        rw [if_pos f4, if_pos f5, f4]
    · refine Or.inl ⟨rn qB T l q, rq.2.1, fun M hM => ?_, fun N hN => ?_⟩
      · obtain ⟨M2, a1, a2, a3⟩ := y2 M hM
        refine ⟨uI (uI M2 1 0 5 (nI (rn qB T l q))) 1 0 6 (nI (rn qB T l q)), FS_t a1 (FS_t (FS_x (Cx_u (Or.inl rfl))) (FS_x (Cx_u (Or.inr (Or.inl rfl))))), ?_⟩
        show JX6_faultOfScript_22 cK (F + (d + 1) + 1 + 1) 1 (nI i) M = _
        rw [c_gS _ hi, a3, calI_s, if_neg (show ¬ (1 : Int32) = 0 by decide), (c_pm y1 a2.1 a2.2.1).2.2 t0 _ (Or.inr t3), calI_s, if_pos rfl, c_nS]
        unfold cK; rw [uI_s]
      · obtain ⟨N2, a1, a2, a3, a4, a5, a6, a7⟩ := y3 N hN
        have f4 : (uI N2 49 0 x (nI (i + 1))).1 40 0 4 = -1 := by rw [uI_o (by decide)]; exact a3
        have f5 : (uI N2 49 0 x (nI (i + 1))).1 40 0 5 = tK T l (rn qB T l q) := by rw [uI_o (by decide)]; exact a6.2.1
        have f6 : (uI N2 49 0 x (nI (i + 1))).1 40 0 6 = nI (rn qB T l q) := by rw [uI_o (by decide)]; exact a6.1
        refine ⟨uI (uI N2 49 0 x (nI (i + 1))) 40 0 4 (nI (rn qB T l q)), GS_t a1 (GS_t GS_49 GS_4), ?_⟩
        show JX12_readScript_19 mK (nI x) (G + (d + 1) + 1 + 1) 1 N = _
        rw [a7, e0 N2 a4 a3 a6]
        unfold mK
        rw [if_pos f4, if_neg (by rw [f5]; exact t0), m_bad f4, calV_s, f6, uI_s]
theorem scrT (hb : ∀ i, i < l → bw (T i) 1 255) (hl : l ≤ 240) (hx : x < 5) : ResS l x (fun M => CTx M T l) (fun N => RTx N T l) JX6_faultOfScript (JX12_readScript (nI x)) := by
  refine ResS_st (fun M hM => ?_) (fun N hN => ?_) (scs (T := T) (x := x) hb hl hx 11 0 (fun _ => 0) (fun _ => 0) (fun _ => 0) 0 (by decide) (by omega) (fun j hj => absurd hj (by omega)) 99987 99987)
  · have ff : FS M (uI (uI (uI M 1 0 5 0) 1 0 6 (-1)) 8 4 3 0) := FS_t (FS_x (Cx_u (Or.inl rfl))) (FS_t (FS_x (Cx_u (Or.inr (Or.inl rfl)))) (FS_u (by decide)))
    refine ⟨_, ff, ⟨CTx_s ff hM, ?_, ?_, ?_, fun j hj => absurd hj (by omega)⟩, ?_⟩
    · rw [uI_o (by decide), uI_n (by decide), uI_s]; rfl
    · rw [uI_o (by decide), uI_s]
    · rw [uI_s]; rfl
    · unfold JX6_faultOfScript
      rw [stI_s, stI_s, stI_s]
      rfl
  · have g0 : GS x N (uI N 40 0 3 0) := ⟨fun a b c q => uI_x (fun y => q (Or.inl ⟨y.1, Or.inl y.2.2⟩)), fun _ _ _ _ => rfl⟩
    have gg : GS x N (uI (uI (uI N 40 0 3 0) 40 0 4 (-1)) 49 0 x 0) := GS_t g0 (GS_t GS_4 GS_49)
    refine ⟨_, gg, ⟨RTx_s gg hN, ?_, ?_, ?_, fun j hj => absurd hj (by omega)⟩, ?_⟩
    · rw [uI_o (by decide), uI_n (by decide), uI_s]; rfl
    · rw [uI_o (by decide), uI_s]
    · rw [uI_s]; rfl
    · unfold JX12_readScript
      rw [stI_s, stI_s, ast_n (t := 49) (n := 0) x rfl (by decide) (show x < 5 from hx)]
      rfl
end
