/-! the clauses of a line, one after the other -/
def ctF (S : Nat → Bool) : Nat → Nat
  | 0 => 0
  | k + 1 => ctF S k + (if S k = true then 1 else 0)
def usB (S : Nat → Bool) (k : Nat) : Nat → Bool := fun j => if j = k then true else S j
theorem ctF_s (S : Nat → Bool) (k : Nat) : ctF S (k + 1) = ctF S k + (if S k = true then 1 else 0) := rfl
theorem usB_s (S : Nat → Bool) (k : Nat) : usB S k k = true := if_pos rfl
theorem usB_n {S : Nat → Bool} {k j : Nat} (h : j ≠ k) : usB S k j = S j := if_neg h
theorem ctF_le (S : Nat → Bool) : ∀ n, ctF S n ≤ n := by
  intro n
  induction n with
  | zero => exact Nat.le_refl 0
  | succ n ih => rw [ctF_s]; split <;> omega
theorem ctF_u {S : Nat → Bool} {k : Nat} (h : ¬ S k = true) : ∀ n, ctF (usB S k) n = ctF S n + (if k < n then 1 else 0) := by
  intro n
  induction n with
  | zero => rw [if_neg (by omega)]; rfl
  | succ n ih =>
    rw [ctF_s, ctF_s, ih]
    by_cases e : n = k
    · subst e
      rw [usB_s, if_pos rfl, if_neg h, if_neg (by omega), if_pos (by omega)]
    · rw [usB_n e]
      by_cases e2 : k < n
      · rw [if_pos e2, if_pos (show k < n + 1 by omega)]; omega
      · rw [if_neg e2, if_neg (show ¬ k < n + 1 by omega)]; omega
theorem ctF_f {S : Nat → Bool} {k n : Nat} (h : ¬ S k = true) (hk : k < n) : ctF S n + 1 ≤ n := by
  have a := ctF_u h n
  have b := ctF_le (usB S k) n
  rw [if_pos hk] at a
  omega
def FCl (M M2 : hM) : Prop := (∀ a b c, ¬ ((a = 1 ∧ (c = 5 ∨ c = 6 ∨ c = 7)) ∨ (5 ≤ a ∧ a ≤ 7 ∧ b = 1) ∨ a = 3) → M2.1 a b c = M.1 a b c) ∧ M2.2 = M.2
theorem FCl_t {a b c : hM} (h : FCl a b) (h2 : FCl b c) : FCl a c := ⟨fun x y z q => (h2.1 x y z q).trans (h.1 x y z q), h2.2.trans h.2⟩
theorem FCl_l {M M2 : hM} (h : FL M M2) : FCl M M2 := ⟨fun a b c q => h.1 a b c (fun z => q (z.elim Or.inl (fun y => Or.inr (Or.inl y)))), h.2⟩
theorem FCl_u {M : hM} {k : Nat} {x : Int32} (h : k = 5 ∨ k = 6 ∨ k = 7) : FCl M (uI M 1 0 k x) := ⟨fun a b c q => uI_x (fun y => q (Or.inl ⟨y.1, by rw [y.2.2]; exact h⟩)), rfl⟩
theorem FCl_3 {M : hM} {k : Nat} {x : Int32} : FCl M (uI M 3 0 k x) := ⟨fun a b c q => uI_x (fun y => q (Or.inr (Or.inr y.1))), rfl⟩
theorem CTx_c {M M2 : hM} {T : Nat → Int32} {l : Nat} (h : FCl M M2) (q : CTx M T l) : CTx M2 T l := ⟨by rw [h.1 1 0 4 (by decide)]; exact q.1, q.2.1, fun i hi => by rw [h.1 2 0 i (by omega)]; exact q.2.2 i hi⟩
theorem CL_u {M : hM} {k : Nat} {x : Int32} {f g h : Nat → Int32} {P W t : Nat} (ht : t < 5) (q : CL M f g h P W) : CL (uI M t 0 k x) f g h P W := ⟨fun j hj => by rw [uI_o (by omega)]; exact q.1 j hj, fun j hj => by rw [uI_o (by omega)]; exact q.2.1 j hj, fun j hj => by rw [uI_o (by omega)]; exact q.2.2 j hj⟩
section
variable {T : Nat → Int32} {l : Nat}
theorem nI_m9 {n : Nat} (h : n ≤ 240) : ¬ nI n = -1 := nI_m1' (by omega)
/-- where a word stands, the token ends with it -/
theorem wrd_end {s n : Nat} (h2 : s ≤ l) (e : ltr T l s = n) (h3 : 1 ≤ n) : tE T l s = s + n ∧ s + n ≤ l := by
  have rb := rn_b (q := qL) (T := T) (l := l) (l - s) s rfl h2
  have a : s < l := by
    rcases Nat.lt_or_ge s l with a | a
    · exact a
    · rw [ltr_0 a] at e; omega
  have b : qL (T s) = true := by
    by_cases b : qL (T s) = true
    · exact b
    · rw [ltr_n a b] at e; omega
  unfold tE
  rw [if_pos a, if_pos b]
  unfold ltr at e
  have := rb.1
  have := rb.2.1
  omega
theorem c_no {K : hM → hR} {M : hM} {v : Int32} (F : Nat) : JX6_faultOfLine_42 K (F + 1) 0 v M = K M := by
  show bJX6_faultOfLine_42 _ _ _ _ _ = _
  unfold bJX6_faultOfLine_42
  by_cases c : 13 < v
  · rw [if_pos c]
  · rw [if_neg c, if_pos rfl]
theorem c_63 {M : hM} {s : Nat} (hs : s ≤ 240) (h : M.1 1 0 6 = nI s) : JX6_faultOfLine_63 M = some (some (.inl (nI s)), M) := by
  unfold JX6_faultOfLine_63
  rw [h, if_neg (nI_m9 hs)]
theorem m_116 {N : hM} {s : Nat} {v : Int32} (hs : s ≤ 240) (h : N.1 40 0 4 = nI s) : JX12_readLine_116 v N = some (some (.inl (nI s)), N) := by
  unfold JX12_readLine_116
  rw [h, if_neg (nI_m9 hs)]
theorem m_no {K : Int32 → hM → hR} {N : hM} {v : Int32} (F : Nat) : JX12_readLine_38 K (F + 1) v 0 N = K v N := by
  show bJX12_readLine_38 _ _ _ _ _ = _
  unfold bJX12_readLine_38
  rw [if_pos rfl]
theorem m_91 {K1 : Int32 → Int32 → hM → hR} {K : Int32 → hM → hR} {N : hM} {v : Int32} {s : Nat} (hs : s ≤ 240) (h : N.1 40 0 4 = nI s) : JX12_readLine_91 K1 K v N = K1 v 0 N := by
  unfold JX12_readLine_91 JX12_readLine_111 JX12_readLine_112
  rw [h, if_neg (nI_m9 hs)]
/-- the clause's word: refused -/
theorem c_rf {M : hM} {p : Nat} {S : Nat → Bool} (h1 : p ≤ l) (h3 : CTx M T l) (h4 : M.1 1 0 5 = nI p) (h5 : ∀ j, j < 13 → M.1 3 0 j = if S j = true then 1 else 0)
    (h6 : ∀ k, k < 13 → ffn (mtC T l (rn qB T l p)) 13 0 = nI k → S k = true) :
    JX6_readClause M = some (some (.inl 0), uI (uI M 1 0 5 (nI (rn qB T l p))) 1 0 6 (nI (rn qB T l p))) := by
  have rb := rn_b (q := qB) (T := T) (l := l) (l - p) p rfl h1
  have e36 : JX6_readClause_36 (uI M 1 0 5 (nI (rn qB T l p))) = some (some (.inl 0), uI (uI M 1 0 5 (nI (rn qB T l p))) 1 0 6 (nI (rn qB T l p))) := by
    unfold JX6_readClause_36 JX6_refuseAt
    rw [uI_s, stI_s, jretZ_0, calI_s, jretZ_0]
  unfold JX6_readClause
  rw [c_skip h1 h3 h4, calV_s, c_wrdC rb.2.1 (CTx_u h3 (by decide)) uI_s, calI_s]
  rcases ffn_b (mtC T l (rn qB T l p)) 13 0 with e | ⟨k, k1, k2, e, e2⟩
  · rw [e, if_pos (by decide)]
    exact e36
  · have k3 : k < 13 := by omega
    have kt := nI_toInt (n := k) (by omega)
    have n1 : ¬ nI k < 0 := by rw [Int32.lt_iff_toInt_lt, kt]; exact Int.not_lt.mpr (Int.natCast_nonneg k)
    have n2 : ¬ (13 : Int32) ≤ nI k := nI_ge (b := 13) k3 (by decide)
    rw [e, if_neg n1, if_neg n2, if_neg n2, zald_n (t := 3) (n := 0) k rfl (by decide) (show k < 13 from k3), uI_o (by decide), h5 k k3, if_pos (h6 k k3 e), if_neg (by decide)]
    exact e36
theorem c_tk {M : hM} {p k : Nat} {S : Nat → Bool} (h1 : p ≤ l) (h3 : CTx M T l) (h4 : M.1 1 0 5 = nI p) (h5 : ∀ j, j < 13 → M.1 3 0 j = if S j = true then 1 else 0)
    (hk : k < 13) (e : ffn (mtC T l (rn qB T l p)) 13 0 = nI k) (h6 : ¬ S k = true) :
    JX6_readClause M = JX6_readClause_79 (fun m17 => jretZ 0 m17) (fun m18 => JX6_readClause_155 m18) (nI k) k FU 1 0 (uI (uI (uI M 1 0 5 (nI (rn qB T l p))) 3 0 k 1) 1 0 5 (nI (rn qB T l p + lnC k))) := by
  have rb := rn_b (q := qB) (T := T) (l := l) (l - p) p rfl h1
  have kt := nI_toInt (n := k) (by omega)
  have n1 : ¬ nI k < 0 := by rw [Int32.lt_iff_toInt_lt, kt]; exact Int.not_lt.mpr (Int.natCast_nonneg k)
  have n2 : ¬ (13 : Int32) ≤ nI k := nI_ge (b := 13) hk (by decide)
  unfold JX6_readClause
  rw [c_skip h1 h3 h4, calV_s, c_wrdC rb.2.1 (CTx_u h3 (by decide)) uI_s, calI_s, e, if_neg n1, if_neg n2, if_neg n2, zald_n (t := 3) (n := 0) k rfl (by decide) (show k < 13 from hk), uI_o (by decide), h5 k hk, if_neg h6, if_pos rfl, zast_n (t := 3) (n := 0) k rfl (by decide) (show k < 13 from hk) (Or.inr rfl), eal_s (inb_nI hk (by decide)), nI_clamp (show k < 2 ^ 31 by omega), e_lenC _ hk, calI_s, stI_s, uI_o (by decide), uI_s, nI_add]
/-- the mark behind a clause -/
theorem c_mk {M : hM} {q : Nat} (h1 : q ≤ l) (h3 : CTx M T l) (h4 : M.1 1 0 5 = nI q) :
    (tK T l (rn qB T l q) = 3 → JX6_readClause_155 M = some (some (.inl 1), uI M 1 0 5 (nI (tE T l (rn qB T l q))))) ∧
    (tK T l (rn qB T l q) = 0 → JX6_readClause_155 M = some (some (.inl 0), uI M 1 0 5 (nI (rn qB T l q)))) ∧
    (tK T l (rn qB T l q) ≠ 0 → tK T l (rn qB T l q) ≠ 3 → JX6_readClause_155 M = some (some (.inl 0), uI (uI M 1 0 5 (nI (rn qB T l q))) 1 0 6 (nI (rn qB T l q)))) := by
  have rb := rn_b (q := qB) (T := T) (l := l) (l - q) q rfl h1
  have k3 := tK_x (T := T) (l := l) (s := rn qB T l q) (x := 59) (r := 3) (Or.inl ⟨rfl, rfl⟩)
  have sk : JX6_skipBlanks (uI M 1 0 5 (nI (rn qB T l q))) = some (none, uI M 1 0 5 (nI (rn qB T l q))) := by
    rw [c_skip rb.2.1 (CTx_u h3 (by decide)) uI_s, rn_i h1, uI_id uI_s]
  have l4 : (uI M 1 0 5 (nI (rn qB T l q))).1 1 0 4 = nI l := by rw [uI_n (by omega)]; exact h3.1
  have h24 := h3.2.1
  refine ⟨fun a => ?_, fun a => ?_, fun a b => ?_⟩
  · unfold JX6_readClause_155 JX6_passMark
    rw [if_neg (by decide), c_passB (by decide) h1 h3 h4, if_pos (k3.1.mp a), calI_s, if_neg (by decide), jretZ_1, calI_s, jretZ_1, (k3.2 a).1]
  · have e : ¬ tK T l (rn qB T l q) = 3 := by rw [a]; decide
    have e2 : rn qB T l q = l := by
      rcases Nat.lt_or_ge (rn qB T l q) l with z | z
      · exact absurd a (tK_0 z)
      · omega
    unfold JX6_readClause_155 JX6_passMark JX6_passMark_15
    rw [if_neg (by decide), c_passB (by decide) h1 h3 h4, if_neg (fun z => e (k3.1.mpr z)), calI_s, if_pos rfl, sk, calV_s, l4, uI_s, e2, if_pos (Int32.le_refl _), jretZ_0, calI_s, jretZ_0]
  · have e2 : rn qB T l q < l := by
      rcases Nat.lt_or_ge (rn qB T l q) l with z | z
      · exact z
      · exact absurd (show tK T l (rn qB T l q) = 0 by unfold tK; rw [if_neg (by omega)]) a
    have n2 : ¬ nI l ≤ nI (rn qB T l q) := by rw [Int32.le_iff_toInt_le, nI_toInt (by omega), nI_toInt (by omega)]; omega
    unfold JX6_readClause_155 JX6_passMark JX6_passMark_15 JX6_refuseAt
    rw [if_neg (by decide), c_passB (by decide) h1 h3 h4, if_neg (fun z => b (k3.1.mpr z)), calI_s, if_pos rfl, sk, calV_s, l4, uI_s, if_neg n2, stI_s, jretZ_0, calI_s, if_pos rfl, jretZ_0, calI_s, jretZ_0]
end
