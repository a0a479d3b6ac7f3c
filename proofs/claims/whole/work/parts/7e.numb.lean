/-! numbers of both -/
def NR (a b : Int32) : Prop := (a = b ∧ bw a 0 99999) ∨ (a = 100000 ∧ bw b 100000 9999999)
theorem dg_i {v c : Int32} (hv : bw v 0 9999999) (hc : bw c 48 57) : (((v * 10) + c) - 48).toInt = 10 * v.toInt + c.toInt - 48 ∧ (((10 * v) + c) - 48).toInt = 10 * v.toInt + c.toInt - 48 := by
  have v1 := hv.1; have v2 := hv.2; have c1 := hc.1; have c2 := hc.2
  have e10 : (10 : Int32).toInt = 10 := by decide
  have e48 : (48 : Int32).toInt = 48 := by decide
  have p : (v * 10).toInt = 10 * v.toInt := by rw [j_mul (by rw [e10]; omega) (by rw [e10]; omega), e10]; omega
  have r : v * 10 + c - 48 = 10 * v + c - 48 := by rw [Int32.mul_comm]
  have q : (v * 10 + c).toInt = 10 * v.toInt + c.toInt := by rw [j_add (by rw [p]; omega) (by rw [p]; omega), p]
  have w : (v * 10 + c - 48).toInt = 10 * v.toInt + c.toInt - 48 := by rw [j_sub (by rw [q, e48]; omega) (by rw [q, e48]; omega), q, e48]
  exact ⟨w, by rw [← r]; exact w⟩
theorem NR_s {a b c : Int32} (h : NR a b) (hc : bw c 48 57) : NR (stK a c) (stR b c) := by
  have c1 := hc.1; have c2 := hc.2
  have e5 : (100000 : Int32).toInt = 100000 := by decide
  have e6 : (1000000 : Int32).toInt = 1000000 := by decide
  unfold stK stR
  rcases h with ⟨e, h⟩ | ⟨e, h⟩
  · subst e
    have h1 := h.1; have h2 := h.2
    have d := dg_i (v := a) ⟨h.1, by omega⟩ hc
    rw [if_pos (Int32.lt_iff_toInt_lt.mpr (by rw [e6]; omega))]
    have eq : a * 10 + c - 48 = 10 * a + c - 48 := by rw [Int32.mul_comm]
    by_cases x : (100000 : Int32) < a * 10 + c - 48
    · have y := Int32.lt_iff_toInt_lt.mp x
      rw [e5, d.1] at y
      refine Or.inr ⟨by unfold hmn; rw [if_pos x], by rw [d.2]; omega, by rw [d.2]; omega⟩
    · have y : ¬ (100000 : Int32).toInt < (a * 10 + c - 48).toInt := fun z => x (Int32.lt_iff_toInt_lt.mpr z)
      rw [e5, d.1] at y
      by_cases w : a * 10 + c - 48 = 100000
      · refine Or.inr ⟨by unfold hmn; rw [if_neg x]; exact w, ?_⟩
        rw [← eq, w]
        exact ⟨by rw [e5]; omega, by rw [e5]; omega⟩
      · have w2 : (a * 10 + c - 48).toInt ≠ 100000 := fun z => w (Int32.toInt_inj.mp (by rw [z, e5]))
        rw [d.1] at w2
        refine Or.inl ⟨by unfold hmn; rw [if_neg x]; exact eq, ?_⟩
        unfold hmn
        rw [if_neg x]
        exact ⟨by rw [d.1]; omega, by rw [d.1]; omega⟩
  · subst e
    have h1 := h.1; have h2 := h.2
    have d := dg_i (v := (100000 : Int32)) ⟨by rw [e5]; omega, by rw [e5]; omega⟩ hc
    rw [e5] at d
    refine Or.inr ⟨?_, ?_⟩
    · unfold hmn
      rw [if_pos (Int32.lt_iff_toInt_lt.mpr (by rw [d.1, e5]; omega))]
    · have d2 := dg_i (v := b) ⟨by omega, h.2⟩ hc
      by_cases x : b < 1000000
      · have y := Int32.lt_iff_toInt_lt.mp x
        rw [e6] at y
        rw [if_pos x]
        exact ⟨by rw [d2.2]; omega, by rw [d2.2]; omega⟩
      · rw [if_neg x]
        exact ⟨by rw [e6]; omega, by rw [e6]; omega⟩
theorem NR_n {T : Nat → Int32} : ∀ n p a b, (∀ i, p ≤ i → i < p + n → qD (T i) = true) → NR a b → NR (nF stK T n p a) (nF stR T n p b) := by
  intro n
  induction n with
  | zero => intro p a b _ h; exact h
  | succ n ih =>
    intro p a b hq h
    have c := hwi_bw (qD_y (hq p (Nat.le_refl _) (by omega)))
    exact ih (p + 1) _ _ (fun i h1 h2 => hq i (by omega) (by omega)) (NR_s h ⟨c.1, c.2⟩)
theorem NR_w {a b lo hi : Int32} (h : NR a b) (h1 : bw lo (-255) 255) (h2 : bw hi (-255) 255) : hwi a lo hi = hwi b lo hi ∧ (hwi a lo hi = 1 → a = b) ∧ hwi (-a) lo hi = hwi (-b) lo hi ∧ (hwi (-a) lo hi = 1 → -a = -b) := by
  rcases h with ⟨e, h⟩ | ⟨e, h⟩
  · rw [e]; exact ⟨rfl, fun _ => rfl, rfl, fun _ => rfl⟩
  · have x1 := h1.1; have x2 := h1.2; have y1 := h2.1; have y2 := h2.2; have z1 := h.1; have z2 := h.2
    have e5 : (100000 : Int32).toInt = 100000 := by decide
    have nb : (-b).toInt = -b.toInt := j_neg (by omega) (by omega)
    have up : ∀ x : Int32, 100000 ≤ x.toInt → hwi x lo hi = 0 := fun x hx => by
      unfold hwi
      rw [if_pos (show hi < x from Int32.lt_iff_toInt_lt.mpr (by omega))]
      by_cases c : x < lo
      · rw [if_pos c]
      · rw [if_neg c]
    have dn : ∀ x : Int32, x.toInt ≤ -100000 → hwi x lo hi = 0 := fun x hx => by
      unfold hwi
      rw [if_pos (show x < lo from Int32.lt_iff_toInt_lt.mpr (by omega))]
    have a1 := up a (by rw [e, e5]; omega)
    have b1 := up b (by omega)
    have a2 := dn (-a) (by rw [e]; decide)
    have b2 := dn (-b) (by rw [nb]; omega)
    rw [a1, b1, a2, b2]
    exact ⟨rfl, fun z => absurd z (by decide), rfl, fun z => absurd z (by decide)⟩
section
variable {T : Nat → Int32} {l s p : Nat}
/-- where the digits begin -/
def tD (T : Nat → Int32) (l s : Nat) : Nat := if tA T l s = 45 then s + 1 else s
theorem tK_2 : (tK T l s = 2 ↔ qD (tA T l (tD T l s)) = true) ∧ (tK T l s = 2 → tE T l s = rn qD T l (tD T l s) ∧ s < l) ∧ ∀ f, tV f T l s = (if T s = 45 then -(nF f T (dgt T l (s + 1)) (s + 1) 0) else nF f T (dgt T l s) s 0) := by
  refine ⟨?_, ?_, fun f => rfl⟩
  · unfold tK tD
    by_cases c : s < l
    · rw [if_pos c, tA_y c]
      by_cases c1 : qL (T s) = true
      · have n45 : ¬ T s = 45 := fun e => by rw [e] at c1; exact absurd c1 (by decide)
        have nd : ¬ qD (T s) = true := fun e => by
          have a := hwi_bw (qL_y c1); have b := hwi_bw (qD_y e)
          have a1 := a.1; have b1 := b.2
          rw [show (97 : Int32).toInt = 97 from by decide] at a1
          rw [show (57 : Int32).toInt = 57 from by decide] at b1
          omega
        rw [if_pos c1, if_neg n45, tA_y c]
        exact ⟨fun z => absurd z (by decide), fun z => absurd z nd⟩
      · rw [if_neg c1]
        by_cases c2 : qD (T s) = true
        · have n45 : ¬ T s = 45 := fun e => by rw [e] at c2; exact absurd c2 (by decide)
          rw [if_pos c2, if_neg n45, tA_y c]
          exact ⟨fun _ => c2, fun _ => rfl⟩
        · rw [if_neg c2]
          by_cases c3 : T s = 45
          · rw [if_pos c3, if_pos c3]
            by_cases c4 : qD (tA T l (s + 1)) = true
            · rw [if_pos c4]; exact ⟨fun _ => c4, fun _ => rfl⟩
            · rw [if_neg c4]; exact ⟨fun z => absurd z (by decide), fun z => absurd z c4⟩
          · rw [if_neg c3, if_neg c3, tA_y c]
            refine ⟨fun z => ?_, fun z => absurd z c2⟩
            by_cases c5 : T s = 59
            · rw [if_pos c5] at z; exact absurd z (by decide)
            · rw [if_neg c5] at z
              by_cases c6 : T s = 44
              · rw [if_pos c6] at z; exact absurd z (by decide)
              · rw [if_neg c6] at z; exact absurd z (by decide)
    · rw [if_neg c, tA_n c, if_neg (by decide), tA_n c]
      exact ⟨fun z => absurd z (by decide), fun z => absurd z qD_m1⟩
  · intro h
    unfold tK at h
    unfold tE tD
    by_cases c : s < l
    · rw [if_pos c] at h
      rw [if_pos c, tA_y c]
      by_cases c1 : qL (T s) = true
      · rw [if_pos c1] at h; exact absurd h (by decide)
      · rw [if_neg c1] at h
        rw [if_neg c1]
        by_cases c2 : qD (T s) = true
        · have n45 : ¬ T s = 45 := fun e => by rw [e] at c2; exact absurd c2 (by decide)
          rw [if_pos c2, if_neg n45]; exact ⟨rfl, c⟩
        · rw [if_neg c2] at h
          rw [if_neg c2]
          by_cases c3 : T s = 45
          · rw [if_pos c3] at h
            rw [if_pos c3, if_pos c3]
            by_cases c4 : qD (tA T l (s + 1)) = true
            · rw [if_pos c4]; exact ⟨rfl, c⟩
            · rw [if_neg c4] at h; exact absurd h (by decide)
          · rw [if_neg c3] at h
            by_cases c5 : T s = 59
            · rw [if_pos c5] at h; exact absurd h (by decide)
            · rw [if_neg c5] at h
              by_cases c6 : T s = 44
              · rw [if_pos c6] at h; exact absurd h (by decide)
              · rw [if_neg c6] at h; exact absurd h (by decide)
    · rw [if_neg c] at h; exact absurd h (by decide)
theorem tV_w {lo hi : Int32} (h : tK T l s = 2) (h1 : bw lo (-255) 255) (h2 : bw hi (-255) 255) : hwi (tV stK T l s) lo hi = hwi (tV stR T l s) lo hi ∧ (hwi (tV stK T l s) lo hi = 1 → tV stK T l s = tV stR T l s) := by
  have nr : ∀ p, p ≤ l → NR (nF stK T (dgt T l p) p 0) (nF stR T (dgt T l p) p 0) := fun p hp => by
    have rb := rn_b (q := qD) (T := T) (l := l) (l - p) p rfl hp
    refine NR_n _ _ _ _ (fun i a b => rb.2.2.1 i a ?_) (Or.inl ⟨rfl, by decide, by decide⟩)
    unfold dgt at b
    omega
  have hs := (tK_2.2.1 h).2
  unfold tV
  by_cases c : T s = 45
  · rw [if_pos c, if_pos c]
    exact ⟨(NR_w (nr (s + 1) (by omega)) h1 h2).2.2.1, (NR_w (nr (s + 1) (by omega)) h1 h2).2.2.2⟩
  · rw [if_neg c, if_neg c]
    exact ⟨(NR_w (nr s (by omega)) h1 h2).1, (NR_w (nr s (by omega)) h1 h2).2.1⟩
end
/-- alike but for the place, the fault and the number of the reader -/
def Cx (m M : hM) : Prop := (∀ a b c, ¬ (a = 1 ∧ (c = 5 ∨ c = 6 ∨ c = 7)) → M.1 a b c = m.1 a b c) ∧ M.2 = m.2
theorem Cx_r (m : hM) : Cx m m := ⟨fun _ _ _ _ => rfl, rfl⟩
theorem Cx_t {a b c : hM} (h : Cx a b) (h2 : Cx b c) : Cx a c := ⟨fun x y z q => (h2.1 x y z q).trans (h.1 x y z q), h2.2.trans h.2⟩
theorem Cx_u {m : hM} {k : Nat} {x : Int32} (h : k = 5 ∨ k = 6 ∨ k = 7) : Cx m (uI m 1 0 k x) := ⟨fun a b c q => uI_n (by omega), rfl⟩
theorem CTx_x {m M : hM} {T : Nat → Int32} {l : Nat} (h : Cx m M) (q : CTx m T l) : CTx M T l := ⟨by rw [h.1 1 0 4 (by decide)]; exact q.1, q.2.1, fun i hi => by rw [h.1 2 0 i (by omega)]; exact q.2.2 i hi⟩
section
variable {T : Nat → Int32} {l p : Nat} {M : hM}
theorem c_num0 {K : Int32 → Int32 → hM → hR} {v1 v2 v3 v4 : Int32} : ∀ k p v, l - p = k → p ≤ l → CTx M T l → ∀ F, JX6_readNumber_70 K v1 v2 v3 v4 (F + k + 1) (nI p) v M = K (nI (rn qD T l p)) (nF stK T (dgt T l p) p v) M := by
  intro k
  induction k with
  | zero =>
    intro p v h1 h2 h3 F
    have l2 := h3.2.1
    show bJX6_readNumber_70 _ _ _ _ _ _ _ _ _ = _
    unfold bJX6_readNumber_70
    rw [h3.1, if_pos (nI_le (by omega) (by omega)), rn_e (by omega), dgt_0 (by omega)]
    rfl
  | succ k ih =>
    intro p v h1 h2 h3 F
    have l2 := h3.2.1
    show bJX6_readNumber_70 _ _ _ _ _ _ _ _ _ = _
    unfold bJX6_readNumber_70
    rw [h3.1, if_neg (nI_ge (by omega) (by omega)), c_at h3 (by omega), calI_s, tA_y (by omega), e_cD, calI_s]
    by_cases c : qD (T p) = true
    · rw [qD_y c, if_neg (by decide), c_at h3 (by omega), calI_s, tA_y (by omega), e_min, calI_s, ← nI_succ, dgt_y (by omega) c, rn_y (by omega) c]
      exact ih (p + 1) _ (by omega) (by omega) h3 F
    · rw [qD_n c, if_pos rfl, rn_n (by omega) c, dgt_n (by omega) c]
      rfl
theorem c_rdn {lo hi : Int32} (h2 : p ≤ l) (h3 : CTx M T l) (h4 : M.1 1 0 5 = nI p) : (tK T l (rn qB T l p) = 2 ∧ hwi (tV stK T l (rn qB T l p)) lo hi = 1 → ∃ M2, JX6_readNumber lo hi M = some (some (.inl 1), M2) ∧ Cx M M2 ∧ M2.1 1 0 5 = nI (tE T l (rn qB T l p)) ∧ M2.1 1 0 6 = M.1 1 0 6 ∧ M2.1 1 0 7 = tV stK T l (rn qB T l p)) ∧ (¬ (tK T l (rn qB T l p) = 2 ∧ hwi (tV stK T l (rn qB T l p)) lo hi = 1) → ∃ M2, JX6_readNumber lo hi M = some (some (.inl 0), M2) ∧ Cx M M2 ∧ M2.1 1 0 6 = nI (rn qB T l p)) := by
  have l2 := h3.2.1
  obtain ⟨r1, r2, _, _⟩ := rn_b (q := qB) (T := T) (l := l) (l - p) p rfl h2
  have sk := c_skip h2 h3 h4
  generalize rn qB T l p = s at *
  have x3 : CTx (uI M 1 0 5 (nI s)) T l := CTx_u h3 (by decide)
  have xc : Cx M (uI M 1 0 5 (nI s)) := Cx_u (by decide)
  have x5 : (uI M 1 0 5 (nI s)).1 1 0 5 = nI s := uI_s
  have x6 : (uI M 1 0 5 (nI s)).1 1 0 6 = M.1 1 0 6 := uI_n (by decide)
  -- from the place where the digits must begin
  have e47 : ∀ v4 : Int32, ∀ a, a ≤ l + 1 → (qD (tA T l a) = true → JX6_readNumber_47 lo hi (nI s) v4 (nI a) (uI M 1 0 5 (nI s)) = JX6_readNumber_119 lo hi (nI s) v4 (nI (rn qD T l a)) (nF stK T (dgt T l a) a 0) (uI M 1 0 5 (nI s))) ∧ (¬ qD (tA T l a) = true → JX6_readNumber_47 lo hi (nI s) v4 (nI a) (uI M 1 0 5 (nI s)) = some (some (.inl 0), uI (uI M 1 0 5 (nI s)) 1 0 6 (nI s))) := fun v4 a ha => by
    unfold JX6_readNumber_47
    rw [c_at x3 (by omega), calI_s, e_cD, calI_s]
    refine ⟨fun c => ?_, fun c => ?_⟩
    · have al : a < l := by
        by_cases z : a < l
        · exact z
        · rw [tA_n z] at c; exact absurd c qD_m1
      rw [qD_y c, if_neg (by decide)]
      have z := c_num0 (K := fun v5 v6 m17 => JX6_readNumber_119 lo hi (nI s) v4 v5 v6 m17) (v1 := lo) (v2 := hi) (v3 := nI s) (v4 := v4) (l - a) a 0 rfl (by omega) x3 (100000 - (l - a) - 1)
      rw [show 100000 - (l - a) - 1 + (l - a) + 1 = FU from by rw [FU_eq]; omega] at z
      exact z
    · rw [qD_n c, if_pos rfl]
      unfold JX6_refuseAt
      rw [stI_s, jretZ_0, calI_s, jretZ_0]
  have e133 : ∀ e v, JX6_readNumber_133 lo hi (nI s) (nI e) v (uI M 1 0 5 (nI s)) = if hwi v lo hi = 1 then some (some (.inl 1), uI (uI (uI M 1 0 5 (nI s)) 1 0 7 v) 1 0 5 (nI e)) else some (some (.inl 0), uI (uI (uI M 1 0 5 (nI s)) 1 0 7 v) 1 0 6 (nI s)) := fun e v => by
    unfold JX6_readNumber_133
    rw [stI_s, uI_s, e_within, calI_s]
    by_cases c : hwi v lo hi = 1
    · rw [if_pos c, c, if_neg (by decide), stI_s, jretZ_1]
    · have c0 := (hwi_b v lo hi).resolve_right c
      rw [if_neg c, c0, if_pos rfl]
      unfold JX6_refuseAt
      rw [stI_s, jretZ_0, calI_s, jretZ_0]
  have start : JX6_readNumber lo hi M = if tA T l s = 45 then JX6_readNumber_47 lo hi (nI s) 1 (nI (s + 1)) (uI M 1 0 5 (nI s)) else JX6_readNumber_47 lo hi (nI s) 0 (nI s) (uI M 1 0 5 (nI s)) := by
    unfold JX6_readNumber JX6_readNumber_27
    rw [sk, calV_s, lt_s9, uI_s, c_at x3 (by omega), calI_s, if_neg (show ¬ (1 : Int32) = 0 by decide), if_pos (rfl : (0 : Int32) = 0), uI_s, ← nI_succ]
  obtain ⟨t1, t2, t3⟩ := tK_2 (T := T) (l := l) (s := s)
  have hs1 : tA T l s = 45 → s < l := fun z => by
    by_cases y : s < l
    · exact y
    · rw [tA_n y] at z; exact absurd z (by decide)
  -- all in one
  have all : JX6_readNumber lo hi M = if qD (tA T l (tD T l s)) = true then (if hwi (tV stK T l s) lo hi = 1 then some (some (.inl 1), uI (uI (uI M 1 0 5 (nI s)) 1 0 7 (tV stK T l s)) 1 0 5 (nI (rn qD T l (tD T l s)))) else some (some (.inl 0), uI (uI (uI M 1 0 5 (nI s)) 1 0 7 (tV stK T l s)) 1 0 6 (nI s))) else some (some (.inl 0), uI (uI M 1 0 5 (nI s)) 1 0 6 (nI s)) := by
    rw [start]
    unfold tD tV
    by_cases c : tA T l s = 45
    · have cs := hs1 c
      have c' := c
      rw [tA_y cs] at c'
      rw [if_pos c, if_pos c, if_pos c']
      by_cases d : qD (tA T l (s + 1)) = true
      · rw [((e47 1 (s + 1) (by omega)).1 d), if_pos d]
        unfold JX6_readNumber_119
        rw [if_neg (by decide), e133]
      · rw [((e47 1 (s + 1) (by omega)).2 d), if_neg d]
    · rw [if_neg c, if_neg c]
      by_cases d : qD (tA T l s) = true
      · have cs : s < l := by
          by_cases y : s < l
          · exact y
          · rw [tA_n y] at d; exact absurd d qD_m1
        have c' := c
        rw [tA_y cs] at c'
        rw [((e47 0 s (by omega)).1 d), if_pos d, if_neg c']
        unfold JX6_readNumber_119
        rw [if_pos rfl, e133]
      · rw [((e47 0 s (by omega)).2 d), if_neg d]
  refine ⟨fun ⟨k2, w⟩ => ?_, fun k => ?_⟩
  · rw [if_pos (t1.mp k2), if_pos w] at all
    refine ⟨_, all, Cx_t xc (Cx_t (Cx_u (by decide)) (Cx_u (by decide))), by rw [uI_s, (t2 k2).1], by rw [uI_n (by decide), uI_n (by decide)]; exact x6, by rw [uI_n (by decide), uI_s]⟩
  · by_cases d : qD (tA T l (tD T l s)) = true
    · rw [if_pos d, if_neg (fun w => k ⟨t1.mpr d, w⟩)] at all
      exact ⟨_, all, Cx_t xc (Cx_t (Cx_u (by decide)) (Cx_u (by decide))), uI_s⟩
    · rw [if_neg d] at all
      exact ⟨_, all, Cx_t xc (Cx_u (by decide)), uI_s⟩
end
