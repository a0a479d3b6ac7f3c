/-! improved -/
def shT (p : Nat → Int32) (F D P ph : Nat) (row : Int32) (i : Nat) : Int32 := if i < F then shF p P ph row i else (-64) * bsg row (nI (D + 1 + (i - F)))
theorem zRw_sum {p : Nat → Int32} {F B D P ph : Nat} {v : Nat → Int32} {row : Int32} (hB : B ≤ 3) : zRw p F B D P ph v row 0 = sumN (fun i => v i * shT p F D P ph row i) (F + B) := by
  unfold zRw
  have e0 : zFo p P ph v row F = sumN (fun i => v i * shT p F D P ph row i) F := by
    unfold zFo
    apply sumN_congr
    intro i hi
    unfold shT
    rw [if_pos hi]
  have e : ∀ n, n ≤ B → fr (zBk F D v row 0) (zFo p P ph v row F) n = sumN (fun i => v i * shT p F D P ph row i) (F + n) := by
    intro n
    induction n with
    | zero => intro _; exact e0
    | succ n ih =>
      intro hn
      show zBk F D v row 0 n (fr (zBk F D v row 0) (zFo p P ph v row F) n) = sumN (fun i => v i * shT p F D P ph row i) (F + n) + v (F + n) * shT p F D P ph row (F + n)
      rw [ih (by omega)]
      unfold zBk
      rw [if_neg (hbt_0 n (by omega)), ← zs_m]
      congr 2
      unfold shT
      rw [if_neg (by omega), show F + n - F = n from by omega]
  exact e B (Nat.le_refl _)
theorem sum_upd {v s : Nat → Int32} {j : Nat} {x : Int32} : ∀ n, sumN (fun i => upd v j x i * s i) n = sumN (fun i => v i * s i) n + (if j < n then (x - v j) * s j else 0) := by
  intro n
  induction n with
  | zero =>
    show (0 : Int32) = 0 + (if j < 0 then (x - v j) * s j else 0)
    rw [if_neg (by omega), Int32.add_zero]
  | succ n ih =>
    show sumN (fun i => upd v j x i * s i) n + upd v j x n * s n = (sumN (fun i => v i * s i) n + v n * s n) + (if j < n + 1 then (x - v j) * s j else 0)
    rw [ih]
    by_cases c : n = j
    · subst c
      rw [if_neg (by omega), if_pos (by omega), pk_us, Int32.add_zero, Int32.add_assoc]
      congr 1
      rw [Int32.sub_mul, Int32.add_comm, Int32.sub_add_cancel]
    · rw [pk_un c]
      by_cases c2 : j < n
      · rw [if_pos c2, if_pos (by omega), Int32.add_assoc, Int32.add_assoc, Int32.add_comm (v n * s n)]
      · rw [if_neg c2, if_neg (by omega), Int32.add_zero, Int32.add_zero]
theorem zRw_upd {p : Nat → Int32} {F B D P ph j : Nat} {v : Nat → Int32} {row x : Int32} (hB : B ≤ 3) (hj : j < F + B) : zRw p F B D P ph (upd v j x) row 0 = zRw p F B D P ph v row 0 + (x - v j) * shT p F D P ph row j := by
  rw [zRw_sum hB, zRw_sum hB, sum_upd, if_pos hj]
theorem c_shT {m : hM} {F B D P W ph j : Nat} {row : Int32} (hl : Ln m 0 F B D P W) (hp : ph ≤ 3) (hj : j < F + B) : JX3_share 0 row (nI ph) (nI j) m = some (some (.inl (shT (m.1 6 0) F D P ph row j)), m) := by
  unfold shT
  by_cases c : j < F
  · rw [if_pos c]; exact c_share1 hl hp c
  · rw [if_neg c]
    have e := c_share2 (m := m) (ph := ph) (row := row) (j := j - F) hl (by omega)
    rw [show F + (j - F) = j from by omega] at e
    exact e
def bsM (H : Nat → Int32) : Nat → Int32
  | 0 => H 0
  | i + 1 => if H (i + 1) ≤ bsM H i then bsM H i else H (i + 1)
def bsV (H : Nat → Int32) (a : Int32) : Nat → Int32
  | 0 => a
  | i + 1 => if H (i + 1) ≤ bsM H i then bsV H a i else a + nI (i + 1)
theorem hmn_c (a b : Int32) : hmn a b = hmn b a := by
  apply Int32.toInt_inj.mp
  rw [hmn_t, hmn_t]
  omega
/-- the values that are tried -/
def imZ (p : Nat → Int32) (F B D P ph : Nat) (v : Nat → Int32) (j : Nat) (x : Int32) : Nat → Int32 := fun r => zRw p F B D P ph (upd v j x) (nI r) 0
theorem imZ_s {p : Nat → Int32} {F B D P ph j r : Nat} {v : Nat → Int32} {x : Int32} (hB : B ≤ 3) (hj : j < F + B) : imZ p F B D P ph v j x r + shT p F D P ph (nI r) j = imZ p F B D P ph v j (x + 1) r := by
  unfold imZ
  rw [zRw_upd hB hj, zRw_upd hB hj, Int32.add_assoc]
  congr 1
  have e : x + 1 - v j = (x - v j) + 1 := by
    rw [Int32.sub_eq_add_neg, Int32.sub_eq_add_neg, Int32.add_assoc, Int32.add_assoc, Int32.add_comm 1]
  rw [e, Int32.add_mul, Int32.one_mul]
section
variable {m : hM} {F B D P W t j ph : Nat} {v : Nat → Int32}
theorem imZ_b {x : Int32} (q : EyC m 40 F B D P W v) (hj : j < 6) (hx : bw x (-255) 255) (r : Nat) : ab (imZ (m.1 6 0) F B D P ph v j x r) 1000000 := by
  obtain ⟨⟨l0, l1, l2, l3, l4, f1, f2, b2, d2, p2, w2⟩, q2, q3, q4⟩ := q
  refine ab_w (zRw_b q2 p2 (fun i hi => ?_) f2 b2) (by decide)
  by_cases c : i = j
  · rw [c, pk_us]; exact hx
  · rw [pk_un c]; exact q4 i hi
/-- the rows of the class, when a TAP is first -/
theorem c_imp1 {first val last : Int32} {K : hM → hR} (q : EyC m 40 F B D P W v) (hp : ph ≤ 3) (h7 : m.1 12 40 7 = nI ph) (hj : j < F + B) (hv : val = v j) : ∃ m1, JX3_improve_47 K 0 40 (nI j) val first last FU 0 m = K m1 ∧ Ex m m1 ∧ ∀ r, r < 64 → m1.1 25 0 r = imZ (m.1 6 0) F B D P ph v j first r ∧ m1.1 26 0 r = shT (m.1 6 0) F D P ph (nI r) j := by
  have hB : B ≤ 3 := q.1.2.2.2.2.2.2.2.1
  have key : ∀ i, i ≤ 64 → ∃ mi, (∀ f, JX3_improve_47 K 0 40 (nI j) val first last (f + i) 0 m = JX3_improve_47 K 0 40 (nI j) val first last f (nI i) mi) ∧ Ex m mi ∧ ∀ r, r < i → mi.1 25 0 r = imZ (m.1 6 0) F B D P ph v j first r ∧ mi.1 26 0 r = shT (m.1 6 0) F D P ph (nI r) j := by
    intro i
    induction i with
    | zero => intro _; exact ⟨m, fun _ => rfl, Ex_r, fun r hr => absurd hr (by omega)⟩
    | succ i ih =>
      intro hi
      obtain ⟨mi, a1, a2, a3⟩ := ih (by omega)
      have q1 := EyC_Ex a2 q
      have e6 : mi.1 6 0 = m.1 6 0 := by funext c; exact a2.1 6 0 c (by omega)
      have e7 : mi.1 12 40 7 = nI ph := by rw [a2.1 12 40 7 (by decide)]; exact h7
      have x2 : Ex m (uI mi 26 0 i (shT (m.1 6 0) F D P ph (nI i) j)) := Ex_t a2 (Ex_uI (by decide))
      have q2 := EyC_Ex x2 q
      have f6 : (uI mi 26 0 i (shT (m.1 6 0) F D P ph (nI i) j)).1 6 0 = m.1 6 0 := by funext c; exact x2.1 6 0 c (by omega)
      have f7 : (uI mi 26 0 i (shT (m.1 6 0) F D P ph (nI i) j)).1 12 40 7 = nI ph := by rw [x2.1 12 40 7 (by decide)]; exact h7
      have cs := c_shT (m := mi) (row := nI i) (ph := ph) q1.1 hp hj
      rw [e6] at cs
      have cz := c_rowZ (m := uI mi 26 0 i (shT (m.1 6 0) F D P ph (nI i) j)) (n := 40) (row := nI i) (v := v) q2.1 hp q2.2.2.1
      rw [f6] at cz
      refine ⟨uI (uI mi 26 0 i (shT (m.1 6 0) F D P ph (nI i) j)) 25 0 i (imZ (m.1 6 0) F B D P ph v j first i), fun f => ?_, Ex_t x2 (Ex_uI (by decide)), fun r hr => ?_⟩
      · rw [show f + (i + 1) = f + 1 + i from by omega, a1]
        show bJX3_improve_47 _ _ _ _ _ _ _ _ (nI i) _ = _
        unfold bJX3_improve_47
        have ez : zRw (m.1 6 0) F B D P ph v (nI i) 0 + (first - val) * shT (m.1 6 0) F D P ph (nI i) j = imZ (m.1 6 0) F B D P ph v j first i := by
          unfold imZ
          rw [zRw_upd hB hj, hv]
        rw [if_neg (n64 (by omega)), e7, cs, calI_s, ast_n (t := 26) (n := 0) i rfl (by decide) (show i < 64 by omega), f7, cz, calI_s, ald_n (t := 26) (n := 0) i rfl (by decide) (show i < 64 by omega), uI_s, ez, ast_n (t := 25) (n := 0) i rfl (by decide) (show i < 64 by omega), ← nI_succ]
      · by_cases c : r = i
        · subst c
          exact ⟨uI_s, by rw [uI_o (by decide), uI_s]⟩
        · rw [uI_n (Or.inr c), uI_n (Or.inr c), uI_n (Or.inr c), uI_n (Or.inr c)]
          exact a3 r (by omega)
  obtain ⟨m1, a1, a2, a3⟩ := key 64 (Nat.le_refl _)
  refine ⟨m1, ?_, a2, a3⟩
  rw [show FU = 99935 + 1 + 64 from rfl, a1]
  show bJX3_improve_47 _ _ _ _ _ _ _ _ (nI 64) _ = _
  unfold bJX3_improve_47
  rw [if_pos (by decide)]
/-- a TAP is one more -/
theorem c_imp2 {M : hM} {x last v7 : Int32} (e : Ex m M) (hB : B ≤ 3) (hj : j < F + B) (h : ∀ r, r < 64 → M.1 25 0 r = imZ (m.1 6 0) F B D P ph v j x r ∧ M.1 26 0 r = shT (m.1 6 0) F D P ph (nI r) j) : ∃ m1, (∀ K, JX3_improve_142 K 0 last v7 FU 0 M = K m1) ∧ Ex M m1 ∧ (∀ k, m1.1 24 0 k = M.1 24 0 k) ∧ ∀ r, r < 64 → m1.1 25 0 r = imZ (m.1 6 0) F B D P ph v j (x + 1) r ∧ m1.1 26 0 r = shT (m.1 6 0) F D P ph (nI r) j := by
  have key : ∀ i, i ≤ 64 → ∃ mi, (∀ K f, JX3_improve_142 K 0 last v7 (f + i) 0 M = JX3_improve_142 K 0 last v7 f (nI i) mi) ∧ Ex M mi ∧ (∀ k, mi.1 24 0 k = M.1 24 0 k) ∧ ∀ r, r < 64 → mi.1 25 0 r = (if r < i then imZ (m.1 6 0) F B D P ph v j (x + 1) r else imZ (m.1 6 0) F B D P ph v j x r) ∧ mi.1 26 0 r = shT (m.1 6 0) F D P ph (nI r) j := by
    intro i
    induction i with
    | zero => intro _; exact ⟨M, fun _ _ => rfl, Ex_r, fun _ => rfl, fun r hr => by rw [if_neg (by omega)]; exact h r hr⟩
    | succ i ih =>
      intro hi
      obtain ⟨mi, a1, a2, a4, a3⟩ := ih (by omega)
      have z := a3 i (by omega)
      rw [if_neg (by omega)] at z
      refine ⟨uI mi 25 0 i (imZ (m.1 6 0) F B D P ph v j (x + 1) i), fun K f => ?_, Ex_t a2 (Ex_uI (by decide)), fun k => by rw [uI_o (by decide)]; exact a4 k, fun r hr => ?_⟩
      · rw [show f + (i + 1) = f + 1 + i from by omega, a1]
        show bJX3_improve_142 _ _ _ _ _ (nI i) _ = _
        unfold bJX3_improve_142
        rw [if_neg (n64 (by omega)), ald_n (t := 25) (n := 0) i rfl (by decide) (show i < 64 by omega), ald_n (t := 26) (n := 0) i rfl (by decide) (show i < 64 by omega), z.1, z.2, imZ_s hB hj, ast_n (t := 25) (n := 0) i rfl (by decide) (show i < 64 by omega), ← nI_succ]
      · rw [uI_o (a := 26) (by decide)]
        by_cases c : r = i
        · subst c
          rw [uI_s, if_pos (by omega)]
          exact ⟨rfl, (a3 r hr).2⟩
        · rw [uI_n (Or.inr c)]
          have y := a3 r hr
          by_cases c2 : r < i
          · rw [if_pos c2] at y
            rw [if_pos (by omega)]
            exact y
          · rw [if_neg c2] at y
            rw [if_neg (by omega)]
            exact y
  obtain ⟨m1, a1, a2, a4, a3⟩ := key 64 (Nat.le_refl _)
  refine ⟨m1, fun K => ?_, a2, a4, fun r hr => by have y := a3 r hr; rw [if_pos hr] at y; exact y⟩
  rw [show FU = 99935 + 1 + 64 from rfl, a1]
  show bJX3_improve_142 _ _ _ _ _ (nI 64) _ = _
  unfold bJX3_improve_142
  rw [if_pos (by decide)]
end
/-- where the tries begin and end -/
theorem im_rng {val : Int32} (h : bw val (-255) 255) : ∃ n, n ≤ 62 ∧ (∀ i, i ≤ n → bw (hmx (val - 31) (-255) + nI i) (-255) 255 ∧ ¬ hmn (val + 31) 255 < hmx (val - 31) (-255) + nI i) ∧ hmn (val + 31) 255 < hmx (val - 31) (-255) + nI (n + 1) := by
  have h1 := h.1; have h2 := h.2
  have c31 : (31 : Int32).toInt = 31 := by decide
  have e1 : (val - 31).toInt = val.toInt - 31 := by rw [j_sub (by rw [c31]; omega) (by rw [c31]; omega), c31]
  have e2 : (val + 31).toInt = val.toInt + 31 := by rw [j_add (by rw [c31]; omega) (by rw [c31]; omega), c31]
  have f1 : (hmx (val - 31) (-255)).toInt = max (val.toInt - 31) (-255) := by rw [hmx_t, e1, show (-255 : Int32).toInt = -255 from by decide]
  have f2 : (hmn (val + 31) 255).toInt = min (val.toInt + 31) 255 := by rw [hmn_t, e2, show (255 : Int32).toInt = 255 from by decide]
  generalize hmx (val - 31) (-255) = fi at *
  generalize hmn (val + 31) 255 = la at *
  have st : ∀ i : Nat, i ≤ 100 → (fi + nI i).toInt = fi.toInt + i := fun i hi => by
    have e : (nI i).toInt = i := nI_toInt (by omega)
    rw [j_add (by rw [e]; omega) (by rw [e]; omega), e]
  refine ⟨(la.toInt - fi.toInt).toNat, by omega, fun i hi => ?_, ?_⟩
  · have e := st i (by omega)
    refine ⟨⟨by rw [e]; omega, by rw [e]; omega⟩, ?_⟩
    rw [Int32.lt_iff_toInt_lt, e]
    omega
  · rw [Int32.lt_iff_toInt_lt, st _ (by omega)]
    omega
theorem k_improved (a b : Int32) : Ok1 (JX11_improved a b) (JX12_improved a b) := Ok1_q fun m hm => by
  unfold JX11_improved JX12_improved
  by_cases c0 : m.1 0 0 12 = 0
  · have z0 : hwi a 0 (-1) = 0 := by
      rcases hw a (-1) 0 (by decide) (by decide) with ⟨j, hj, _⟩ | ⟨e, _⟩
      · omega
      · exact e
    refine ⟨-1000000000, m, m, ?_, ?_, Same_r m⟩
    · rw [o_isTap0 c0, calI_s, if_pos rfl]
    · unfold JX12_isTap JX12_taps
      rw [← hm.1, if_pos c0, calI_s, show (0 : Int32) - 1 = -1 from by decide, e_in, calI_s, z0, jretZ_0, calI_s, if_pos rfl]
  · obtain ⟨F, B, D, P, W, t, h⟩ := Inv_cx hm c0
    have hF : F ≤ 3 := h.1.1.2.2.2.2.2.2.1
    have hB : B ≤ 3 := h.1.1.2.2.2.2.2.2.2.1
    have hD : D ≤ 2 := h.1.1.2.2.2.2.2.2.2.2.1
    rw [c_isTap h, calI_s]
    rcases hw a (nI (F + B) - 1) (F + B) (by omega) rfl with ⟨j, hj, ea, e1⟩ | ⟨e1, _⟩
    · subst ea
      rw [e1, if_neg (by decide), e_within, calI_s]
      rcases hwi_b b 0 1 with e2 | e2
      · exact ⟨_, m, m, by rw [e2, if_pos rfl], by rw [m_isTap h, calI_s, e1, if_neg (by decide), e_in, calI_s, e2, if_pos rfl], Same_r m⟩
      · have ey := CX_ey h
        have hvw := h.2.2.2.1.1.2.2.1
        have hph := ph_of hvw.2.2.1
        have h7 : m.1 12 40 7 = nI (phN (m.1 50 0)) := by
          rw [st_at h.2.2.2.1 12 7 14 (by decide) rfl (by decide)]
          exact hph.1
        generalize hv : m.1 50 0 = v at *
        generalize phN v = ph at *
        have vj : bw (v j) (-255) 255 := hvw.1 j (by omega)
        obtain ⟨n, n0, n1, n2⟩ := im_rng vj
        generalize hfi : hmx (v j - 31) (-255) = fi at *
        generalize hla : hmn (v j + 31) 255 = la at *
        have bnd : ∀ i, i ≤ n → ∀ r, r < 64 → ab (imZ (m.1 6 0) F B D P ph v j (fi + nI i) r) 1000000 := fun i hi r _ => imZ_b ey (by omega) (n1 i hi).1 r
        generalize hH : (fun i => hgt D (imZ (m.1 6 0) F B D P ph v j (fi + nI i))) = H
        have f0 : fi + nI 0 = fi := Int32.add_zero fi
        have fs : ∀ i, fi + nI i + 1 = fi + nI (i + 1) := fun i => by rw [nI_succ, Int32.add_assoc]
        -- the class
        obtain ⟨m1, a1, a2, a3⟩ := c_imp1 (first := fi) (last := la) (K := fun m15 => stI m15 24 0 3 fi fun m16 => calI (JX3_height 0 m16) fun x18 m17 => stI m17 24 0 4 x18 fun m19 => lt (fi + 1) fun x20 => JX3_improve_132 (fun m29 => some (none, m29)) 0 la FU x20 m19) ey hph.2 h7 hj rfl
        have x1 : Ex m (uI m1 24 0 3 fi) := Ex_t a2 (Ex_uI (by decide))
        have hg0 := c_height (m := uI m1 24 0 3 fi) (z := imZ (m.1 6 0) F B D P ph v j fi) (Ln_Ex x1 h.1.1) (fun r hr => by rw [uI_o (by decide)]; exact (a3 r hr).1) (fun r hr => by have := bnd 0 (by omega) r hr; rw [f0] at this; exact this)
        have H0 : hgt D (imZ (m.1 6 0) F B D P ph v j fi) = H 0 := by rw [← hH, ← f0]; exact congrArg (fun x => hgt D (imZ (m.1 6 0) F B D P ph v j x)) (by rw [f0, f0])
        have cls : ∀ i, i ≤ n → ∃ mi, Ex m mi ∧ (∀ r, r < 64 → mi.1 25 0 r = imZ (m.1 6 0) F B D P ph v j (fi + nI i) r ∧ mi.1 26 0 r = shT (m.1 6 0) F D P ph (nI r) j) ∧ mi.1 24 0 3 = bsV H fi i ∧ mi.1 24 0 4 = bsM H i ∧ ∀ f, JX3_improve_132 (fun m29 => some (none, m29)) 0 la (f + i) (fi + 1) (uI (uI m1 24 0 3 fi) 24 0 4 (H 0)) = JX3_improve_132 (fun m29 => some (none, m29)) 0 la f (fi + nI (i + 1)) mi := by
          intro i
          induction i with
          | zero =>
            intro _
            refine ⟨uI (uI m1 24 0 3 fi) 24 0 4 (H 0), Ex_t x1 (Ex_uI (by decide)), fun r hr => ?_, ?_, uI_s, fun f => rfl⟩
            · rw [uI_o (by decide), uI_o (by decide), uI_o (by decide), uI_o (by decide), f0]
              exact a3 r hr
            · rw [uI_n (by decide), uI_s]
              rfl
          | succ i ih =>
            intro hi
            obtain ⟨mi, b1, b2, b3, b4, b5⟩ := ih (by omega)
            obtain ⟨mk, c1, c2, c3, c4⟩ := c_imp2 (x := fi + nI i) (last := la) (v7 := fi + nI (i + 1)) b1 hB hj b2
            rw [fs] at c4
            have xk := Ex_t b1 c2
            have hgk := c_height (m := mk) (z := imZ (m.1 6 0) F B D P ph v j (fi + nI (i + 1))) (Ln_Ex xk h.1.1) (fun r hr => (c4 r hr).1) (bnd (i + 1) hi)
            have Hk : hgt D (imZ (m.1 6 0) F B D P ph v j (fi + nI (i + 1))) = H (i + 1) := by rw [← hH]
            rw [Hk] at hgk
            by_cases cc : H (i + 1) ≤ bsM H i
            · refine ⟨mk, xk, c4, ?_, ?_, fun f => ?_⟩
              · rw [c3, b3]
                show _ = if H (i + 1) ≤ bsM H i then _ else _
                rw [if_pos cc]
              · rw [c3, b4]
                show _ = if H (i + 1) ≤ bsM H i then _ else _
                rw [if_pos cc]
              · rw [show f + (i + 1) = f + 1 + i from by omega, b5]
                show bJX3_improve_132 _ _ _ _ _ _ = _
                unfold bJX3_improve_132 JX3_improve_200
                rw [if_neg (n1 (i + 1) hi).2, c1]
                show calI (JX3_height 0 mk) _ = _
                rw [hgk, calI_s, c3, b4, if_pos cc, fs]
            · refine ⟨uI (uI mk 24 0 4 (H (i + 1))) 24 0 3 (fi + nI (i + 1)), Ex_t xk (Ex_t (Ex_uI (by decide)) (Ex_uI (by decide))), fun r hr => ?_, ?_, ?_, fun f => ?_⟩
              · rw [uI_o (by decide), uI_o (by decide), uI_o (by decide), uI_o (by decide)]
                exact c4 r hr
              · show _ = if H (i + 1) ≤ bsM H i then _ else _
                rw [uI_s, if_neg cc]
              · show _ = if H (i + 1) ≤ bsM H i then _ else _
                rw [uI_n (by decide), uI_s, if_neg cc]
              · rw [show f + (i + 1) = f + 1 + i from by omega, b5]
                show bJX3_improve_132 _ _ _ _ _ _ = _
                unfold bJX3_improve_132 JX3_improve_200
                rw [if_neg (n1 (i + 1) hi).2, c1]
                show calI (JX3_height 0 mk) _ = _
                rw [hgk, calI_s, c3, b4, if_neg cc, stI_s, stI_s, fs]
        obtain ⟨m2, b1, b2, b3, b4, b5⟩ := cls n (Nat.le_refl _)
        have s2 := Same_Ex b1
        have hx2 := CX_same s2 h
        have v2 : m2.1 50 0 = v := by rw [← hv]; funext i; exact b1.1 50 0 i (by omega)
        have p2 : m2.1 6 0 = m.1 6 0 := by funext i; exact b1.1 6 0 i (by omega)
        have nm2 : Nm m2 v = m2 := by rw [← v2, Nm_self]
        -- the reference
        have one : ∀ (i : Nat) (u : Nat → Int32) (h0 l0 best most : Int32), i ≤ n → (∀ x, upd u j x = upd v j x) → ∃ h1 l1, ∀ K f, JX12_improved_49 K (nI j) b (v j) (f + 1) best most (fi + nI i) (HL (Nm m2 u) h0 l0) = JX12_improved_49 K (nI j) b (v j) f (if H i ≤ most then best else fi + nI i) (if H i ≤ most then most else H i) (fi + nI (i + 1)) (HL (Nm m2 (upd v j (fi + nI i))) h1 l1) := by
          intro i u h0 l0 best most hi hu
          obtain ⟨h1, l1, e⟩ := m_htA (m := Nm m2 (upd v j (fi + nI i))) (ph := ph) (LL_Nm hx2.1) hph.2 h0 l0
          have eH : hts ((Nm m2 (upd v j (fi + nI i))).1 6 0) F B D P ((Nm m2 (upd v j (fi + nI i))).1 50 0) ph = H i := by
            have e6 : (Nm m2 (upd v j (fi + nI i))).1 6 0 = m.1 6 0 := by rw [← p2]; funext c; exact Nm_o (by decide)
            rw [e6, Nm_50, ← hH]
            rfl
          rw [eH] at e
          refine ⟨h1, l1, fun K f => ?_⟩
          show bJX12_improved_49 _ _ _ _ _ _ _ _ _ = _
          unfold bJX12_improved_49 JX12_improved_102
          rw [e_min, calI_s, hmn_c, hla, if_neg (n1 i hi).2, z0n, ← Nm_HL, Nast j rfl (by omega), hu, NR14, pk_un (by omega), hph.1, Nm_HL, e, calI_s, fs]
          by_cases cc : H i ≤ most
          · rw [if_pos cc, if_pos cc, if_pos cc]
          · rw [if_neg cc, if_neg cc, if_neg cc]
        have ref : ∀ i, i ≤ n → ∃ h1 l1, ∀ K f, JX12_improved_49 K (nI j) b (v j) (f + (i + 1)) 0 (-2147483648) fi m2 = JX12_improved_49 K (nI j) b (v j) f (bsV H fi i) (bsM H i) (fi + nI (i + 1)) (HL (Nm m2 (upd v j (fi + nI i))) h1 l1) := by
          intro i
          induction i with
          | zero =>
            intro _
            obtain ⟨h1, l1, e⟩ := one 0 v (m2.1 40 0 25) (m2.1 40 0 26) 0 (-2147483648) (by omega) (fun _ => rfl)
            have bb : ab (H 0) 2000000 := by
              have z0 := bnd 0 (by omega)
              have y1 := (hi_eq (D := D) z0 hD).2
              have y2 := (lo_eq (D := D) z0 hD).2
              have := ab_sub y1 y2 (by decide)
              rw [← hH]
              exact this
            have cc : ¬ H 0 ≤ -2147483648 := by
              have := bb.1
              rw [Int32.le_iff_toInt_le, show (-2147483648 : Int32).toInt = -2147483648 from by decide]
              omega
            refine ⟨h1, l1, fun K f => ?_⟩
            have e' := e K f
            rw [nm2, HL_self, if_neg cc, if_neg cc, f0] at e'
            rw [f0]
            exact e'
          | succ i ih =>
            intro hi
            obtain ⟨h0, l0, e0⟩ := ih (by omega)
            obtain ⟨h1, l1, e⟩ := one (i + 1) (upd v j (fi + nI i)) h0 l0 (bsV H fi i) (bsM H i) hi (fun _ => upd_2)
            refine ⟨h1, l1, fun K f => ?_⟩
            rw [show f + (i + 1 + 1) = f + 1 + (i + 1) from by omega, e0, e]
            rfl
        obtain ⟨h1, l1, er⟩ := ref n (Nat.le_refl _)
        have back : upd (upd v j (fi + nI n)) j (v j) = v := by
          rw [upd_2]
          funext i
          by_cases c : i = j
          · rw [c, pk_us]
          · rw [pk_un c]
        refine ⟨if b = 0 then bsV H fi n else bsM H n, m2, HL m2 h1 l1, ?_, ?_, Same_t s2 Same_HL⟩
        · rw [e2, if_neg (by decide)]
          unfold JX3_improve
          have e5 : hwi (nI j) 0 5 = 1 := by
            have e : ∀ j, j < 6 → hwi (nI j) 0 5 = 1 := by decide +kernel
            exact e j (by omega)
          rw [e_within, calI_s, e5, if_neg (by decide), ald_n (t := 13) (n := 40) j rfl (by decide) (show j < 6 by omega), ey.2.2.1 j (by omega), e_max, calI_s, hfi, e_min, calI_s, hla, a1]
          show calV (stI m1 24 0 3 fi _) _ = _
          rw [stI_s, hg0, calI_s, H0, stI_s, lt_s9, show FU = 100000 - n - 1 + 1 + n from by rw [FU_eq]; omega, b5]
          show calV (bJX3_improve_132 _ _ _ _ _ _) _ = _
          unfold bJX3_improve_132
          rw [if_pos n2, calV_s, b3, b4]
          by_cases cb : b = 0
          · rw [if_pos cb, if_pos cb]
          · rw [if_neg cb, if_neg cb]
        · rw [m_isTap hx2, calI_s, e1, if_neg (by decide), e_in, calI_s, e2, if_neg (by decide), z0n, rd j rfl (by omega), v2, e_max, calI_s, hmx_c, hfi, show FU = 100000 - (n + 1) - 1 + 1 + (n + 1) from by rw [FU_eq]; omega, er]
          show bJX12_improved_49 _ _ _ _ _ _ _ _ _ = _
          unfold bJX12_improved_49
          rw [e_min, calI_s, hmn_c, hla, if_pos n2]
          show ast (HL (Nm m2 (upd v j (fi + nI n))) h1 l1) 50 0 _ _ _ = _
          rw [← Nm_HL, Nast j rfl (by omega), back, Nm_HL, nm2]
          by_cases cb : b = 0
          · rw [if_pos cb, if_pos cb]
          · rw [if_neg cb, if_neg cb]
    · exact ⟨_, m, m, by rw [e1, if_pos rfl], by rw [m_isTap h, calI_s, e1, if_pos rfl], Same_r m⟩
