/-! what is asked and changes nothing -/
theorem hw (a u : Int32) (n : Nat) (hn : n < 2 ^ 31) (hu : u = nI n - 1) : (∃ j, j < n ∧ a = nI j ∧ hwi a 0 u = 1) ∨ (hwi a 0 u = 0 ∧ ∀ j, j < n → a ≠ nI j) := by
  subst hu
  unfold hwi
  by_cases h : a < 0
  · rw [if_pos h]
    exact Or.inr ⟨rfl, fun j hj e => by rw [e] at h; exact nI_pos (by omega) h⟩
  · obtain ⟨j, hj, e⟩ := nI_of h
    subst e
    rw [if_neg h]
    by_cases c : j < n
    · left
      refine ⟨j, c, rfl, ?_⟩
      obtain ⟨k, rfl⟩ : ∃ k, n = k + 1 := ⟨n - 1, by omega⟩
      rw [nI_pred, if_neg (nI_nlt (by omega) (by omega))]
    · right
      have e : nI n - 1 < nI j := by
        rcases (show n = 0 ∨ ∃ k, n = k + 1 from (Nat.eq_zero_or_pos n).imp id (fun q => ⟨n - 1, by omega⟩)) with h0 | ⟨k, h0⟩
        · subst h0
          have : ¬ nI j < 0 := nI_pos hj
          simp only [Int32.lt_iff_toInt_lt] at *
          have e1 : (nI 0 - 1 : Int32).toInt = -1 := by decide
          have e2 : (0 : Int32).toInt = 0 := by decide
          omega
        · subst h0
          rw [nI_pred]
          exact nI_lt (by omega) hj
      rw [if_pos e]
      refine ⟨rfl, fun i hi e2 => ?_⟩
      have := (nI_eq hj (by omega)).mp e2
      omega
def Qr (m : hM) (x y : hR) : Prop := ∃ r, x = some (some (.inl r), m) ∧ y = some (some (.inl r), m)
theorem Qr_r {m : hM} (r : Int32) : Qr m (some (some (.inl r), m)) (some (some (.inl r), m)) := ⟨r, rfl, rfl⟩
theorem Qr_e {m : hM} {a b : Int32} (h : a = b) : Qr m (some (some (.inl a), m)) (some (some (.inl b), m)) := ⟨a, rfl, by rw [h]⟩
theorem Qr_c {m : hM} {x y : hR} (h : Qr m x y) : Qr m (calI x fun x2 m1 => some (some (.inl x2), m1)) y := by
  obtain ⟨r, a, b⟩ := h
  exact ⟨r, by rw [a]; rfl, b⟩
theorem Qr_cc {m : hM} {x y : hR} (h : Qr m x y) : Qr m (calI x fun x2 m1 => some (some (.inl x2), m1)) (calI y fun x2 m1 => some (some (.inl x2), m1)) := by
  obtain ⟨r, a, b⟩ := h
  exact ⟨r, by rw [a]; rfl, by rw [b]; rfl⟩
theorem sw_c {Q : hR → hR → Prop} {v k : Int32} {a b d1 d2 : hR} {l1 l2 : List (Int32 × hR)} (h : v = k → Q a b) (ht : v ≠ k → Q (swL v l1 d1) (swL v l2 d2)) : Q (swL v ((k, a) :: l1) d1) (swL v ((k, b) :: l2) d2) := by
  show Q (if v = k then a else swL v l1 d1) (if v = k then b else swL v l2 d2)
  by_cases c : v = k
  · rw [if_pos c, if_pos c]; exact h c
  · rw [if_neg c, if_neg c]; exact ht c
theorem rd {m : hM} {i : Int32} {k : Int32 → hR} (j : Nat) (hi : i = nI j) (hj : j < 232) : ald m 50 0 i k = k (m.1 50 0 j) := ald_n (t := 50) (n := 0) j hi ia50 hj
theorem b01 {a : Int32} (h : a = 0 ∨ a = 1) : (if a = 0 then (0 : Int32) else 1) = a := by
  rcases h with h | h <;> rw [h] <;> decide
theorem Inv_1 {m : hM} (h : Inv m) (c : ¬ m.1 0 0 12 = 0) : IL m := by
  rcases h.2.1 with q | q
  · exact absurd q.1 c
  · exact q.2
theorem st_at {m : hM} {B t : Nat} {g : Int32} {nl sz : Nat} {v : Nat → Int32} (h : ST m B g 40 nl sz v t) (a c i : Nat) (ha : 12 ≤ a ∧ a ≤ 19) (hi : ix a c = i) (hi2 : i < 49) : m.1 a 40 c = v i := by
  rw [vec_at ha, hi]
  exact h.1.1 i hi2
theorem k_status (a : Int32) : Ok1 (JX11_status a) (JX12_status a) := Ok1_p fun m hm => by
  unfold JX11_status JX12_status alenJ
  rw [if_pos (by decide)]
  show Qr m (calI (JX11_within a 0 (Int32.ofNat (sLen 37 0) - 1) m) _) _
  rw [e_within, calI_s, e_in, calI_s]
  have e : (Int32.ofNat (sLen 37 0) - 1 : Int32) = 3 := by decide
  rw [e]
  rcases hw a 3 4 (by decide) (by decide) with ⟨j, hj, ea, e1⟩ | ⟨e1, _⟩
  · rw [e1, if_neg (by decide), if_neg (by decide), ald_n (t := 37) (n := 0) j ea (by decide) hj, ald_n (t := 51) (n := 0) j ea (by decide) hj, hm.2.2.2.2.1 j hj]
    exact Qr_r _
  · rw [e1, if_pos rfl, if_pos rfl]
    exact Qr_r _
theorem k_rule (a : Int32) : Ok1 (JX11_rule a) (JX12_rule a) := Ok1_p fun m hm => by
  unfold JX11_rule JX12_rule
  rw [← hm.1]
  by_cases c : m.1 0 0 12 = 0
  · rw [if_pos c, if_pos c]; exact Qr_r _
  · obtain ⟨F, B, D, P, W, t, q1, q2, q3, q4, q5, q6⟩ := Inv_1 hm c
    rw [if_neg c, if_neg c, e_within, calI_s, e_in, calI_s]
    unfold JX4_ruleOf
    rw [e_within, calI_s]
    rcases hw a 12 13 (by decide) (by decide) with ⟨j, hj, ea, e1⟩ | ⟨e1, _⟩
    · rw [e1, if_neg (by decide), if_neg (by decide), if_neg (by decide), ald_n (t := 5) (n := 0) j ea (by decide) hj, ald_n (t := 45) (n := 0) j ea (by decide) hj, q1.2.1.1 j hj]
      exact Qr_r _
    · rw [e1, if_pos rfl, if_pos rfl]
      exact Qr_r _
theorem k_now (a : Int32) : Ok1 (JX11_now a) (JX12_now a) := Ok1_p fun m hm => by
  unfold JX11_now JX12_now
  rw [← hm.1]
  by_cases c : m.1 0 0 12 = 0
  · rw [if_pos c, if_pos c]; exact Qr_r _
  · obtain ⟨F, B, D, P, W, t, q1, q2, q3, q4, q5, q6⟩ := Inv_1 hm c
    rw [if_neg c, if_neg c]
    apply Qr_c
    unfold JX8_fact
    have s := st_at q4
    obtain ⟨a1, a2, a3, a4, a5, a6, a7, a8, a9⟩ := q4.1.2.2.1
    have z : ∀ {x y : Int32}, x = y → (y = 0 ∨ y = 1) → Qr m (if x = 0 then (some (some (.inl 0), m)) else (some (some (.inl 1), m))) (some (some (.inl y), m)) := fun {x y} e h => by
      subst e
      rcases h with h | h
      · rw [if_pos h, h]; exact Qr_r _
      · rw [if_neg (by rw [h]; decide), h]; exact Qr_r _
    refine sw_c (fun _ => by rw [rd (i := 18) 18 rfl (by decide)]; exact Qr_e (s 12 6 18 (by decide) rfl (by decide))) (fun _ => ?_)
    refine sw_c (fun _ => by rw [rd (i := 14) 14 rfl (by decide)]; exact Qr_e (s 12 7 14 (by decide) rfl (by decide))) (fun _ => ?_)
    refine sw_c (fun _ => by rw [rd (i := 16) 16 rfl (by decide)]; exact z (s 12 15 16 (by decide) rfl (by decide)) (bw_01 a4)) (fun _ => ?_)
    refine sw_c (fun _ => by rw [rd (i := 17) 17 rfl (by decide)]; exact z (s 18 2 17 (by decide) rfl (by decide)) (bw_01 a5)) (fun _ => ?_)
    refine sw_c (fun _ => by rw [rd (i := 20) 20 rfl (by decide)]; exact Qr_e (s 12 12 20 (by decide) rfl (by decide))) (fun _ => ?_)
    refine sw_c (fun _ => by rw [rd (i := 19) 19 rfl (by decide)]; exact Qr_e (s 12 13 19 (by decide) rfl (by decide))) (fun _ => ?_)
    refine sw_c (fun _ => by rw [rd (i := 21) 21 rfl (by decide)]; exact Qr_e (s 12 14 21 (by decide) rfl (by decide))) (fun _ => ?_)
    refine sw_c (fun _ => by rw [rd (i := 22) 22 rfl (by decide)]; exact z (s 12 16 22 (by decide) rfl (by decide)) (bw_01 a7)) (fun _ => ?_)
    refine sw_c (fun _ => by rw [rd (i := 23) 23 rfl (by decide)]; exact Qr_e (s 18 0 23 (by decide) rfl (by decide))) (fun _ => ?_)
    refine sw_c (fun _ => by rw [rd (i := 24) 24 rfl (by decide)]; exact Qr_e (s 18 1 24 (by decide) rfl (by decide))) (fun _ => ?_)
    refine sw_c (fun _ => by rw [rd (i := 25) 25 rfl (by decide)]; exact Qr_e (s 18 3 25 (by decide) rfl (by decide))) (fun _ => ?_)
    refine sw_c (fun _ => by rw [rd (i := 26) 26 rfl (by decide)]; exact Qr_e (s 18 4 26 (by decide) rfl (by decide))) (fun _ => ?_)
    refine sw_c (fun _ => by rw [rd (i := 27) 27 rfl (by decide)]; exact Qr_e (s 18 5 27 (by decide) rfl (by decide))) (fun _ => ?_)
    refine sw_c (fun _ => by rw [rd (i := 28) 28 rfl (by decide)]; exact Qr_e (s 18 6 28 (by decide) rfl (by decide))) (fun _ => ?_)
    refine sw_c (fun _ => by rw [rd (i := 29) 29 rfl (by decide)]; exact Qr_e (s 18 7 29 (by decide) rfl (by decide))) (fun _ => ?_)
    refine sw_c (fun _ => by rw [rd (i := 30) 30 rfl (by decide)]; exact Qr_e (s 18 8 30 (by decide) rfl (by decide))) (fun _ => ?_)
    refine sw_c (fun _ => by rw [rd (i := 12) 12 rfl (by decide)]; exact Qr_e (s 12 9 12 (by decide) rfl (by decide))) (fun _ => ?_)
    refine sw_c (fun _ => by rw [rd (i := 13) 13 rfl (by decide)]; exact Qr_e (s 12 10 13 (by decide) rfl (by decide))) (fun _ => ?_)
    refine sw_c (fun _ => by rw [rd (i := 15) 15 rfl (by decide)]; exact Qr_e (s 12 8 15 (by decide) rfl (by decide))) (fun _ => ?_)
    exact Qr_r _
theorem i10 : ((1 : Int32) = 0) = False := eq_false (by decide)
theorem i20 : ((2 : Int32) = 0) = False := eq_false (by decide)
theorem i21 : ((2 : Int32) = 1) = False := eq_false (by decide)
theorem k_ago (a b : Int32) : Ok1 (JX11_ago a b) (JX12_ago a b) := Ok1_p fun m hm => by
  unfold JX11_ago JX12_ago
  rw [← hm.1]
  by_cases c : m.1 0 0 12 = 0
  · rw [if_pos c, if_pos c]; exact Qr_r _
  · obtain ⟨F, B, D, P, W, t, q1, q2, q3, q4, q5, q6⟩ := Inv_1 hm c
    rw [if_neg c, if_neg c]
    apply Qr_c
    unfold JX8_earlier JX12_ago_27
    simp only [e_within, e_in, calI_s]
    have s := st_at q4
    by_cases c0 : a = 0
    · subst c0
      rcases hw b 5 6 (by decide) (by decide) with ⟨j, hj, eb, e1⟩ | ⟨e1, _⟩
      · simp only [show hwi 0 0 2 = 1 from by decide, e1, i10, eq_self, if_true, if_false]
        rw [ald_n (t := 15) (n := 40) j eb (by decide) hj, eb, rd (31 + j) (by rw [show (31 : Int32) = nI 31 from rfl, nI_add]) (by omega)]
        exact Qr_e (s 15 j (31 + j) (by decide) (ix15 j hj) (by omega))
      · simp only [show hwi 0 0 2 = 1 from by decide, e1, i10, eq_self, if_true, if_false]
        exact Qr_r _
    · by_cases c1 : a = 1
      · subst c1
        rcases hw b 2 3 (by decide) (by decide) with ⟨j, hj, eb, e1⟩ | ⟨e1, _⟩
        · simp only [show hwi 1 0 2 = 1 from by decide, e1, i10, eq_self, if_true, if_false]
          rw [ald_n (t := 16) (n := 40) j eb (by decide) hj, eb, rd (37 + j) (by rw [show (37 : Int32) = nI 37 from rfl, nI_add]) (by omega)]
          exact Qr_e (s 16 j (37 + j) (by decide) (ix16 j hj) (by omega))
        · simp only [show hwi 1 0 2 = 1 from by decide, e1, i10, eq_self, if_true, if_false]
          exact Qr_r _
      · by_cases c2 : a = 2
        · subst c2
          rcases hw b 2 3 (by decide) (by decide) with ⟨j, hj, eb, e1⟩ | ⟨e1, _⟩
          · simp only [show hwi 2 0 2 = 1 from by decide, e1, i10, i20, i21, eq_self, if_true, if_false]
            rw [ald_n (t := 17) (n := 40) j eb (by decide) hj, eb, rd (40 + j) (by rw [show (40 : Int32) = nI 40 from rfl, nI_add]) (by omega)]
            exact Qr_e (s 17 j (40 + j) (by decide) (ix17 j hj) (by omega))
          · simp only [show hwi 2 0 2 = 1 from by decide, e1, i10, i20, i21, eq_self, if_true, if_false]
            exact Qr_r _
        · have e0 : hwi a 0 2 = 0 := by
            rcases hw a 2 3 (by decide) (by decide) with ⟨j, hj, ea, e1⟩ | ⟨e1, _⟩
            · rcases (by omega : j = 0 ∨ j = 1 ∨ j = 2) with h | h | h <;> subst h
              · exact absurd ea c0
              · exact absurd ea c1
              · exact absurd ea c2
            · exact e1
          simp only [c0, c1, c2, e0, eq_self, if_true, if_false]
          exact Qr_r _
theorem nI_xor (a b : Nat) : nI a ^^^ nI b = nI (a ^^^ b) := by
  apply Int32.toBitVec_inj.mp
  show BitVec.ofNat 32 a ^^^ BitVec.ofNat 32 b = BitVec.ofNat 32 (a ^^^ b)
  rw [BitVec.ofNat_xor]
theorem e_floorMod {T N : Nat} {m : hM} (h0 : 0 < N) (hN : N < 2 ^ 31) (hT : T < 2 ^ 31) : JJ9_floorMod_7cf53 (nI T) (nI N) m = some (some (.inl (nI (T % N))), m) := by
  unfold JJ9_floorMod_7cf53 jirem
  rw [if_neg (nI_ne0 h0 hN), pk_rem hT h0 hN, nI_xor]
  show (if 0 ≤ nI (T ^^^ N) then _ else _) = _
  rw [if_pos (nI_pos' (Nat.xor_lt_two_pow hT hN))]
theorem e_place {n T sz : Nat} {m : hM} (hsz : sLen 21 n = sz) (h0 : 0 < sz) (h1 : sz < 100000) (hT : T < 2 ^ 31) : JX5_placeOf n (nI T) m = some (some (.inl (nI (T % sz))), m) := by
  unfold JX5_placeOf alenJ
  rw [if_pos (by decide), hsz]
  show (if nI sz ≤ 0 then _ else calI (JJ9_floorMod_7cf53 (nI T) (nI sz) m) _) = _
  rw [if_neg (nI_nle h0 (by omega)), e_floorMod h0 (by omega) hT, calI_s]
theorem hmn_n {t : Nat} (h : t < 2 ^ 31) : hmn (nI t) 60 = nI (min t 60) := by
  unfold hmn
  by_cases c : 60 < t
  · rw [if_pos (show (60 : Int32) < nI t from nI_lt (a := 60) (b := t) c h), show min t 60 = 60 from by omega]
    rfl
  · rw [if_neg (show ¬ (60 : Int32) < nI t from nI_nlt (a := 60) (b := t) (by omega) (by decide)), show min t 60 = t from by omega]
theorem Inv_t {m : hM} (h : Inv m) : ∃ t, t ≤ 9999 ∧ m.1 12 40 6 = nI t ∧ m.1 50 0 18 = nI t ∧ LG m 0 2460 (m.1 50 0) t := by
  rcases h.2.1 with q | q
  · obtain ⟨_, a1, a2, a3, _⟩ := q
    refine ⟨0, by decide, a1, a2, a3, fun j hj => ?_⟩
    rw [Nat.zero_min] at hj
    omega
  · obtain ⟨_, F, B, D, P, W, t, q1, q2, q3, q4, q5, q6⟩ := q
    have e := q4.1.2.2.1.2.2.2.2.2.2.2.2
    exact ⟨t, q4.2.2, by rw [st_at q4 12 6 18 (by decide) rfl (by decide)]; exact e, e, q4.2.1⟩
theorem k_log (a b : Int32) : Ok1 (JX11_log a b) (JX12_log a b) := Ok1_p fun m hm => by
  obtain ⟨t, ht, e1, e2, e3⟩ := Inv_t hm
  unfold JX11_log JX12_log JX11_logLength
  rw [rd (i := 51) 51 rfl (by decide), e3.1, e_in, calI_s, e1, e_min, calI_s, hmn_n (by omega), calI_s]
  rcases hw a (nI (min t 60) - 1) (min t 60) (by omega) rfl with ⟨j, hj, ea, e4⟩ | ⟨e4, e5⟩
  · subst ea
    rw [if_neg (nI_pos (by omega)), if_pos (nI_lt hj (by omega)), e4, if_neg (by decide), e_in, calI_s, rd (i := 51) 51 rfl (by decide), e3.1]
    apply Qr_c
    unfold JX5_entry
    have et : nI t - 1 - nI j = nI (t - 1 - j) := by
      obtain ⟨k, rfl⟩ : ∃ k, t = k + 1 := ⟨t - 1, by omega⟩
      rw [nI_pred, pk_sub (by omega)]
      rfl
    have eM : nI (min t 60) - 1 - nI j = nI (min t 60 - 1 - j) := by
      obtain ⟨k, hk⟩ : ∃ k, min t 60 = k + 1 := ⟨min t 60 - 1, by omega⟩
      rw [hk, nI_pred, pk_sub (by omega)]
      rfl
    rw [e1, et, e_place (sz := 2460) rfl (by decide) (by decide) (by omega), calI_s, eM]
    have hp : (t - 1 - j) % 2460 < 2460 := Nat.mod_lt _ (by decide)
    have hx : t - min t 60 + (min t 60 - 1 - j) = t - 1 - j := by omega
    have L := e3.2 (min t 60 - 1 - j) (by omega)
    rw [hx] at L
    have hi : ∀ c, c < 3 → (52 : Int32) + 3 * nI (min t 60 - 1 - j) + nI c = nI (52 + 3 * (min t 60 - 1 - j) + c) := fun c _ => by
      rw [show (52 : Int32) = nI 52 from rfl, show (3 : Int32) = nI 3 from rfl, pk_mul, nI_add, nI_add]
    rcases hw b 2 3 (by decide) (by decide) with ⟨c, hc, eb, e6⟩ | ⟨e6, e7⟩
    · rw [e6, if_neg (by decide), eb, rd (52 + 3 * (min t 60 - 1 - j) + c) (hi c hc) (by omega), L c hc]
      rcases (by omega : c = 0 ∨ c = 1 ∨ c = 2) with h | h | h <;> subst h
      · show Qr m (if nI 0 = 0 then _ else _) _
        rw [if_pos (by decide), ald_n (t := 21) (n := 0) _ rfl (by decide) hp]
        exact Qr_r _
      · show Qr m (if nI 1 = 0 then _ else if nI 1 = 1 then _ else _) _
        rw [if_neg (by decide), if_pos (by decide), ald_n (t := 22) (n := 0) _ rfl (by decide) hp]
        exact Qr_r _
      · show Qr m (if nI 2 = 0 then _ else if nI 2 = 1 then _ else if nI 2 = 2 then _ else _) _
        rw [if_neg (by decide), if_neg (by decide), if_pos (by decide), ald_n (t := 23) (n := 0) _ rfl (by decide) hp]
        exact Qr_r _
    · rw [e6, if_pos rfl]
      show Qr m (if b = 0 then _ else if b = 1 then _ else if b = 2 then _ else _) _
      rw [if_neg (show ¬ b = 0 from e7 0 (by decide)), if_neg (show ¬ b = 1 from e7 1 (by decide)), if_neg (show ¬ b = 2 from e7 2 (by decide))]
      exact Qr_r _
  · rw [e4, if_pos rfl]
    by_cases c : a < 0
    · rw [if_pos c]; exact Qr_r _
    · rw [if_neg c]
      obtain ⟨j, hj, ea⟩ := nI_of c
      subst ea
      rw [if_neg]
      · exact Qr_r _
      · intro q
        rw [nI_ltI hj (by omega)] at q
        exact e5 j q rfl
