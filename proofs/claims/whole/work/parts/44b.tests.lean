/-! the class's own tests of an index, told away -/
theorem hmn_k {n k : Nat} (h : n ≤ k) (hk : k < 2 ^ 31) : hmn (nI n) (nI k) = nI n := by
  unfold hmn
  rw [if_neg (nI_nlt h hk)]
theorem hwi_b (a b c : Int32) : hwi a b c = 0 ∨ hwi a b c = 1 := by
  unfold hwi
  repeat' split
  all_goals first | exact Or.inl rfl | exact Or.inr rfl
theorem o_isScr {m : hM} {q : Nat} (h : m.1 0 0 14 = nI q) (hq : q ≤ 4) (a : Int32) : JX11_isScript a m = calI (JX11_within a 0 ((m.1 0 0 14) - 1) m) fun x2 m1 => jretZ x2 m1 := by
  unfold JX11_isScript
  rw [h, e_min, calI_s, show (4 : Int32) = nI 4 from rfl, hmn_k hq (by decide)]
theorem o_isTap {m : hM} {k : Nat} (h : JX11_tapCount m = some (some (.inl (nI k)), m)) (hk : k ≤ 6) (a : Int32) : JX11_isTap a m = some (some (.inl (hwi a 0 (nI k - 1))), m) := by
  unfold JX11_isTap
  rw [h, calI_s, e_min, calI_s, show (6 : Int32) = nI 6 from rfl, hmn_k hk (by decide), e_within, calI_s, jretZ_b (hwi_b _ _ _)]
theorem o_isTap0 {m : hM} (c : m.1 0 0 12 = 0) (a : Int32) : JX11_isTap a m = some (some (.inl 0), m) := by
  have e : hwi a 0 (nI 0 - 1) = 0 := by
    rcases hw a (nI 0 - 1) 0 (by decide) rfl with ⟨j, hj, _⟩ | ⟨e, _⟩
    · exact absurd hj (Nat.not_lt_zero j)
    · exact e
  have h : JX11_tapCount m = some (some (.inl (nI 0)), m) := by
    unfold JX11_tapCount
    rw [if_pos c]
    rfl
  rw [o_isTap h (by decide), e]
theorem o_past {m : hM} {s c : Nat} (h : m.1 0 0 15 = nI s) (hs : s + c < 2 ^ 31) : JX11_pastPlace (nI c) m = some (some (.inl (nI ((s + c) % 40))), m) := by
  unfold JX11_pastPlace
  rw [h, nI_add, show (40 : Int32) = nI 40 from rfl, e_floorMod (by decide) (by decide) hs, calI_s]
theorem o_past1 {m : hM} {s : Nat} (h : m.1 0 0 15 = nI s) (hs : s + 1 < 2 ^ 31) : JX11_pastPlace 1 m = some (some (.inl (nI ((s + 1) % 40))), m) := o_past (c := 1) h hs
theorem o_known {M : hM} {x : Nat} (hx : x < 512) : JX1_isKnown (nI x) M = some (some (.inl (if M.1 32 0 x = -1 then 0 else 1)), M) := by
  have e : hwi (nI x) 0 511 = 1 := by
    rcases hw (nI x) 511 512 (by decide) (by decide) with ⟨_, _, _, e⟩ | ⟨_, e⟩
    · exact e
    · exact absurd rfl (e x hx)
  unfold JX1_isKnown
  rw [e_within, calI_s, e, if_neg (by decide), ald_n (t := 32) (n := 0) x rfl (by decide) (show x < 512 from hx)]
  by_cases c : M.1 32 0 x = -1
  · rw [if_pos c, if_pos c, jretZ_0]
  · rw [if_neg c, if_neg c, jretZ_1]
