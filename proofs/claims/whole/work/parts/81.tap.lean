/-! tap: both give the same number, or the class throws and the reference says so -/
theorem Same_u0 {m : hM} {x : Int32} {z : Int64} : Same m (uI (uL m 60 0 0 z) 40 0 0 x) := by
  refine ⟨⟨fun a b c h => ?_, fun n hn => ?_⟩, fun a b c h => ?_, fun a b c h => ?_, fun a b c h => ?_, fun a b c h => ?_⟩
  · unfold nsA at h; exact (uI_x (by omega)).trans rfl
  · show (if 12 = 60 ∧ n = 0 ∧ 17 = 0 then z else m.2 12 n 17) = _
    rw [if_neg (by omega)]
  · unfold nsC at h; exact (uI_x (by omega)).trans rfl
  · unfold nsT at h; exact (uI_x (by omega)).trans rfl
  · unfold nsR at h; exact (uI_x (by omega)).trans rfl
  · unfold nsH at h; exact (uI_x (by omega)).trans rfl
theorem hwi_00 (a : Int32) : hwi a 0 (0 - 1) = 0 := by
  rcases hw a (0 - 1) 0 (by decide) (by decide) with ⟨j, hj, _⟩ | ⟨e, _⟩
  · exact absurd hj (by omega)
  · exact e
theorem lc13 : ∀ j, j < 6 → lc j = (13, j) ∧ lc (6 + j) = (14, j) := by decide
/-- the reference refuses -/
theorem m_tap1 {a b x y : Int32} {M : hM} (h1 : JX12_isTap a M = some (some (.inl x), M)) (h2 : hwi b 0 1 = y) (h : x = 0 ∨ y = 0) : JX12_tap a b M = some (some (.inl 0), uI M 40 0 0 1) := by
  unfold JX12_tap JX12_tap_22 JX12_tap_23
  rw [h1, calI_s]
  by_cases c : x = 0
  · rw [if_pos c, stI_s, uI_s, if_pos rfl]
  · rw [if_neg c, e_in, calI_s, h2, if_pos (h.resolve_left c), stI_s, uI_s, if_pos rfl]
theorem k_tap (a b : Int32) (m : hM) (hm : Inv m) :
    (∃ r, JX11_tap a b m = some (some (.inl r), m) ∧ ∀ z, ∃ m2, JX12_tap a b (uL m 60 0 0 z) = some (some (.inl r), m2) ∧ m2.1 40 0 0 = 0 ∧ m2.2 60 0 0 = z ∧ Inv m2) ∨
    (∃ x y, JX11_isTap a m = some (some (.inl x), m) ∧ JX11_within b 0 1 m = some (some (.inl y), m) ∧ (x = 0 ∨ y = 0) ∧ ∃ r m2, JX12_tap a b m = some (some (.inl r), m2) ∧ m2.1 40 0 0 = 1 ∧ Inv m2) := by
  have i1 : Inv (uI m 40 0 0 1) := Inv_same (Same_u0 (z := m.2 60 0 0)) hm |> fun h => by
    have e : uL m 60 0 0 (m.2 60 0 0) = m := by
      apply Prod.ext
      · rfl
      · funext p q r
        show (if p = 60 ∧ q = 0 ∧ r = 0 then m.2 60 0 0 else m.2 p q r) = m.2 p q r
        by_cases c : p = 60 ∧ q = 0 ∧ r = 0
        · rw [if_pos c, c.1, c.2.1, c.2.2]
        · rw [if_neg c]
    rw [e] at h
    exact h
  by_cases c : m.1 0 0 12 = 0
  · have c2 : m.1 40 0 15 = 0 := by rw [← hm.1]; exact c
    refine Or.inr ⟨0, hwi b 0 1, ?_, e_within _ _ _ _, Or.inl rfl, 0, uI m 40 0 0 1, m_tap1 (x := 0) ?_ rfl (Or.inl rfl), uI_s, i1⟩
    · exact o_isTap0 c a
    · unfold JX12_isTap JX12_taps
      rw [if_pos c2, calI_s, e_in, calI_s, hwi_00, jretZ_0]
  · obtain ⟨F, B, D, P, W, t, q1, q2, q3, q4, q5, q6⟩ := Inv_1 hm c
    have F3 := q1.1.2.2.2.2.2.2.1
    have B3 := q1.1.2.2.2.2.2.2.2.1
    have hc : JX11_isTap a m = some (some (.inl (hwi a 0 (nI (F + B) - 1))), m) := o_isTap (c_tapCount c q1) (Nat.add_le_add F3 B3) a
    have hr : ∀ M : hM, M.1 = m.1 → JX12_isTap a M = some (some (.inl (hwi a 0 (nI (F + B) - 1))), M) := by
      intro M hM
      have e1 : M.1 40 0 15 = m.1 40 0 15 := by rw [hM]
      have e2 : M.1 45 0 1 = nI F := by rw [hM, q1.2.1.1 1 (by decide)]; exact q1.1.2.1
      have e3 : M.1 45 0 2 = nI B := by rw [hM, q1.2.1.1 2 (by decide)]; exact q1.1.2.2.1
      unfold JX12_isTap JX12_taps
      rw [e1, ← hm.1, if_neg c, ald_n (i := 1) (t := 45) (n := 0) 1 rfl (by decide) (by decide), ald_n (i := 2) (t := 45) (n := 0) 2 rfl (by decide) (by decide), e2, e3, calI_s, nI_add, e_in, calI_s, jretZ_b (hwi_b _ _ _)]
    by_cases bad : hwi a 0 (nI (F + B) - 1) = 0 ∨ hwi b 0 1 = 0
    · exact Or.inr ⟨_, _, hc, e_within _ _ _ _, bad, 0, uI m 40 0 0 1, m_tap1 (hr m rfl) rfl bad, uI_s, i1⟩
    · have n1 : ¬ hwi a 0 (nI (F + B) - 1) = 0 := fun z => bad (Or.inl z)
      have n2 : ¬ hwi b 0 1 = 0 := fun z => bad (Or.inr z)
      obtain ⟨j, hj, ea, e1⟩ : ∃ j, j < F + B ∧ a = nI j ∧ hwi a 0 (nI (F + B) - 1) = 1 := by
        rcases hw a (nI (F + B) - 1) (F + B) (by omega) rfl with h | ⟨e1, _⟩
        · exact h
        · exact absurd e1 n1
      have j6 : j < 6 := by omega
      have eq9 := q4.1.1
      have t13 : m.1 13 40 j = m.1 50 0 j := by
        have := eq9 j (by omega)
        unfold vec at this
        rw [(lc13 j j6).1] at this
        exact this
      have t14 : m.1 14 40 j = m.1 50 0 (6 + j) := by
        have := eq9 (6 + j) (by omega)
        unfold vec at this
        rw [(lc13 j j6).2] at this
        exact this
      by_cases b0 : b = 0
      · refine Or.inl ⟨m.1 13 40 j, ?_, fun z => ⟨uI (uL m 60 0 0 z) 40 0 0 0, ?_, uI_s, ?_, Inv_same Same_u0 hm⟩⟩
        · unfold JX11_tap
          rw [hc, calI_s, if_neg n1, e_within, calI_s, if_neg n2, if_pos b0, ald_n (t := 13) (n := 40) j ea (by decide) (show j < 6 from j6)]
        · unfold JX12_tap JX12_tap_23
          rw [hr (uL m 60 0 0 z) rfl, calI_s, if_neg n1, e_in, calI_s, if_neg n2, stI_s, uI_s, if_neg (by decide), if_pos b0, ald_n (t := 50) (n := 0) j (by rw [ea]; exact Int32.zero_add _) (by decide) (show j < 232 by omega), uI_o (by decide), t13]
          rfl
        · show (if 60 = 60 ∧ 0 = 0 ∧ 0 = 0 then z else m.2 60 0 0) = z
          exact if_pos ⟨rfl, rfl, rfl⟩
      · refine Or.inl ⟨m.1 14 40 j, ?_, fun z => ⟨uI (uL m 60 0 0 z) 40 0 0 0, ?_, uI_s, ?_, Inv_same Same_u0 hm⟩⟩
        · unfold JX11_tap
          rw [hc, calI_s, if_neg n1, e_within, calI_s, if_neg n2, if_neg b0, ald_n (t := 14) (n := 40) j ea (by decide) (show j < 6 from j6)]
        · unfold JX12_tap JX12_tap_23
          rw [hr (uL m 60 0 0 z) rfl, calI_s, if_neg n1, e_in, calI_s, if_neg n2, stI_s, uI_s, if_neg (by decide), if_neg b0, ald_n (t := 50) (n := 0) (6 + j) (by rw [ea]; exact nI_add 6 j) (by decide) (show 6 + j < 232 by omega), uI_o (by decide), t14]
          rfl
        · show (if 60 = 60 ∧ 0 = 0 ∧ 0 = 0 then z else m.2 60 0 0) = z
          exact if_pos ⟨rfl, rfl, rfl⟩
/-! the memory at the start -/
def m00 : hM := (fun a _ c => if (a = 0 ∧ c = 17) ∨ (a = 40 ∧ c = 21) then 3 else if a = 40 ∧ c = 22 then 1 else if a = 40 ∧ c = 23 then -1000000000 else 0, fun _ _ _ => 0)
theorem Inv_0 : Inv m00 := by
  refine ⟨rfl, Or.inl ⟨rfl, rfl, rfl, rfl, rfl, rfl, rfl, rfl, 0, by decide, rfl⟩, ⟨0, by decide, rfl, rfl, fun s hs => absurd hs (by omega)⟩, ⟨0, by decide, rfl, rfl, fun i hi => absurd hi (by omega)⟩, fun j hj => ?_, rfl, rfl, rfl⟩
  show (if (37 = 0 ∧ j = 17) ∨ (37 = 40 ∧ j = 21) then (3 : Int32) else if 37 = 40 ∧ j = 22 then 1 else if 37 = 40 ∧ j = 23 then -1000000000 else 0) = (if (51 = 0 ∧ j = 17) ∨ (51 = 40 ∧ j = 21) then (3 : Int32) else if 51 = 40 ∧ j = 22 then 1 else if 51 = 40 ∧ j = 23 then -1000000000 else 0)
  rw [if_neg (by omega), if_neg (by omega), if_neg (by omega), if_neg (by omega), if_neg (by omega), if_neg (by omega)]
