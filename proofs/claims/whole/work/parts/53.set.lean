/-! refusals -/
section
variable {m : hM} {k a b : Int32} {j : Nat}
theorem c_ref0 (hr : JX11_refusal 40 k a b m = some (some (.inl (-1)), m)) : JX11_isRefused k a b m = some (some (.inl 0), m) := by
  unfold JX11_isRefused alenJ JX11_isRefused_40
  rw [hr, calI_s, if_pos (by decide)]
  show calI (JX11_within (-1) 0 (Int32.ofNat (sLen 37 0) - 1) m) _ = _
  rw [e_within, calI_s, if_pos (by decide), if_pos rfl, jretZ_0]
theorem nI_m1 (hj : j < 4) : ¬ nI j = -1 := by
  have e : ∀ j, j < 4 → ¬ nI j = -1 := by decide +kernel
  exact e j hj
theorem c_ref1 (hr : JX11_refusal 40 k a b m = some (some (.inl (nI j)), m)) (hj : j < 4) : JX11_isRefused k a b m = some (some (.inl 1), uI m 37 0 j (m.1 37 0 j + 1)) := by
  unfold JX11_isRefused alenJ JX11_isRefused_40
  rw [hr, calI_s, if_pos (by decide)]
  show calI (JX11_within (nI j) 0 (Int32.ofNat (sLen 37 0) - 1) m) _ = _
  have e : hwi (nI j) 0 (Int32.ofNat (sLen 37 0) - 1) = 1 := by
    have e : ∀ j, j < 4 → hwi (nI j) 0 3 = 1 := by decide +kernel
    exact e j hj
  rw [e_within, calI_s, e, if_neg (by decide), ald_n (t := 37) (n := 0) j rfl (by decide) hj, ast_n (t := 37) (n := 0) j rfl (by decide) hj, if_neg (nI_m1 hj), jretZ_1]
theorem m_ref0 : JX12_isRefused (-1) m = some (some (.inl 0), m) := by
  unfold JX12_isRefused JX12_isRefused_15
  rw [if_pos rfl, if_pos rfl, jretZ_0]
theorem m_ref1 (hj : j < 4) : JX12_isRefused (nI j) m = some (some (.inl 1), uI m 51 0 j (m.1 51 0 j + 1)) := by
  unfold JX12_isRefused JX12_isRefused_15
  rw [if_neg (nI_m1 hj), ald_n (t := 51) (n := 0) j rfl (by decide) hj, ast_n (t := 51) (n := 0) j rfl (by decide) hj, if_neg (nI_m1 hj), jretZ_1]
theorem ref_inv (h : Inv m) (hj : j < 4) : Inv (uI (uI m 37 0 j (m.1 37 0 j + 1)) 51 0 j ((uI m 37 0 j (m.1 37 0 j + 1)).1 51 0 j + 1)) := by
  obtain ⟨q1, q2, q3, q4, q5⟩ := h
  generalize hx : (uI m 37 0 j (m.1 37 0 j + 1)).1 51 0 j + 1 = x
  have ex : x = m.1 37 0 j + 1 := by rw [← hx, uI_n (Or.inl (by decide)), q5.1 j hj]
  have e : ∀ a b c, a ≠ 37 → a ≠ 51 → (uI (uI m 37 0 j (m.1 37 0 j + 1)) 51 0 j x).1 a b c = m.1 a b c := fun a b c h1 h2 => by rw [uI_n (Or.inl h2), uI_n (Or.inl h1)]
  have g := IH_same (m2 := uI (uI m 37 0 j (m.1 37 0 j + 1)) 51 0 j x) (fun a b c hn => e a b c (by unfold nsH at hn; omega) (by unfold nsH at hn; omega)) ⟨fun a b c hn => e a b c (by unfold nsA at hn; omega) (by unfold nsA at hn; omega), fun n _ => rfl⟩ ⟨q1, q2⟩
  refine ⟨g.1, g.2, IS_same (fun a b c hn => e a b c (by unfold nsC at hn; omega) (by unfold nsC at hn; omega)) q3, IT_same (fun a b c hn => e a b c (by unfold nsT at hn; omega) (by unfold nsT at hn; omega)) q4, fun i hi => ?_, ?_, ?_, ?_⟩
  · rw [uI_n (m := uI m 37 0 j (m.1 37 0 j + 1)) (a := 37) (Or.inl (by decide))]
    by_cases c : i = j
    · subst c
      rw [uI_s, uI_s, ex]
    · rw [uI_n (Or.inr c), uI_n (Or.inr c), uI_n (Or.inl (by decide)), q5.1 i hi]
  · rw [e 0 0 17 (by decide) (by decide), e 40 0 21 (by decide) (by decide)]; exact q5.2.1
  · rw [e 40 0 24 (by decide) (by decide)]; exact q5.2.2.1
  · rw [e 40 0 23 (by decide) (by decide)]; exact q5.2.2.2
end
/-- the shape of an act's call -/
def aC (k a b d : Int32) (m : hM) : hR := calI (JX11_isRefused k a b m) fun x2 m1 => if x2 = 0 then (calI (JX11_act k a b m1) fun x4 m3 => some (some (.inl x4), m3)) else (some (some (.inl d), m1))
theorem aC_no {m : hM} {k a b d : Int32} {j : Nat} (hr : JX11_refusal 40 k a b m = some (some (.inl (nI j)), m)) (hj : j < 4) : aC k a b d m = some (some (.inl d), uI m 37 0 j (m.1 37 0 j + 1)) := by
  unfold aC
  rw [c_ref1 hr hj, calI_s, if_neg (by decide)]
theorem aC_yes {m m1 m2 : hM} {k a b d r : Int32} (hr : JX11_refusal 40 k a b m = some (some (.inl (-1)), m)) (hk : k ≠ 0) (h1 : JX11_remember m = some (none, m1)) (h2 : JX11_carryOut 40 k a b m1 = some (some (.inl r), m2)) : aC k a b d m = some (some (.inl r), m2) := by
  unfold aC
  rw [c_ref0 hr, calI_s, if_pos rfl]
  unfold JX11_act
  rw [h1, calV_s, if_neg hk, h2, calI_s, calI_s]
theorem VW_s {B t k : Nat} {v : Nat → Int32} {a : Int32} (h : VW B v t) (h1 : k < 6 → bw a (-255) 255) (h2 : k = 14 → bw a 0 3) (h3 : k = 16 → bw a 0 1) (h4 : k = 20 → bw a 0 4) (h5 : k = 22 → bw a 0 1) (h6 : k ≠ 12 ∧ k ≠ 17 ∧ k ≠ 18 ∧ k ≠ 30) : VW B (upd v k a) t := by
  obtain ⟨a1, a2, a3, a4, a5, a6, a7, a8, a9⟩ := h
  have e : ∀ (i : Nat) (lo hi : Int), bw (v i) lo hi → (k = i → bw a lo hi) → bw (upd v k a i) lo hi := fun i lo hi p q => by
    by_cases c : i = k
    · rw [c, pk_us]; exact q c.symm
    · rw [pk_un c]; exact p
  refine ⟨fun i hi => e i _ _ (a1 i hi) (fun c => h1 (by omega)), e 12 _ _ a2 (fun c => absurd c h6.1), e 14 _ _ a3 h2, e 16 _ _ a4 h3, e 17 _ _ a5 (fun c => absurd c h6.2.1), e 20 _ _ a6 h4, e 22 _ _ a7 h5, ?_, ?_⟩
  · rw [pk_un (Ne.symm h6.2.2.2)]; exact a8
  · rw [pk_un (Ne.symm h6.2.2.1)]; exact a9
theorem RS_s {B t k : Nat} {g a : Int32} {w v : Nat → Int32} {x : Int64} (h : RS B g w x v t) (hk : k < 49) (hv : VW B (upd v k a) t) : RS B g (upd w k a) x (upd v k a) t := by
  refine ⟨q_upd h.1 rfl, ?_, hv, ?_, h.2.2.2.2⟩
  · rw [pk_un (by omega), pk_un (by omega)]; exact h.2.1
  · rw [pk_un (by omega)]; exact h.2.2.2.1
theorem e_rts {m : hM} {a lo hi v : Int32} : JX11_refusalToSet a lo hi v m = some (some (.inl (if hwi a lo hi = 0 then 1 else if a = v then 2 else -1)), m) := by
  unfold JX11_refusalToSet
  rw [e_within, calI_s]
  by_cases c : hwi a lo hi = 0
  · rw [if_pos c, if_pos c]
  · rw [if_neg c, if_neg c]
    by_cases c2 : a = v
    · rw [if_pos c2, if_pos c2]
    · rw [if_neg c2, if_neg c2]
/-- one number of the row is set -/
theorem k_one (k a mx : Int32) (idx : Nat) (hk : k ≠ 0) (hi : idx < 49)
    (hn : ∀ m, m.1 0 0 12 = 0 → JX11_refusal 40 k a 0 m = some (some (.inl 0), m))
    (hr : ∀ m F B D P W t, CY m F B D P W t → JX11_refusal 40 k a 0 m = some (some (.inl (if hwi a 0 mx = 0 then 1 else if a = m.1 50 0 idx then 2 else -1)), m))
    (hc : ∀ m w x, hwi a 0 mx = 1 → (w 16 = 0 ∨ w 16 = 1) → JX11_carryOut 40 k a 0 (Sm m 40 w x) = some (some (.inl (w idx)), Sm m 40 (upd w idx a) x))
    (hv : ∀ B v t, hwi a 0 mx = 1 → VW B v t → VW B (upd v idx a) t) : Ok1 (aC k a 0 (-1)) (JX12_setOne (nI idx) a mx) := by
  intro m hm
  have no : ∀ j, j < 4 → JX11_refusal 40 k a 0 m = some (some (.inl (nI j)), m) → JX12_setOne (nI idx) a mx (uI m 37 0 j (m.1 37 0 j + 1)) = JX12_setOne_40 (nI idx) a (nI j) (uI m 37 0 j (m.1 37 0 j + 1)) → ∃ r m1 m2, aC k a 0 (-1) m = some (some (.inl r), m1) ∧ JX12_setOne (nI idx) a mx m1 = some (some (.inl r), m2) ∧ Inv m2 := fun j hj h1 h2 => by
    refine ⟨_, _, _, aC_no h1 hj, ?_, ref_inv hm hj⟩
    rw [h2]
    unfold JX12_setOne_40
    rw [m_ref1 hj, calI_s, if_neg (by decide)]
  have o : ∀ j (c e : Nat), c = 40 ∨ c = 50 → (uI m 37 0 j (m.1 37 0 j + 1)).1 c 0 e = m.1 c 0 e := fun j c e h => uI_n (by omega)
  by_cases c : m.1 0 0 12 = 0
  · apply no 0 (by decide) (hn m c)
    unfold JX12_setOne
    rw [o 0 40 15 (Or.inl rfl), ← hm.1, if_pos c]
    rfl
  · obtain ⟨F, B, D, P, W, t, h⟩ := Inv_cy hm c
    have h15 : ¬ m.1 40 0 15 = 0 := by rw [← hm.1]; exact c
    have hr1 := hr m F B D P W t h
    by_cases c1 : hwi a 0 mx = 0
    · rw [if_pos c1] at hr1
      apply no 1 (by decide) hr1
      unfold JX12_setOne
      rw [o 1 40 15 (Or.inl rfl), if_neg h15, e_in, calI_s, if_pos c1]
      rfl
    · rw [if_neg c1] at hr1
      by_cases c2 : a = m.1 50 0 idx
      · rw [if_pos c2] at hr1
        apply no 2 (by decide) hr1
        unfold JX12_setOne
        rw [o 2 40 15 (Or.inl rfl), if_neg h15, e_in, calI_s, if_neg c1, rd idx rfl (by omega), o 2 50 idx (Or.inr rfl), if_pos c2.symm]
        rfl
      · rw [if_neg c2] at hr1
        have c3 : hwi a 0 mx = 1 := (hwi_b _ _ _).resolve_left c1
        obtain ⟨m1, r1, r2, r3, r4⟩ := act1 hm h
        have hRS := h.1.2.2.2.1.1
        have hw := VW_q hRS.1 hRS.2.2.1
        obtain ⟨m2, k1, k2, k3, k4⟩ := r4 (upd (vec m 40) idx a) (m.2 12 40 17) (upd (m.1 50 0) idx a) (RS_s hRS hi (hv _ _ _ c3 hRS.2.2.1)) (fun q hq => pk_un (by omega))
        have e1 : JX11_carryOut 40 k a 0 m1 = some (some (.inl (vec m 40 idx)), Sm m1 40 (upd (vec m 40) idx a) (m.2 12 40 17)) := by
          have z := hc m1 (vec m 40) (m.2 12 40 17) c3 (bw_01 hw.2.2.2.1)
          rw [← r3] at z
          exact z
        refine ⟨vec m 40 idx, _, Nm m2 (upd (m.1 50 0) idx a), aC_yes hr1 hk r1 e1, ?_, k4⟩
        generalize hmB : Sm m1 40 (upd (vec m 40) idx a) (m.2 12 40 17) = mB at *
        have o2 : ∀ (b e : Nat), b = 40 ∨ b = 50 → mB.1 b 0 e = m.1 b 0 e := fun b e z => by
          rw [← hmB]
          have z2 : (Sm m1 40 (upd (vec m 40) idx a) (m.2 12 40 17)).1 b 0 e = m1.1 b 0 e := if_neg (by omega)
          rw [z2, r2.1 b 0 e (by omega) (by omega)]
        unfold JX12_setOne JX12_setOne_40
        rw [o2 40 15 (Or.inl rfl), if_neg h15, e_in, calI_s, if_neg c1, rd idx rfl (by omega), o2 50 idx (Or.inr rfl), if_neg (fun z => c2 z.symm), m_ref0, calI_s, if_pos rfl, k1, calV_s, rd idx rfl (by omega), k2]
        have e2 : m2 = Nm m2 (m.1 50 0) := by rw [← k2, Nm_self]
        have e3 : ast m2 50 0 (nI idx) a (fun m8 => some (some (.inl (m.1 50 0 idx)), m8)) = ast (Nm m2 (m.1 50 0)) 50 0 (nI idx) a (fun m8 => some (some (.inl (m.1 50 0 idx)), m8)) := by rw [← e2]
        rw [e3, Nast idx rfl (by omega), ← hRS.1 idx hi]
