/-! acts: refusals -/
theorem swL_p {x k : Int32} {q d : hR} {l : List (Int32 × hR)} (h : x = k) : swL x ((k, q) :: l) d = q := if_pos h
theorem swL_n {x k : Int32} {q d : hR} {l : List (Int32 × hR)} (h : ¬ x = k) : swL x ((k, q) :: l) d = swL x l d := if_neg h
theorem swL_0 {x : Int32} {d : hR} : swL x [] d = d := rfl
section
variable {m : hM} {k a b : Int32} {j : Nat}
theorem nI_m1 (hj : j < 4) : ¬ nI j = -1 := by
  have e : ∀ j, j < 4 → ¬ nI j = -1 := by decide +kernel
  exact e j hj
theorem c_ref0 {m1 : hM} (hr : JX11_refusal 40 k a b m = some (some (.inl (-1)), m1)) : JX11_isRefused k a b m = some (some (.inl 0), m1) := by
  unfold JX11_isRefused alenJ JX11_isRefused_40
  rw [hr, calI_s, if_pos (by decide)]
  show calI (JX11_within (-1) 0 (Int32.ofNat (sLen 37 0) - 1) m1) _ = _
  rw [e_within, calI_s, if_pos (by decide), if_pos rfl, jretZ_0]
theorem c_ref1 {m1 : hM} (hr : JX11_refusal 40 k a b m = some (some (.inl (nI j)), m1)) (hj : j < 4) : JX11_isRefused k a b m = some (some (.inl 1), uI m1 37 0 j (m1.1 37 0 j + 1)) := by
  unfold JX11_isRefused alenJ JX11_isRefused_40
  rw [hr, calI_s, if_pos (by decide)]
  show calI (JX11_within (nI j) 0 (Int32.ofNat (sLen 37 0) - 1) m1) _ = _
  have e : hwi (nI j) 0 (Int32.ofNat (sLen 37 0) - 1) = 1 := by
    have e : ∀ j, j < 4 → hwi (nI j) 0 3 = 1 := by decide +kernel
    exact e j hj
  rw [e_within, calI_s, e, if_neg (by decide), ald_n (t := 37) (n := 0) j rfl (by decide) hj, ast_n (t := 37) (n := 0) j rfl (by decide) hj, if_neg (nI_m1 hj), jretZ_1]
theorem m_ref0 : JX12_isRefused (-1) m = some (some (.inl 0), m) := by
  unfold JX12_isRefused JX12_isRefused_15
  rw [if_pos rfl, if_pos rfl, jretZ_0]
theorem m_ref1 (hj : j < 4) : JX12_isRefused (nI j) m = some (some (.inl 1), uI m 51 0 j (m.1 51 0 j + 1)) := by
  unfold JX12_isRefused JX12_isRefused_15
  rw [if_neg (nI_m1 hj), ald_n (t := 51) (n := 0) j rfl (by decide) hj, ast_n (t := 51) (n := 0) j rfl (by decide) hj, if_neg (nI_m1 hj), jretZ_1]
/-- a refused act, on both sides -/
theorem ref_inv (h : Inv m) (hj : j < 4) : Inv (uI (uI m 37 0 j (m.1 37 0 j + 1)) 51 0 j (m.1 51 0 j + 1)) := by
  obtain ⟨q1, q2, q3, q4, q5⟩ := h
  have ex : m.1 51 0 j + 1 = m.1 37 0 j + 1 := by rw [q5.1 j hj]
  generalize m.1 51 0 j + 1 = x at ex
  have e : ∀ a b c, a ≠ 37 → a ≠ 51 → (uI (uI m 37 0 j (m.1 37 0 j + 1)) 51 0 j x).1 a b c = m.1 a b c := fun a b c h1 h2 => by rw [uI_n (Or.inl h2), uI_n (Or.inl h1)]
  have g := IH_same (m2 := uI (uI m 37 0 j (m.1 37 0 j + 1)) 51 0 j x) (fun a b c hn => e a b c (by unfold nsH at hn; omega) (by unfold nsH at hn; omega)) ⟨fun a b c hn => e a b c (by unfold nsA at hn; omega) (by unfold nsA at hn; omega), fun n _ => rfl⟩ ⟨q1, q2⟩
  refine ⟨g.1, g.2, IS_same (fun a b c hn => e a b c (by unfold nsC at hn; omega) (by unfold nsC at hn; omega)) q3, IT_same (fun a b c hn => e a b c (by unfold nsT at hn; omega) (by unfold nsT at hn; omega)) q4, fun i hi => ?_, ?_, ?_, ?_⟩
  · rw [uI_n (m := uI m 37 0 j (m.1 37 0 j + 1)) (a := 37) (Or.inl (by decide))]
    by_cases c : i = j
    · subst c
      rw [uI_s, uI_s, ex]
    · rw [uI_n (Or.inr c), uI_n (Or.inr c), uI_n (Or.inl (by decide)), q5.1 i hi]
  · rw [e 0 0 17 (by decide) (by decide), e 40 0 21 (by decide) (by decide)]; exact q5.2.1
  · rw [e 40 0 24 (by decide) (by decide)]; exact q5.2.2.1
  · rw [e 40 0 23 (by decide) (by decide)]; exact q5.2.2.2
end
theorem Same_Ex {m m2 : hM} (h : Ex m m2) : Same m m2 := ⟨⟨fun a b c q => h.1 a b c (by unfold nsA at q; omega), fun n _ => by rw [h.2]⟩, fun a b c q => h.1 a b c (by unfold nsC at q; omega), fun a b c q => h.1 a b c (by unfold nsT at q; omega), fun a b c q => h.1 a b c (by unfold nsR at q; omega), fun a b c q => h.1 a b c (by unfold nsH at q; omega)⟩
theorem Same_HL {m : hM} {h l : Int32} : Same m (HL m h l) := ⟨⟨fun a b c q => HL_o (by unfold nsA at q; omega), fun n _ => rfl⟩, fun a b c q => HL_o (by unfold nsC at q; omega), fun a b c q => HL_o (by unfold nsT at q; omega), fun a b c q => HL_o (by unfold nsR at q; omega), fun a b c q => HL_o (by unfold nsH at q; omega)⟩
/-! why an act can't be -/
def rts (a lo hi v : Int32) : Int32 := if hwi a lo hi = 0 then 1 else if a = v then 2 else -1
theorem e_rts {m : hM} {a lo hi v : Int32} : JX11_refusalToSet a lo hi v m = some (some (.inl (rts a lo hi v)), m) := by
  unfold JX11_refusalToSet rts
  rw [e_within, calI_s]
  by_cases c : hwi a lo hi = 0
  · rw [if_pos c, if_pos c]
  · rw [if_neg c, if_neg c]
    by_cases c2 : a = v
    · rw [if_pos c2, if_pos c2]
    · rw [if_neg c2, if_neg c2]
def rfG (p : Nat → Int32) (F B D P k : Nat) (a b : Int32) (v : Nat → Int32) : Int32 :=
  if k = 0 then (if hwi a 1 60 = 0 then 1 else if v 18 + a ≤ 9999 then -1 else 3) else if k = 1 then rts a 0 3 (v 14) else if k = 2 then rts a 0 1 (v 16) else if k = 3 then (if hwi a 0 (nI (F + B) - 1) = 0 then 0 else rts b (-255) 255 (v a.toNatClampNeg)) else if k = 4 then (if v 22 = 0 then -1 else 2) else if k = 5 then rts a 0 4 (v 20) else if k = 6 then rts a 0 99 (v 19) else (if nbk (hts p F B D P v) (phN v) 3 = phN v then 2 else -1)
theorem rfG_0 {p : Nat → Int32} {F B D P : Nat} {a b : Int32} {v : Nat → Int32} : rfG p F B D P 0 a b v = (if hwi a 1 60 = 0 then 1 else if v 18 + a ≤ 9999 then -1 else 3) := by
  unfold rfG
  rw [if_pos rfl]
theorem rfG_1 {p : Nat → Int32} {F B D P : Nat} {a b : Int32} {v : Nat → Int32} : rfG p F B D P 1 a b v = rts a 0 3 (v 14) := by
  unfold rfG
  rw [if_neg (by decide : ¬ (1 : Nat) = 0), if_pos rfl]
theorem rfG_2 {p : Nat → Int32} {F B D P : Nat} {a b : Int32} {v : Nat → Int32} : rfG p F B D P 2 a b v = rts a 0 1 (v 16) := by
  unfold rfG
  rw [if_neg (by decide : ¬ (2 : Nat) = 0), if_neg (by decide : ¬ (2 : Nat) = 1), if_pos rfl]
theorem rfG_3 {p : Nat → Int32} {F B D P : Nat} {a b : Int32} {v : Nat → Int32} : rfG p F B D P 3 a b v = (if hwi a 0 (nI (F + B) - 1) = 0 then 0 else rts b (-255) 255 (v a.toNatClampNeg)) := by
  unfold rfG
  rw [if_neg (by decide : ¬ (3 : Nat) = 0), if_neg (by decide : ¬ (3 : Nat) = 1), if_neg (by decide : ¬ (3 : Nat) = 2), if_pos rfl]
theorem rfG_4 {p : Nat → Int32} {F B D P : Nat} {a b : Int32} {v : Nat → Int32} : rfG p F B D P 4 a b v = (if v 22 = 0 then -1 else 2) := by
  unfold rfG
  rw [if_neg (by decide : ¬ (4 : Nat) = 0), if_neg (by decide : ¬ (4 : Nat) = 1), if_neg (by decide : ¬ (4 : Nat) = 2), if_neg (by decide : ¬ (4 : Nat) = 3), if_pos rfl]
theorem rfG_5 {p : Nat → Int32} {F B D P : Nat} {a b : Int32} {v : Nat → Int32} : rfG p F B D P 5 a b v = rts a 0 4 (v 20) := by
  unfold rfG
  rw [if_neg (by decide : ¬ (5 : Nat) = 0), if_neg (by decide : ¬ (5 : Nat) = 1), if_neg (by decide : ¬ (5 : Nat) = 2), if_neg (by decide : ¬ (5 : Nat) = 3), if_neg (by decide : ¬ (5 : Nat) = 4), if_pos rfl]
theorem rfG_6 {p : Nat → Int32} {F B D P : Nat} {a b : Int32} {v : Nat → Int32} : rfG p F B D P 6 a b v = rts a 0 99 (v 19) := by
  unfold rfG
  rw [if_neg (by decide : ¬ (6 : Nat) = 0), if_neg (by decide : ¬ (6 : Nat) = 1), if_neg (by decide : ¬ (6 : Nat) = 2), if_neg (by decide : ¬ (6 : Nat) = 3), if_neg (by decide : ¬ (6 : Nat) = 4), if_neg (by decide : ¬ (6 : Nat) = 5), if_pos rfl]
theorem rfG_7 {p : Nat → Int32} {F B D P : Nat} {a b : Int32} {v : Nat → Int32} : rfG p F B D P 7 a b v = (if nbk (hts p F B D P v) (phN v) 3 = phN v then 2 else -1) := by
  unfold rfG
  rw [if_neg (by decide : ¬ (7 : Nat) = 0), if_neg (by decide : ¬ (7 : Nat) = 1), if_neg (by decide : ¬ (7 : Nat) = 2), if_neg (by decide : ¬ (7 : Nat) = 3), if_neg (by decide : ¬ (7 : Nat) = 4), if_neg (by decide : ¬ (7 : Nat) = 5), if_neg (by decide : ¬ (7 : Nat) = 6)]
/-- what a State's act rests on -/
def SA (m : hM) (n F B D P W : Nat) (v : Nat → Int32) (t : Nat) : Prop := LL m F B D P W ∧ LB m P ∧ m.1 0 0 12 = 1 ∧ Eq9 (vec m n) v ∧ VW B v t ∧ n < 47
section
variable {m : hM} {n F B D P W t : Nat} {v : Nat → Int32}
theorem SA_at (h : SA m n F B D P W v t) (a c i : Nat) (ha : 12 ≤ a ∧ a ≤ 19) (hi : ix a c = i) (hi2 : i < 49) : m.1 a n c = v i := by
  rw [vec_at ha, hi]
  exact h.2.2.2.1 i hi2
theorem SA_ey (h : SA m n F B D P W v t) : EyC m n F B D P W v := ⟨h.1.1, h.2.1.2.1, fun i hi => SA_at h 13 i i (by decide) (ix13 i hi) (by omega), h.2.2.2.2.1.1⟩
theorem c_tapN (h12 : m.1 0 0 12 = 1) (hl : LL m F B D P W) (a : Int32) : JX11_isTap a m = some (some (.inl (hwi a 0 (nI (F + B) - 1))), m) :=
  o_isTap (c_tapCount (by rw [h12]; decide) hl) (Nat.add_le_add hl.1.2.2.2.2.2.2.1 hl.1.2.2.2.2.2.2.2.1) a
theorem c_refusal (h : SA m n F B D P W v t) (k : Nat) (hk : k ≤ 7) (a b : Int32) : ∃ m1, JX11_refusal n (nI k) a b m = some (some (.inl (rfG (m.1 6 0) F B D P k a b v)), m1) ∧ Ex m m1 := by
  have s := SA_at h
  have h12 : ¬ m.1 0 0 12 = 0 := by rw [h.2.2.1]; decide
  have w : VW B v t := h.2.2.2.2.1
  have hph := ph_of w.2.2.1
  have one : ∀ x : Int32, JX11_refusal n (nI k) a b m = some (some (.inl x), m) → x = rfG (m.1 6 0) F B D P k a b v → ∃ m1, JX11_refusal n (nI k) a b m = some (some (.inl (rfG (m.1 6 0) F B D P k a b v)), m1) ∧ Ex m m1 := fun x e1 e2 => ⟨m, by rw [← e2]; exact e1, Ex_r⟩
  rcases (by omega : k = 0 ∨ k = 1 ∨ k = 2 ∨ k = 3 ∨ k = 4 ∨ k = 5 ∨ k = 6 ∨ k = 7) with e | e | e | e | e | e | e | e <;> subst e
  · apply one (if hwi a 1 60 = 0 then 1 else if v 18 + a ≤ 9999 then -1 else 3)
    · unfold JX11_refusal
      rw [if_neg h12, swL_p (by decide)]
      rw [e_within, calI_s]
      by_cases c : hwi a 1 60 = 0
      · rw [if_pos c, if_pos c]
      · rw [if_neg c, if_neg c, s 12 6 18 (by decide) rfl (by decide)]
        by_cases c2 : v 18 + a ≤ 9999
        · rw [if_pos c2, if_pos c2]
        · rw [if_neg c2, if_neg c2]
    · exact rfG_0.symm
  · apply one (rts a 0 3 (v 14))
    · unfold JX11_refusal
      rw [if_neg h12, swL_n (by decide), swL_p (by decide)]
      rw [e_rts, calI_s, s 12 7 14 (by decide) rfl (by decide)]
    · exact rfG_1.symm
  · apply one (rts a 0 1 (v 16))
    · unfold JX11_refusal JX11_refusal_112
      rw [if_neg h12, swL_n (by decide), swL_n (by decide), swL_p (by decide)]
      rw [e_rts, e_rts, calI_s, calI_s, s 12 15 16 (by decide) rfl (by decide)]
      rcases bw_01 w.2.2.2.1 with e | e
      · rw [if_pos e, e]
      · rw [if_neg (by rw [e]; decide), e]
    · exact rfG_2.symm
  · apply one (if hwi a 0 (nI (F + B) - 1) = 0 then 0 else rts b (-255) 255 (v a.toNatClampNeg))
    · unfold JX11_refusal
      rw [if_neg h12, swL_n (by decide), swL_n (by decide), swL_n (by decide), swL_p (by decide)]
      rw [c_tapN h.2.2.1 h.1, calI_s]
      have hF : F ≤ 3 := h.1.1.2.2.2.2.2.2.1
      have hB : B ≤ 3 := h.1.1.2.2.2.2.2.2.2.1
      rcases hw a (nI (F + B) - 1) (F + B) (by omega) rfl with ⟨j, hj, ea, e1⟩ | ⟨e1, _⟩
      · rw [e1, if_neg (by decide), if_neg (by decide), ald_n (t := 13) (n := n) j ea (by decide) (show j < 6 by omega), e_rts, calI_s, s 13 j j (by decide) (ix13 j (by omega)) (by omega), ea, nI_clamp (by omega)]
      · rw [e1, if_pos rfl, if_pos rfl]
    · exact rfG_3.symm
  · apply one (if v 22 = 0 then -1 else 2)
    · unfold JX11_refusal
      rw [if_neg h12, swL_n (by decide), swL_n (by decide), swL_n (by decide), swL_n (by decide), swL_p (by decide)]
      rw [s 12 16 22 (by decide) rfl (by decide)]
      by_cases c : v 22 = 0
      · rw [if_pos c, if_pos c]
      · rw [if_neg c, if_neg c]
    · exact rfG_4.symm
  · apply one (rts a 0 4 (v 20))
    · unfold JX11_refusal
      rw [if_neg h12, swL_n (by decide), swL_n (by decide), swL_n (by decide), swL_n (by decide), swL_n (by decide), swL_p (by decide)]
      rw [e_rts, calI_s, s 12 12 20 (by decide) rfl (by decide)]
    · exact rfG_5.symm
  · apply one (rts a 0 99 (v 19))
    · unfold JX11_refusal
      rw [if_neg h12, swL_n (by decide), swL_n (by decide), swL_n (by decide), swL_n (by decide), swL_n (by decide), swL_n (by decide), swL_p (by decide)]
      rw [e_rts, calI_s, s 12 13 19 (by decide) rfl (by decide)]
    · exact rfG_6.symm
  · obtain ⟨m1, e1, e2⟩ := c_hunted (SA_ey h) (a := phN v) (by rw [s 12 7 14 (by decide) rfl (by decide)]; exact hph.1) hph.2
    refine ⟨m1, ?_, e2⟩
    unfold JX11_refusal
    rw [if_neg h12, swL_n (by decide), swL_n (by decide), swL_n (by decide), swL_n (by decide), swL_n (by decide), swL_n (by decide), swL_n (by decide), swL_p (by decide)]
    rw [e1, calI_s, e2.1 12 n 7 (by omega), s 12 7 14 (by decide) rfl (by decide)]
    have q : (nI (nbk (hts (m.1 6 0) F B D P v) (phN v) 3) = v 14) ↔ nbk (hts (m.1 6 0) F B D P v) (phN v) 3 = phN v := by
      have z := nbk_3 (hts (m.1 6 0) F B D P v) (phN v) 3 hph.2
      rw [hph.1]
      exact nI_eq (by omega) (by omega)
    rw [rfG_7]
    by_cases c : nbk (hts (m.1 6 0) F B D P v) (phN v) 3 = phN v
    · rw [if_pos (q.mpr c), if_pos c]
    · rw [if_neg (fun z => c (q.mp z)), if_neg c]
end
/-! what an act makes of a row -/
def gA (p : Nat → Int32) (S : (Nat → Int32) → Nat → Nat → Int32) (F B D P k : Nat) (a b : Int32) (v : Nat → Int32) : Nat → Int32 :=
  if k = 0 then S v a.toNatClampNeg else if k = 1 then upd v 14 a else if k = 2 then upd v 16 a else if k = 3 then upd (upd v a.toNatClampNeg b) (6 + a.toNatClampNeg) 0 else if k = 4 then upd v 22 1 else if k = 5 then upd v 20 a else if k = 6 then upd v 19 a else upd v 14 (nI (nbk (hts p F B D P v) (phN v) 3))
def gR (p : Nat → Int32) (F B D P k : Nat) (a : Int32) (v : Nat → Int32) : Int32 :=
  if k = 1 then v 14 else if k = 2 then v 16 else if k = 3 then v a.toNatClampNeg else if k = 4 then v 18 else if k = 5 then v 20 else if k = 6 then v 19 else nI (nbk (hts p F B D P v) (phN v) 3)
/-- what numbers an act may have -/
def AV (F B k : Nat) (a b : Int32) : Prop := k ≤ 7 ∧ (k = 0 → bw a 1 60) ∧ (k = 1 → bw a 0 3) ∧ (k = 2 → bw a 0 1) ∧ (k = 3 → (∃ j, j < F + B ∧ a = nI j) ∧ bw b (-255) 255) ∧ (k = 5 → bw a 0 4)
theorem VW_s {B t k : Nat} {v : Nat → Int32} {a : Int32} (h : VW B v t) (h1 : k < 6 → bw a (-255) 255) (h2 : k = 14 → bw a 0 3) (h3 : k = 16 → bw a 0 1) (h4 : k = 20 → bw a 0 4) (h5 : k = 22 → bw a 0 1) (h6 : k ≠ 12 ∧ k ≠ 17 ∧ k ≠ 18 ∧ k ≠ 30) : VW B (upd v k a) t := by
  obtain ⟨a1, a2, a3, a4, a5, a6, a7, a8, a9⟩ := h
  have e : ∀ (i : Nat) (lo hi : Int), bw (v i) lo hi → (k = i → bw a lo hi) → bw (upd v k a i) lo hi := fun i lo hi p q => by
    by_cases c : i = k
    · rw [c, pk_us]; exact q c.symm
    · rw [pk_un c]; exact p
  refine ⟨fun i hi => e i _ _ (a1 i hi) (fun c => h1 (by omega)), e 12 _ _ a2 (fun c => absurd c h6.1), e 14 _ _ a3 h2, e 16 _ _ a4 h3, e 17 _ _ a5 (fun c => absurd c h6.2.1), e 20 _ _ a6 h4, e 22 _ _ a7 h5, ?_, ?_⟩
  · rw [pk_un (Ne.symm h6.2.2.2)]; exact a8
  · rw [pk_un (Ne.symm h6.2.2.1)]; exact a9
theorem RS_s {B t k : Nat} {g a : Int32} {w v : Nat → Int32} {x : Int64} (h : RS B g w x v t) (hk : k < 49) (hv : VW B (upd v k a) t) : RS B g (upd w k a) x (upd v k a) t := by
  refine ⟨q_upd h.1 rfl, ?_, hv, ?_, h.2.2.2.2⟩
  · rw [pk_un (by omega), pk_un (by omega)]; exact h.2.1
  · rw [pk_un (by omega)]; exact h.2.2.2.1
theorem n01 {i : Nat} (h : i ≤ 3) : bw (nI i) 0 3 := ⟨by rw [nI_toInt (by omega)]; omega, by rw [nI_toInt (by omega)]; omega⟩
section
variable {m : hM} {n F B D P W t : Nat} {g : Int32} {v : Nat → Int32}
/-- an act other than SEND, on a State -/
theorem c_carry (h : SA m n F B D P W v t) (hr : RS B g (vec m n) (m.2 12 n 17) v t) (k : Nat) (hk : 1 ≤ k) {a b : Int32} (hv : AV F B k a b) : ∃ m1 w1, JX11_carryOut n (nI k) a b m = some (some (.inl (gR (m.1 6 0) F B D P k a v)), Sm m1 n w1 (m.2 12 n 17)) ∧ Ex m m1 ∧ ∀ S, RS B g w1 (m.2 12 n 17) (gA (m.1 6 0) S F B D P k a b v) t := by
  have s := SA_at h
  have w : VW B v t := h.2.2.2.2.1
  have hph := ph_of w.2.2.1
  obtain ⟨v0, v1, v2, v3, v4, v5⟩ := hv
  have hF : F ≤ 3 := h.1.1.2.2.2.2.2.2.1
  have hB : B ≤ 3 := h.1.1.2.2.2.2.2.2.2.1
  have self : Sm m n (vec m n) (m.2 12 n 17) = m := Sm_self m n
  have one : ∀ (idx : Nat) (y : Int32) (c : Nat), ix 12 c = idx → uI m 12 n c y = Sm m n (upd (vec m n) idx y) (m.2 12 n 17) := fun idx y c hi => by
    have e := Sm_u (m := m) (n := n) (w := vec m n) (x := m.2 12 n 17) (t := 12) (c := c) (v := y) (by decide)
    rw [self, hi] at e
    exact e
  rcases (by omega : k = 1 ∨ k = 2 ∨ k = 3 ∨ k = 4 ∨ k = 5 ∨ k = 6 ∨ k = 7) with e | e | e | e | e | e | e <;> subst e
  · refine ⟨m, upd (vec m n) 14 a, ?_, Ex_r, fun S => RS_s hr (by decide) (VW_s w (fun c => absurd c (by decide)) (fun _ => v2 rfl) (fun c => absurd c (by decide)) (fun c => absurd c (by decide)) (fun c => absurd c (by decide)) (by decide))⟩
    unfold JX11_carryOut
    rw [swL_p (by decide)]
    unfold JX8_putPhase
    rw [lt_s9, stI_s, calI_s, one 14 a 7 rfl, s 12 7 14 (by decide) rfl (by decide)]
    rfl
  · refine ⟨m, upd (vec m n) 16 a, ?_, Ex_r, fun S => RS_s hr (by decide) (VW_s w (fun c => absurd c (by decide)) (fun c => absurd c (by decide)) (fun _ => v3 rfl) (fun c => absurd c (by decide)) (fun c => absurd c (by decide)) (by decide))⟩
    unfold JX11_carryOut
    rw [swL_n (by decide), swL_p (by decide)]
    have e12 : ∀ y, JX8_putHeld_12 n a y m = some (some (.inl y), uI m 12 n 15 a) := fun y => by
      unfold JX8_putHeld_12
      rcases bw_01 (v3 rfl) with e | e
      · rw [if_neg (by rw [e]; decide), stZ_0, e]
      · rw [if_pos e, stZ_1, e]
    unfold JX8_putHeld
    rw [e12, e12, s 12 15 16 (by decide) rfl (by decide), one 16 a 15 rfl]
    show calI (if v 16 = 0 then _ else _) _ = (some (some (.inl (v 16)), _) : hR)
    rcases bw_01 w.2.2.2.1 with e | e
    · rw [if_pos e, calI_s, e]
    · rw [if_neg (by rw [e]; decide), calI_s, e]
  · obtain ⟨⟨j, hj, ea⟩, hb⟩ := v4 rfl
    subst ea
    have cl : (nI j).toNatClampNeg = j := nI_clamp (by omega)
    refine ⟨m, upd (upd (vec m n) j b) (6 + j) 0, ?_, Ex_r, fun S => ?_⟩
    · unfold JX11_carryOut
      rw [swL_n (by decide), swL_n (by decide), swL_p (by decide)]
      unfold JX8_putTap
      have e5 : hwi (nI j) 0 5 = 1 := by
        have e : ∀ j, j < 6 → hwi (nI j) 0 5 = 1 := by decide +kernel
        exact e j (by omega)
      rw [e_within, calI_s, e5, if_neg (by decide), ald_n (t := 13) (n := n) j rfl (by decide) (show j < 6 by omega), s 13 j j (by decide) (ix13 j (by omega)) (by omega)]
      have e := W13 (m := m) (n := n) (w := vec m n) (x := m.2 12 n 17) (v := b) (K := fun m4 => ast m4 14 n (nI j) 0 fun m5 => some (some (.inl (v j)), m5)) j rfl (show j < 6 by omega)
      rw [self] at e
      rw [e, W14 j rfl (by omega), calI_s]
      show _ = (some (some (.inl (v (nI j).toNatClampNeg)), _) : hR)
      rw [cl]
    · show RS B g _ _ (upd (upd v (nI j).toNatClampNeg b) (6 + (nI j).toNatClampNeg) 0) t
      rw [cl]
      have r1 := RS_s (k := j) (a := b) hr (by omega) (VW_s w (fun _ => hb) (fun c => absurd c (by omega)) (fun c => absurd c (by omega)) (fun c => absurd c (by omega)) (fun c => absurd c (by omega)) (by omega))
      exact RS_s r1 (by omega) (VW_s r1.2.2.1 (fun c => absurd c (by omega)) (fun c => absurd c (by omega)) (fun c => absurd c (by omega)) (fun c => absurd c (by omega)) (fun c => absurd c (by omega)) (by omega))
  · refine ⟨m, upd (vec m n) 22 1, ?_, Ex_r, fun S => RS_s hr (by decide) (VW_s w (fun c => absurd c (by decide)) (fun c => absurd c (by decide)) (fun c => absurd c (by decide)) (fun c => absurd c (by decide)) (fun _ => ⟨by decide, by decide⟩) (by decide))⟩
    unfold JX11_carryOut
    rw [swL_n (by decide), swL_n (by decide), swL_n (by decide), swL_p (by decide)]
    rw [stZ_1, uI_n (Or.inr (by decide)), one 22 1 16 rfl, s 12 6 18 (by decide) rfl (by decide)]
    rfl
  · refine ⟨m, upd (vec m n) 20 a, ?_, Ex_r, fun S => RS_s hr (by decide) (VW_s w (fun c => absurd c (by decide)) (fun c => absurd c (by decide)) (fun c => absurd c (by decide)) (fun _ => v5 rfl) (fun c => absurd c (by decide)) (by decide))⟩
    unfold JX11_carryOut
    rw [swL_n (by decide), swL_n (by decide), swL_n (by decide), swL_n (by decide), swL_p (by decide)]
    unfold JX8_putNoise
    rw [lt_s9, stI_s, calI_s, one 20 a 12 rfl, s 12 12 20 (by decide) rfl (by decide)]
    rfl
  · refine ⟨m, upd (vec m n) 19 a, ?_, Ex_r, fun S => RS_s hr (by decide) (VW_s w (fun c => absurd c (by decide)) (fun c => absurd c (by decide)) (fun c => absurd c (by decide)) (fun c => absurd c (by decide)) (fun c => absurd c (by decide)) (by decide))⟩
    unfold JX11_carryOut
    rw [swL_n (by decide), swL_n (by decide), swL_n (by decide), swL_n (by decide), swL_n (by decide), swL_p (by decide)]
    unfold JX8_putTrain
    rw [lt_s9, stI_s, calI_s, one 19 a 13 rfl, s 12 13 19 (by decide) rfl (by decide)]
    rfl
  · obtain ⟨m1, e1, e2⟩ := c_hunted (SA_ey h) (a := phN v) (by rw [s 12 7 14 (by decide) rfl (by decide)]; exact hph.1) hph.2
    have z := nbk_3 (hts (m.1 6 0) F B D P v) (phN v) 3 hph.2
    refine ⟨m1, upd (vec m n) 14 (nI (nbk (hts (m.1 6 0) F B D P v) (phN v) 3)), ?_, e2, fun S => RS_s hr (by decide) (VW_s w (fun c => absurd c (by decide)) (fun _ => n01 z) (fun c => absurd c (by decide)) (fun c => absurd c (by decide)) (fun c => absurd c (by decide)) (by decide))⟩
    unfold JX11_carryOut
    rw [swL_n (by decide), swL_n (by decide), swL_n (by decide), swL_n (by decide), swL_n (by decide), swL_n (by decide), swL_p (by decide)]
    have ev : vec m1 n = vec m n := by
      funext i
      unfold vec
      have := lc_k i
      exact e2.1 _ _ _ (by omega)
    have es := Sm_u (m := m1) (n := n) (w := vec m1 n) (x := m1.2 12 n 17) (t := 12) (c := 7) (v := nI (nbk (hts (m.1 6 0) F B D P v) (phN v) 3)) (by decide)
    rw [Sm_self, ev, e2.2, show ix 12 7 = 14 from rfl] at es
    rw [e1, calI_s, stI_s, uI_s, es]
    rfl
end
