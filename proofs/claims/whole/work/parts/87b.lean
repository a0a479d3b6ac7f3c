def eqV : nV → nV → Bool
  | .inl x, .inl y => decide (x = y)
  | .inr (.inl x), .inr (.inl y) => decide (x = y)
  | .inr (.inr x), .inr (.inr y) => decide (x = y)
  | _, _ => false
theorem eqV_s {a b : nV} (h : eqV a b = true) : a = b := by
  rcases a with x | x | x <;> rcases b with y | y | y <;> simp only [eqV, decide_eq_true_eq] at h <;> first | (rw [h]) | (cases h)
def eqL : List nV → List nV → Bool
  | [], [] => true
  | a :: l, b :: m => eqV a b && eqL l m
  | _, _ => false
theorem eqL_s : ∀ {a b : List nV}, eqL a b = true → a = b
  | [], [], _ => rfl
  | a :: l, b :: m, h => by
    simp only [eqL, Bool.and_eq_true] at h
    rw [eqV_s h.1, eqL_s h.2]
  | [], _ :: _, h => by cases h
  | _ :: _, [], h => by cases h
def eqE : nE → nE → Bool
  | .inl x, .inl y => decide (x = y)
  | .inr (.inl x), .inr (.inl y) => decide (x = y)
  | .inr (.inr x), .inr (.inr y) => decide (x.1 = y.1) && eqL x.2 y.2
  | _, _ => false
theorem eqE_s {a b : nE} (h : eqE a b = true) : a = b := by
  rcases a with x | x | x <;> rcases b with y | y | y
  · simp only [eqE, decide_eq_true_eq] at h; rw [h]
  · cases h
  · cases h
  · cases h
  · simp only [eqE, decide_eq_true_eq] at h; rw [h]
  · cases h
  · cases h
  · cases h
  · simp only [eqE, Bool.and_eq_true, decide_eq_true_eq] at h
    obtain ⟨x1, x2⟩ := x
    obtain ⟨y1, y2⟩ := y
    have h1 : x1 = y1 := h.1
    have h2 : x2 = y2 := eqL_s h.2
    rw [h1, h2]
def eqO (a : Option nE) (b : nE) : Bool := match a with
  | some x => eqE x b
  | none => false
theorem fin_b : hIx.all (fun q => eqO (fin3[pos q.1 q.2]?) (rCell q)) = true := by decide +kernel
theorem fin_at {q : Nat × Nat} (hq : q ∈ hIx) : fin3[pos q.1 q.2]? = some (rCell q) := by
  have h := List.all_eq_true.mp fin_b q hq
  cases e : fin3[pos q.1 q.2]? with
  | none => rw [e] at h; cases h
  | some x =>
    rw [e] at h
    rw [eqE_s (a := x) (b := rCell q) h]
/-- the addresses of the world that was made -/
def adOf (z : Nat) (a2 : Nat → Nat → Nat) : Nat → Nat → Nat := fun t n => if t < 61 then z + pos t n else a2 t n
theorem fk61 : ∀ t, t < 61 → ∀ k, k < (sFl t).length → (match sFk t k with | .inl _ => true | .inr q => decide (q.1 < 61)) = true := by decide +kernel
theorem ev_r {z : Nat} {a2 : Nat → Nat → Nat} {t n k : Nat} (ht : t < 61) (hk : k < (sFl t).length) : nev z (rV (fld m00 t n k)) = ev (adOf z a2) (fld m00 t n k) := by
  have h := fk61 t ht k hk
  unfold fld
  split
  · rename_i t2 c e
    rw [e] at h
    have h2 : t2 < 61 := of_decide_eq_true h
    show Value.ref (z + pos t2 (c.getD n)) = Value.ref (adOf z a2 t2 (c.getD n))
    unfold adOf
    rw [if_pos h2]
  · rfl
  · rfl
theorem m00_r : ∀ t, sCls t = none → m00.1 t = fun _ _ => 0 := by
  intro t ht
  funext n c
  have h0 : t ≠ 0 := fun e => by rw [e] at ht; cases ht
  have h4 : t ≠ 40 := fun e => by rw [e] at ht; cases ht
  show (if (t = 0 ∧ c = 17) ∨ (t = 40 ∧ c = 21) then (3 : Int32) else if t = 40 ∧ c = 22 then 1 else if t = 40 ∧ c = 23 then -1000000000 else 0) = 0
  rw [if_neg (by omega), if_neg (by omega), if_neg (by omega)]
theorem arrV_c {cA : ClassId} {N : Nat} {f g : Nat → Value} (h : ∀ j, j < N → f j = g j) : arrV cA N f = arrV cA N g := by
  unfold arrV
  congr 2
  funext j
  exact h j.1 j.2
theorem el61 : ∀ t, t = 35 ∨ t = 38 ∨ t = 39 → ∀ j, (sEl t j).1 < 61 := by
  intro t ht j
  unfold sEl
  rcases ht with e | e | e <;> subst e
  · rw [if_neg (show ¬ 35 = 39 by decide), if_pos rfl]; show 12 < 61; decide
  · rw [if_neg (show ¬ 38 = 39 by decide), if_neg (show ¬ 38 = 35 by decide)]; show 8 < 61; decide
  · rw [if_pos rfl]; show 12 < 61; decide
theorem arr_k : ∀ t, t < 61 → sCls t = none → (sArr t = 0 ∨ sArr t = 1 ∨ (sArr t = 2 ∧ (t = 35 ∨ t = 39)) ∨ (sArr t = 3 ∧ t = 38) ∨ sArr t = 4) := by decide +kernel
/-- the cells that were made are the world's -/
theorem at_r {D : va_G} {z : Nat} {ca : Nat → ClassId} {a2 : Nat → Nat → Nat} {H : Heap} {t n : Nat} (ht : t < 61) (h : va_at D vwCl (z + pos t n, nCell z ca (rCell (t, n))) H) : va_at D vwCl (adOf z a2 t n, hCell (adOf z a2) ca m00 (t, n)) H := by
  have ea : adOf z a2 t n = z + pos t n := if_pos ht
  rw [ea]
  cases hc : sCls t with
  | some ci =>
    rw [hCell_ob hc]
    have er : rCell (t, n) = .inr (.inr (ci, (List.range (sFl t).length).map (fun k => rV (fld m00 t n k)))) := by unfold rCell; rw [hc]
    rw [er] at h
    have e2 : nCell z ca (.inr (.inr (ci, (List.range (sFl t).length).map (fun k => rV (fld m00 t n k))))) = .inr (ci, hFs (adOf z a2) m00 t n) := by
      show Sum.inr (ci, ((List.range (sFl t).length).map (fun k => rV (fld m00 t n k))).map (nev z)) = _
      rw [List.map_map]
      unfold hFs
      congr 2
      apply List.map_congr_left
      intro k hk
      exact ev_r ht (List.mem_range.mp hk)
    rw [e2] at h
    exact h
  | none =>
    have e0 : m00.1 t n = fun _ => 0 := by rw [m00_r t hc]
    rcases arr_k t ht hc with k | k | ⟨k, k2⟩ | ⟨k, k2⟩ | k
    · have er : rCell (t, n) = .inl (0, sLen t n) := by unfold rCell; rw [hc, k]; rfl
      have eh : hCell (adOf z a2) ca m00 (t, n) = .inl (ca 0, sLen t n, .inl (m00.1 t n)) := by unfold hCell; rw [hc, k]; rfl
      rw [er] at h; rw [eh, e0]; exact h
    · have er : rCell (t, n) = .inl (1, sLen t n) := by unfold rCell; rw [hc, k]; rfl
      have eh : hCell (adOf z a2) ca m00 (t, n) = .inl (ca 1, sLen t n, .inl (m00.1 t n)) := by unfold hCell; rw [hc, k]; rfl
      rw [er] at h; rw [eh, e0]; exact h
    · have er : rCell (t, n) = .inr (.inl (2, (List.range (sLen t n)).map (fun j => some (pos (sEl t j).1 (sEl t j).2)))) := by unfold rCell; rw [hc, k]; rfl
      have eh : hCell (adOf z a2) ca m00 (t, n) = .inl (ca 2, sLen t n, .inr (.inr (.inr (.inr (fun j => some (adOf z a2 (sEl t j).1 (sEl t j).2)))))) := by unfold hCell; rw [hc, k]; rfl
      rw [er] at h; rw [eh]
      have h1 : H[z + pos t n]? = some (vp_cell (ca 2) (((List.range (sLen t n)).map (fun j => some (pos (sEl t j).1 (sEl t j).2))).length, .inr (.inr (.inr (.inr (fun j => (((List.range (sLen t n)).map (fun j => some (pos (sEl t j).1 (sEl t j).2))).getD j none).map (fun k => z + k))))))) := h
      show H[z + pos t n]? = some (vp_cell (ca 2) (sLen t n, .inr (.inr (.inr (.inr (fun j => some (adOf z a2 (sEl t j).1 (sEl t j).2)))))))
      rw [h1, vp_cell_q, vp_cell_q, List.length_map, List.length_range]
      congr 1
      refine arrV_c (fun j hj => ?_)
      rw [List.getD_eq_getElem?_getD, List.getElem?_map, List.getElem?_range hj]
      have e6 : adOf z a2 (sEl t j).1 (sEl t j).2 = z + pos (sEl t j).1 (sEl t j).2 := if_pos (el61 t (by omega) j)
      rw [e6]
      rfl
    · have er : rCell (t, n) = .inr (.inl (3, (List.range (sLen t n)).map (fun j => some (pos (sEl t j).1 (sEl t j).2)))) := by unfold rCell; rw [hc, k]; rfl
      have eh : hCell (adOf z a2) ca m00 (t, n) = .inl (ca 3, sLen t n, .inr (.inr (.inr (.inr (fun j => some (adOf z a2 (sEl t j).1 (sEl t j).2)))))) := by unfold hCell; rw [hc, k]; rfl
      rw [er] at h; rw [eh]
      have h1 : H[z + pos t n]? = some (vp_cell (ca 3) (((List.range (sLen t n)).map (fun j => some (pos (sEl t j).1 (sEl t j).2))).length, .inr (.inr (.inr (.inr (fun j => (((List.range (sLen t n)).map (fun j => some (pos (sEl t j).1 (sEl t j).2))).getD j none).map (fun k => z + k))))))) := h
      show H[z + pos t n]? = some (vp_cell (ca 3) (sLen t n, .inr (.inr (.inr (.inr (fun j => some (adOf z a2 (sEl t j).1 (sEl t j).2)))))))
      rw [h1, vp_cell_q, vp_cell_q, List.length_map, List.length_range]
      congr 1
      refine arrV_c (fun j hj => ?_)
      rw [List.getD_eq_getElem?_getD, List.getElem?_map, List.getElem?_range hj]
      have e6 : adOf z a2 (sEl t j).1 (sEl t j).2 = z + pos (sEl t j).1 (sEl t j).2 := if_pos (el61 t (by omega) j)
      rw [e6]
      rfl
    · have er : rCell (t, n) = .inl (4, sLen t n) := by unfold rCell; rw [hc, k]; rfl
      have eh : hCell (adOf z a2) ca m00 (t, n) = .inl (ca 4, sLen t n, .inr (.inl (m00.2 t n))) := by unfold hCell; rw [hc, k]; rfl
      rw [er] at h; rw [eh]; exact h
theorem emb_0 {D : va_G} {z : Nat} {ca : Nat → ClassId} {a2 : Nat → Nat → Nat} {H : Heap} (h : va_P D vwCl (nW z ca fin3) H) : va_P D vwCl (emb (adOf z a2) ca m00) H ∧ va_D (hA (adOf z a2)) (emb (adOf z a2) ca m00) := by
  have g : ∀ (k : Nat) (x : Nat × va_E), (emb (adOf z a2) ca m00)[k]? = some x → ∃ q : Nat × Nat, hIx[k]? = some q ∧ q ∈ hIx ∧ q.1 < 61 ∧ q.2 < sCnt q.1 ∧ x = (adOf z a2 q.1 q.2, hCell (adOf z a2) ca m00 q) := by
    intro k x hx
    rw [emb, List.getElem?_map] at hx
    obtain ⟨q, hq, rfl⟩ := Option.map_eq_some_iff.mp hx
    have hm := List.mem_of_getElem? hq
    have h2 := (hIx_mem (t := q.1) (n := q.2)).mp hm
    exact ⟨q, hq, hm, h2.1, h2.2, rfl⟩
  refine ⟨fun k x hx => ?_, fun i j a b ha hb e => ?_, fun k x hx => ?_⟩
  · obtain ⟨q, q0, q1, q2, q3, rfl⟩ := g k x hx
    exact at_r (t := q.1) (n := q.2) q2 (h (pos q.1 q.2) _ (nW_at (fin_at q1)))
  · obtain ⟨q, q0, q1, q2, q3, rfl⟩ := g i a ha
    obtain ⟨r, r0, r1, r2, r3, rfl⟩ := g j b hb
    have e1 : adOf z a2 q.1 q.2 = z + pos q.1 q.2 := if_pos q2
    have e2 : adOf z a2 r.1 r.2 = z + pos r.1 r.2 := if_pos r2
    have e3 : pos q.1 q.2 = pos r.1 r.2 := by
      have e' : adOf z a2 q.1 q.2 = adOf z a2 r.1 r.2 := e
      rw [e1, e2] at e'
      omega
    have m1 : (hIx.map (fun q => pos q.1 q.2))[i]? = some (pos q.1 q.2) := by rw [List.getElem?_map, q0]; rfl
    have m2 : (hIx.map (fun q => pos q.1 q.2))[j]? = some (pos q.1 q.2) := by rw [List.getElem?_map, r0, e3]; rfl
    have hi : i < (hIx.map (fun q => pos q.1 q.2)).length := (List.getElem?_eq_some_iff.mp m1).1
    exact (List.getElem?_inj hi pos_nd).mp (m1.trans m2.symm)
  · obtain ⟨q, q0, q1, q2, q3, rfl⟩ := g k x hx
    exact ⟨q.1, q.2, q2, q3, rfl⟩
theorem pos_lt : ∀ q ∈ hIx, pos q.1 q.2 < 445 := fun q hq => by
  have h := (List.getElem?_eq_some_iff.mp (fin_at hq)).1
  rw [fin_len.2.2] at h
  exact h
