/-! the pure picture: values, memory, and how they lie in the heap -/
abbrev hV : Type := Int32 ⊕ (Int64 ⊕ (Nat × Nat))
abbrev hM : Type := (Nat → Nat → Nat → Int32) × (Nat → Nat → Nat → Int64)
abbrev hR : Type := Option (Option hV × hM)
abbrev hL : Type := List (Nat × hV)
def ev (ad : Nat → Nat → Nat) : hV → Value
  | .inl x => .int x
  | .inr (.inl y) => .long y
  | .inr (.inr q) => .ref (ad q.1 q.2)
def vcat : hV → Nat
  | .inr (.inl _) => 2
  | _ => 1
theorem ev_cat (ad : Nat → Nat → Nat) (v : hV) : (ev ad v).category = vcat v := by rcases v with x | y | q <;> rfl
theorem ev_cats (ad : Nat → Nat → Nat) (S : List hV) : ((S.map (ev ad)).map fun v => v.category) = S.map vcat := by
  rw [List.map_map]
  exact List.map_congr_left fun v _ => ev_cat ad v
def hVal (v : hV) : Prop := match v with
  | .inr (.inr q) => q.2 < sCnt q.1
  | _ => True
def uI (m : hM) (t n k : Nat) (x : Int32) : hM := (fun a b c => if a = t ∧ b = n ∧ c = k then x else m.1 a b c, m.2)
def uL (m : hM) (t n k : Nat) (x : Int64) : hM := (m.1, fun a b c => if a = t ∧ b = n ∧ c = k then x else m.2 a b c)
/-- a whole row is written -/
def uR (m : hM) (t n : Nat) (f : Nat → Int32) : hM := (fun a b c => if a = t ∧ b = n then f c else m.1 a b c, m.2)
def fld (m : hM) (t n k : Nat) : hV := match sFk t k with
  | .inr (t2, c) => .inr (.inr (t2, c.getD n))
  | .inl 1 => .inr (.inl (m.2 t n k))
  | .inl _ => .inl (m.1 t n k)
def hFs (ad : Nat → Nat → Nat) (m : hM) (t n : Nat) : List Value := (List.range (sFl t).length).map (fun k => ev ad (fld m t n k))
def hCell (ad : Nat → Nat → Nat) (ca : Nat → ClassId) (m : hM) (q : Nat × Nat) : va_E := match sCls q.1 with
  | some ci => .inr (ci, hFs ad m q.1 q.2)
  | none => match sArr q.1 with
    | 0 => .inl (ca 0, sLen q.1 q.2, .inl (m.1 q.1 q.2))
    | 1 => .inl (ca 1, sLen q.1 q.2, .inl (m.1 q.1 q.2))
    | 2 => .inl (ca 2, sLen q.1 q.2, .inr (.inr (.inr (.inr (fun j => some (ad (sEl q.1 j).1 (sEl q.1 j).2))))))
    | 3 => .inl (ca 3, sLen q.1 q.2, .inr (.inr (.inr (.inr (fun j => some (ad (sEl q.1 j).1 (sEl q.1 j).2))))))
    | _ => .inl (ca 4, sLen q.1 q.2, .inr (.inl (m.2 q.1 q.2)))
def hIx : List (Nat × Nat) := (List.range 61).flatMap fun t => (List.range (sCnt t)).map fun n => (t, n)
theorem hIx_mem {t n : Nat} : (t, n) ∈ hIx ↔ t < 61 ∧ n < sCnt t := by
  simp only [hIx, List.mem_flatMap, List.mem_range, List.mem_map, Prod.mk.injEq]
  constructor
  · rintro ⟨a, ha, b, hb, rfl, rfl⟩
    exact ⟨ha, hb⟩
  · rintro ⟨ha, hb⟩
    exact ⟨t, ha, n, hb, rfl, rfl⟩
def emb (ad : Nat → Nat → Nat) (ca : Nat → ClassId) (m : hM) : va_W := hIx.map fun q => (ad q.1 q.2, hCell ad ca m q)
def hTy (ca : Nat → ClassId) : List (ClassId × FieldType) := [(ca 0, .int), (ca 1, .boolean), (ca 2, .object "HuntedEye$State"), (ca 3, .object "HuntedEye$Script"), (ca 4, .long)]
/-- the addresses of the world's cells -/
def hA (ad : Nat → Nat → Nat) : Nat → Prop := fun q => ∃ t n : Nat, t < 61 ∧ n < sCnt t ∧ q = ad t n
theorem emb_at (ad : Nat → Nat → Nat) (ca : Nat → ClassId) (m : hM) {t n : Nat} (ht : t < 61) (hn : n < sCnt t) : ∃ k : Nat, hIx[k]? = some (t, n) ∧ (emb ad ca m)[k]? = some (ad t n, hCell ad ca m (t, n)) := by
  obtain ⟨k, hk⟩ := List.getElem?_of_mem (hIx_mem.mpr ⟨ht, hn⟩)
  exact ⟨k, hk, by rw [emb, List.getElem?_map, hk]; rfl⟩
theorem emb_addr (ad : Nat → Nat → Nat) (ca : Nat → ClassId) (m m2 : hM) {A : Nat → Prop} (h : va_D A (emb ad ca m)) : va_D A (emb ad ca m2) := by
  have e : ∀ (m' m'' : hM) (i : Nat) (q : Nat × va_E), (emb ad ca m')[i]? = some q → ∃ q2, (emb ad ca m'')[i]? = some q2 ∧ q2.1 = q.1 := by
    intro m' m'' i q hq
    rw [emb, List.getElem?_map] at hq
    obtain ⟨x, hx, rfl⟩ := Option.map_eq_some_iff.mp hq
    exact ⟨(ad x.1 x.2, hCell ad ca m'' x), by rw [emb, List.getElem?_map, hx]; rfl, rfl⟩
  refine ⟨fun i j p q hp hq hpq => ?_, fun k q hk => ?_⟩
  · obtain ⟨p2, h1, h2⟩ := e m2 m i p hp
    obtain ⟨q2, h3, h4⟩ := e m2 m j q hq
    exact h.1 i j p2 q2 h1 h3 (by rw [h2, h4]; exact hpq)
  · obtain ⟨q2, h3, h4⟩ := e m2 m k q hk
    rw [← h4]
    exact h.2 k q2 h3
/-- one cell is written: the list with that cell is the picture of the new memory -/
theorem emb_set (ad : Nat → Nat → Nat) (ca : Nat → ClassId) (m m2 : hM) {A : Nat → Prop} (hD : va_D A (emb ad ca m)) {k : Nat} {q : Nat × Nat} (hk : hIx[k]? = some q) (h : ∀ q2, q2 ≠ q → hCell ad ca m2 q2 = hCell ad ca m q2) : (emb ad ca m).set k (ad q.1 q.2, hCell ad ca m2 q) = emb ad ca m2 := by
  apply List.ext_getElem?
  intro i
  rw [List.getElem?_set]
  by_cases hi : k = i
  · subst hi
    have hl : k < (emb ad ca m).length := by rw [emb, List.length_map]; exact (List.getElem?_eq_some_iff.mp hk).1
    rw [if_pos rfl, if_pos hl, emb, List.getElem?_map, hk]
    rfl
  · rw [if_neg hi, emb, emb, List.getElem?_map, List.getElem?_map]
    cases hx : hIx[i]? with
    | none => rfl
    | some q2 =>
      have hne : q2 ≠ q := by
        intro e
        subst e
        exact hi (hD.1 k i (ad q2.1 q2.2, hCell ad ca m q2) (ad q2.1 q2.2, hCell ad ca m q2) (by rw [emb, List.getElem?_map, hk]; rfl) (by rw [emb, List.getElem?_map, hx]; rfl) rfl)
      show some (ad q2.1 q2.2, hCell ad ca m q2) = some (ad q2.1 q2.2, hCell ad ca m2 q2)
      rw [h q2 hne]
theorem fld_uI {m : hM} {t n k : Nat} {x : Int32} (a b c : Nat) (h : ¬ (a = t ∧ b = n ∧ c = k)) : fld (uI m t n k x) a b c = fld m a b c := by
  unfold fld
  split
  · rfl
  · rfl
  · show Sum.inl (if a = t ∧ b = n ∧ c = k then x else m.1 a b c) = _
    rw [if_neg h]
theorem fld_uL {m : hM} {t n k : Nat} {x : Int64} (a b c : Nat) (h : ¬ (a = t ∧ b = n ∧ c = k)) : fld (uL m t n k x) a b c = fld m a b c := by
  unfold fld
  split
  · rfl
  · show Sum.inr (Sum.inl (if a = t ∧ b = n ∧ c = k then x else m.2 a b c)) = _
    rw [if_neg h]
  · rfl
theorem hCell_ne {ad : Nat → Nat → Nat} {ca : Nat → ClassId} {m m2 : hM} {q : Nat × Nat} (hf : ∀ k, fld m2 q.1 q.2 k = fld m q.1 q.2 k) (h1 : m2.1 q.1 q.2 = m.1 q.1 q.2) (h2 : m2.2 q.1 q.2 = m.2 q.1 q.2) : hCell ad ca m2 q = hCell ad ca m q := by
  unfold hCell hFs
  simp only [hf, h1, h2]
theorem hCell_uI {ad : Nat → Nat → Nat} {ca : Nat → ClassId} {m : hM} {t n k : Nat} {x : Int32} (q : Nat × Nat) (h : q ≠ (t, n)) : hCell ad ca (uI m t n k x) q = hCell ad ca m q := by
  have hne : ¬ (q.1 = t ∧ q.2 = n) := fun e => h (by rw [← e.1, ← e.2])
  refine hCell_ne (fun c => fld_uI _ _ _ (fun e => hne ⟨e.1, e.2.1⟩)) ?_ rfl
  funext c
  exact if_neg (fun e => hne ⟨e.1, e.2.1⟩)
theorem hCell_uL {ad : Nat → Nat → Nat} {ca : Nat → ClassId} {m : hM} {t n k : Nat} {x : Int64} (q : Nat × Nat) (h : q ≠ (t, n)) : hCell ad ca (uL m t n k x) q = hCell ad ca m q := by
  have hne : ¬ (q.1 = t ∧ q.2 = n) := fun e => h (by rw [← e.1, ← e.2])
  refine hCell_ne (fun c => fld_uL _ _ _ (fun e => hne ⟨e.1, e.2.1⟩)) rfl ?_
  funext c
  exact if_neg (fun e => hne ⟨e.1, e.2.1⟩)
theorem hCell_uR {ad : Nat → Nat → Nat} {ca : Nat → ClassId} {m : hM} {t n : Nat} {f : Nat → Int32} (q : Nat × Nat) (h : q ≠ (t, n)) : hCell ad ca (uR m t n f) q = hCell ad ca m q := by
  have hne : ¬ (q.1 = t ∧ q.2 = n) := fun e => h (by rw [← e.1, ← e.2])
  refine hCell_ne (fun c => ?_) ?_ rfl
  · unfold fld
    split
    · rfl
    · rfl
    · show Sum.inl (if q.1 = t ∧ q.2 = n then f c else m.1 q.1 q.2 c) = _
      rw [if_neg hne]
  · funext c
    exact if_neg hne
theorem hFs_at {ad : Nat → Nat → Nat} {m : hM} {t n k : Nat} (hk : k < (sFl t).length) : (hFs ad m t n)[k]? = some (ev ad (fld m t n k)) := by
  rw [hFs, List.getElem?_map, List.getElem?_range hk]
  rfl
theorem hFs_set {ad : Nat → Nat → Nat} {m m2 : hM} {t n k : Nat} {v : Value} (hv : ev ad (fld m2 t n k) = v) (h : ∀ c, c ≠ k → fld m2 t n c = fld m t n c) : (hFs ad m t n).set k v = hFs ad m2 t n := by
  apply List.ext_getElem?
  intro i
  rw [List.getElem?_set]
  by_cases hi : k = i
  · subst hi
    rw [if_pos rfl]
    by_cases hk : k < (sFl t).length
    · rw [hFs_at hk, if_pos (by simp [hFs]; exact hk), hv]
    · rw [if_neg (by simp [hFs]; omega), hFs, List.getElem?_map, List.getElem?_eq_none (by simp; omega)]
      rfl
  · rw [if_neg hi, hFs, hFs, List.getElem?_map, List.getElem?_map]
    cases hx : (List.range (sFl t).length)[i]? with
    | none => rfl
    | some j =>
      have hj : j = i := by
        have h1 : i < (List.range (sFl t).length).length := (List.getElem?_eq_some_iff.mp hx).1
        rw [List.getElem?_range (by simpa using h1)] at hx
        exact (Option.some.inj hx).symm
      subst hj
      show some (ev ad (fld m t n j)) = some (ev ad (fld m2 t n j))
      rw [h j (fun e => hi e.symm)]
