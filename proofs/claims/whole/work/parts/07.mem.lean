/-! fields, rows of numbers, calls -/
def lt {α : Type} (x : α) (k : α → hR) : hR := k x
def stI (m : hM) (t n k : Nat) (x : Int32) (c : hM → hR) : hR := c (uI m t n k x)
def stL (m : hM) (t n k : Nat) (x : Int64) (c : hM → hR) : hR := c (uL m t n k x)
def stZ (m : hM) (t n k : Nat) (x : Int32) (c : hM → hR) : hR := if x = 0 ∨ x = 1 then c (uI m t n k x) else none
def inb (i : Int32) (n : Nat) : Bool := !(decide (i < 0)) && decide (i.toNatClampNeg < n)
theorem inb_in {i : Int32} {n : Nat} (h : inb i n = true) : vp_in i n := by
  simp only [inb, Bool.and_eq_true, Bool.not_eq_true', decide_eq_false_iff_not, decide_eq_true_eq] at h
  intro hx
  rcases hx with hx | hx
  · exact h.1 hx
  · omega
theorem inb_lt {i : Int32} {n : Nat} (h : inb i n = true) : i.toNatClampNeg < n := by
  simp only [inb, Bool.and_eq_true, decide_eq_true_eq] at h
  exact h.2
def iaOK (t : Nat) : Bool := decide (t < 61) && ((sCls t).isNone && (sArr t == 0))
def zaOK (t : Nat) : Bool := decide (t < 61) && ((sCls t).isNone && (sArr t == 1))
def raOK (t : Nat) : Bool := t == 35 || (t == 38 || t == 39)
def ald (m : hM) (t n : Nat) (i : Int32) (k : Int32 → hR) : hR := if iaOK t = true ∧ inb i (sLen t n) = true then k (m.1 t n i.toNatClampNeg) else none
def ast (m : hM) (t n : Nat) (i x : Int32) (k : hM → hR) : hR := if iaOK t = true ∧ inb i (sLen t n) = true then k (uI m t n i.toNatClampNeg x) else none
def zald (m : hM) (t n : Nat) (i : Int32) (k : Int32 → hR) : hR := if zaOK t = true ∧ inb i (sLen t n) = true then k (m.1 t n i.toNatClampNeg) else none
def zast (m : hM) (t n : Nat) (i x : Int32) (k : hM → hR) : hR := if zaOK t = true ∧ inb i (sLen t n) = true ∧ (x = 0 ∨ x = 1) then k (uI m t n i.toNatClampNeg x) else none
def aal (t : Nat) (i : Int32) (k : Nat → hR) : hR := if raOK t = true ∧ inb i (sLen t 0) = true then k i.toNatClampNeg else none
/-- what a field's instruction rests on -/
def Fl (own : String) (idx t k : Nat) (ty : FieldType) (fin : Bool) : Prop := ∃ (ci : Nat) (C : String) (T : u_T) (N : Nat) (ty0 : Nat → FieldType),
  t < 61 ∧ sCls t = some ci ∧ vwCl[ci]? = some (C, T, N) ∧ (sFl t).length = N ∧ (∀ w ∈ u_ws C T N, w ∈ gdw) ∧ (∀ k, k < N → parseFieldDescriptor (T k).2.2.1 = some (ty0 k)) ∧ (∀ a, a < N → ∀ b, b < N → a ≠ b → (T a).2.1 ≠ (T b).2.1) ∧
  k < N ∧ ty0 k = ty ∧ (T k).2.2.2 = fin ∧ (T k).1 = C ∧ (Cond.fieldLink own idx C (T k).2.1 (T k).2.2.1 ∈ gdw ∨ (own, idx, C, (T k).2.1, (T k).2.2.1) ∈ nwF)
def fkOK (t : Nat) (q : Nat ⊕ (Nat × Option Nat)) : Bool := match q with
  | .inl _ => true
  | .inr (t2, none) => decide (sCnt t ≤ sCnt t2)
  | .inr (t2, some c) => decide (c < sCnt t2)
theorem fk_all : ∀ t, t < 61 → ∀ k, k < (sFl t).length → fkOK t (sFk t k) = true := by decide +kernel
theorem fld_val {m : hM} {t n k : Nat} (ht : t < 61) (hk : k < (sFl t).length) (hn : n < sCnt t) : hVal (fld m t n k) := by
  have h := fk_all t ht k hk
  unfold fld
  split
  · rename_i t2 c e
    rw [e] at h
    cases c with
    | none => exact Nat.lt_of_lt_of_le hn (of_decide_eq_true h)
    | some c => exact of_decide_eq_true (p := c < sCnt t2) h
  · exact trivial
  · exact trivial
theorem hCell_ob {ad : Nat → Nat → Nat} {ca : Nat → ClassId} {m : hM} {t n ci : Nat} (h : sCls t = some ci) : hCell ad ca m (t, n) = .inr (ci, hFs ad m t n) := by
  unfold hCell
  rw [h]
theorem hCell_ia {ad : Nat → Nat → Nat} {ca : Nat → ClassId} {m : hM} {t n : Nat} (h : iaOK t = true) : hCell ad ca m (t, n) = .inl (ca 0, sLen t n, .inl (m.1 t n)) := by
  simp only [iaOK, Bool.and_eq_true, Option.isNone_iff_eq_none, beq_iff_eq] at h
  unfold hCell
  rw [h.2.1, h.2.2]
  rfl
theorem hCell_za {ad : Nat → Nat → Nat} {ca : Nat → ClassId} {m : hM} {t n : Nat} (h : zaOK t = true) : hCell ad ca m (t, n) = .inl (ca 1, sLen t n, .inl (m.1 t n)) := by
  simp only [zaOK, Bool.and_eq_true, Option.isNone_iff_eq_none, beq_iff_eq] at h
  unfold hCell
  rw [h.2.1, h.2.2]
  rfl
theorem iaOK_lt {t : Nat} (h : iaOK t = true) : t < 61 := by
  simp only [iaOK, Bool.and_eq_true, decide_eq_true_eq] at h
  exact h.1
theorem zaOK_lt {t : Nat} (h : zaOK t = true) : t < 61 := by
  simp only [zaOK, Bool.and_eq_true, decide_eq_true_eq] at h
  exact h.1
theorem uI_row (m : hM) (t n k : Nat) (x : Int32) : (uI m t n k x).1 t n = upd (m.1 t n) k x := by
  funext c
  show (if t = t ∧ n = n ∧ c = k then x else m.1 t n c) = if c = k then x else m.1 t n c
  by_cases h : c = k
  · rw [if_pos ⟨rfl, rfl, h⟩, if_pos h]
  · rw [if_neg (fun e => h e.2.2), if_neg h]
theorem emb_row {ad : Nat → Nat → Nat} {ca : Nat → ClassId} {m : hM} {A : Nat → Prop} {D : va_G} {H1 : Heap} {t n k q : Nat} {x : Int32} {e : va_E} (hD : va_D A (emb ad ca m)) (hq : hIx[q]? = some (t, n)) (he : e = hCell ad ca (uI m t n k x) (t, n)) (h : va_P D vwCl ((emb ad ca m).set q (ad t n, e)) H1) : va_P D vwCl (emb ad ca (uI m t n k x)) H1 := by
  rw [he, emb_set ad ca m (uI m t n k x) hD hq (fun q2 h2 => hCell_uI q2 h2)] at h
  exact h
theorem nz_bool {x : Int32} (h : x = 0 ∨ x = 1) : narrow .boolean (.int x) = .int x := by rcases h with rfl | rfl <;> decide
theorem fz_bool {x : Int32} (h : x = 0 ∨ x = 1) : fits .boolean (.int x) = true := by rcases h with rfl | rfl <;> decide
section Rows
variable {mt : hMt} {d pc nx : Nat} {L L2 : hL} {S : List hV} {m : hM} {R : hR}
theorem g_lt {x : Int32} {k : Int32 → hR} (h : ∀ y, G mt d pc L (.inl y :: S) m (k y)) : G mt d pc L (.inl x :: S) m (lt x k) := h x
theorem g_ltl {x : Int64} {k : Int64 → hR} (h : ∀ y, G mt d pc L (.inr (.inl y) :: S) m (k y)) : G mt d pc L (.inr (.inl x) :: S) m (lt x k) := h x
theorem g_get {idx t n k : Nat} {ty : FieldType} {fin : Bool} {v : hV} (hd : Dc mt pc (.getfield idx) 3 nx) (hf : Fl mt.1.cls idx t k ty fin) (hv : fld m t n k = v) (h : G mt d nx L (v :: S) m R) : G mt d pc L (.inr (.inr (t, n)) :: S) m R := by
  intro r m2 hR l D ad ca p e s mi args below meth c H locs ls hC hS
  obtain ⟨hd, rfl⟩ := hd
  subst hv
  obtain ⟨ci, C, T, N, ty0, h1, h2, h3, h4, h5, h6, h7, h8, h9, h10, h11, h12⟩ := hf
  have hn : n < sCnt t := hS.hd
  obtain ⟨q, e1, e2⟩ := emb_at ad ca m h1 hn
  rw [hCell_ob h2] at e2
  have hk : k < (sFl t).length := by rw [h4]; exact h8
  have hw := h r m2 hR l D ad ca p e s mi args below meth c H locs ls hC (hS.tl.pu (fld_val h1 hk hn))
  rcases h12 with h12 | h12
  · exact va_get (ref := C) hC.1.1 hC.1.2.1 (Ts := gdw) (fun w hw => hC.w hw) h5 hC.1.2.2.2.1 hC.2.2.2.1 hS.1 q e2 h3 k h8 (hC.w h12) (by rw [h11]; exact fun _ z => z) (hFs_at hk) hd hw
  · exact va_getN (ref := C) (host := "HuntedEye") hC.1.1 hC.1.2.1 (Ts := gdw) (fun w hw => hC.w hw) h5 hC.1.2.2.2.1 hC.2.2.2.1 hS.1 q e2 h3 k h8 (va_Nw.use rfl (hC.2.2.2.2.1.1 _ h12)) (by rw [h11]; exact fun _ z => z) (hFs_at hk) hd hw
theorem g_put {idx t n k : Nat} {ty : FieldType} {v : hV} {m1 : hM} (hd : Dc mt pc (.putfield idx) 3 nx) (hf : Fl mt.1.cls idx t k ty false) (hn1 : ∀ ad, narrow ty (ev ad v) = ev ad v) (hfit : ∀ ad, fits ty (ev ad v) = true) (h1v : fld m1 t n k = v) (h1o : ∀ c, c ≠ k → fld m1 t n c = fld m t n c) (h1c : ∀ (ad : Nat → Nat → Nat) (ca : Nat → ClassId) (q2 : Nat × Nat), q2 ≠ (t, n) → hCell ad ca m1 q2 = hCell ad ca m q2) (h : G mt d nx L S m1 R) : G mt d pc L (v :: .inr (.inr (t, n)) :: S) m R := by
  intro r m2 hR l D ad ca p e s mi args below meth c H locs ls hC hS
  obtain ⟨hd, rfl⟩ := hd
  obtain ⟨ci, C, T, N, ty0, h1, h2, h3, h4, h5, h6, h7, h8, h9, h10, h11, h12⟩ := hf
  have hn : n < sCnt t := hS.tl.hd
  obtain ⟨q, e1, e2⟩ := emb_at ad ca m h1 hn
  rw [hCell_ob h2] at e2
  have hk : k < (hFs ad m t n).length := by rw [hFs, List.length_map, List.length_range, h4]; exact h8
  have hde : parseFieldDescriptor (T k).2.2.1 = some ty := by rw [← h9]; exact h6 k h8
  have fin : ∀ (H1 : Heap) (locs1 : List Loc), va_P D vwCl ((emb ad ca m).set q (ad t n, .inr (ci, (hFs ad m t n).set k (ev ad v)))) H1 → va_D (hA ad) ((emb ad ca m).set q (ad t n, .inr (ci, (hFs ad m t n).set k (ev ad v)))) → va_S (hA ad) s.heap H1 locs1 → W p l e (hRm d) s mi args below meth c H1 locs1 0 0 (MQ below (hQ D ad ca r m2) args s 0 0 (hA ad)) (F0 mi (pc + 3) ls (S.map (ev ad))) := by
    intro H1 locs1 hP1 _ hS1
    rw [hFs_set (m2 := m1) (by rw [h1v]) h1o, ← hCell_ob (ad := ad) (ca := ca) (m := m1) (n := n) h2, emb_set ad ca m m1 hS.2.1 e1 (h1c ad ca)] at hP1
    exact h r m2 hR l D ad ca p e s mi args below meth c H1 locs1 ls hC (hS.tl.tl.me hP1 hS1)
  rcases h12 with h12 | h12
  · exact va_put (ref := C) hC.1.1 hC.1.2.1 (Ts := gdw) (fun w hw => hC.w hw) h5 ty0 h6 h7 hC.1.2.2.2.1 hC.2.2.2.1 hS.1 hS.2.1 hS.2.2.1 q e2 h3 k h8 (hC.w h12) (by rw [h11]; exact fun _ z => z) h10 hde (hn1 ad) (hfit ad) hk hd fin
  · exact va_putN (ref := C) (host := "HuntedEye") hC.1.1 hC.1.2.1 (Ts := gdw) (fun w hw => hC.w hw) h5 ty0 h6 h7 hC.1.2.2.2.1 hC.2.2.2.1 hS.1 hS.2.1 hS.2.2.1 q e2 h3 k h8 (va_Nw.use rfl (hC.2.2.2.2.1.1 _ h12)) (by rw [h11]; exact fun _ z => z) h10 hde (hn1 ad) (hfit ad) hk hd fin
theorem fld_I {m : hM} {t n k z : Nat} (hk : sFk t k = .inl z) (hz : z ≠ 1) : fld m t n k = .inl (m.1 t n k) := by
  unfold fld
  rw [hk]
  split
  · rename_i e; cases e
  · rename_i e; cases e; exact absurd rfl hz
  · rfl
theorem fld_L {m : hM} {t n k : Nat} (hk : sFk t k = .inl 1) : fld m t n k = .inr (.inl (m.2 t n k)) := by
  unfold fld
  rw [hk]
  rfl
theorem uI_at (m : hM) (t n k : Nat) (x : Int32) : (uI m t n k x).1 t n k = x := if_pos ⟨rfl, rfl, rfl⟩
theorem uL_at (m : hM) (t n k : Nat) (x : Int64) : (uL m t n k x).2 t n k = x := if_pos ⟨rfl, rfl, rfl⟩
theorem g_putI {idx t n k : Nat} {x : Int32} {K : hM → hR} (hd : Dc mt pc (.putfield idx) 3 nx) (hf : Fl mt.1.cls idx t k .int false) (hk : sFk t k = .inl 0) (h : ∀ m1, G mt d nx L S m1 (K m1)) : G mt d pc L (.inl x :: .inr (.inr (t, n)) :: S) m (stI m t n k x K) :=
  g_put (m1 := uI m t n k x) hd hf (fun _ => rfl) (fun _ => rfl) (by rw [fld_I hk (by decide), uI_at]) (fun c hc => fld_uI _ _ _ (fun e => hc e.2.2)) (fun ad ca q2 h2 => hCell_uI q2 h2) (h _)
theorem g_putZ {idx t n k : Nat} {x : Int32} {K : hM → hR} (hd : Dc mt pc (.putfield idx) 3 nx) (hf : Fl mt.1.cls idx t k .boolean false) (hk : sFk t k = .inl 2) (h : ∀ m1, G mt d nx L S m1 (K m1)) : G mt d pc L (.inl x :: .inr (.inr (t, n)) :: S) m (stZ m t n k x K) := by
  unfold stZ
  split
  · rename_i hx
    exact g_put (m1 := uI m t n k x) hd hf (fun _ => nz_bool hx) (fun _ => fz_bool hx) (by rw [fld_I hk (by decide), uI_at]) (fun c hc => fld_uI _ _ _ (fun e => hc e.2.2)) (fun ad ca q2 h2 => hCell_uI q2 h2) (h _)
  · exact g_none
theorem g_putL {idx t n k : Nat} {x : Int64} {K : hM → hR} (hd : Dc mt pc (.putfield idx) 3 nx) (hf : Fl mt.1.cls idx t k .long false) (hk : sFk t k = .inl 1) (h : ∀ m1, G mt d nx L S m1 (K m1)) : G mt d pc L (.inr (.inl x) :: .inr (.inr (t, n)) :: S) m (stL m t n k x K) :=
  g_put (m1 := uL m t n k x) hd hf (fun _ => rfl) (fun _ => rfl) (by rw [fld_L hk, uL_at]) (fun c hc => fld_uL _ _ _ (fun e => hc e.2.2)) (fun ad ca q2 h2 => hCell_uL q2 h2) (h _)
theorem g_iald {t n : Nat} {i : Int32} {K : Int32 → hR} (hd : Dc mt pc .iaload 1 nx) (h : ∀ x, G mt d nx L (.inl x :: S) m (K x)) : G mt d pc L (.inl i :: .inr (.inr (t, n)) :: S) m (ald m t n i K) := by
  intro r m2 hR l D ad ca p e s mi args below meth c H locs ls hC hS
  obtain ⟨hd, rfl⟩ := hd
  unfold ald at hR
  split at hR
  · rename_i hc
    have hn : n < sCnt t := hS.tl.hd
    obtain ⟨q, e1, e2⟩ := emb_at ad ca m (iaOK_lt hc.1) hn
    rw [hCell_ia hc.1] at e2
    exact va_iald hC.1.1 hC.1.2.1 hC.2.2.2.1 hS.1 q 0 e2 rfl (inb_in hc.2) hd (h _ r m2 hR l D ad ca p e s mi args below meth c H locs ls hC (hS.tl.tl.pi _))
  · cases hR
theorem g_zald {t n : Nat} {i : Int32} {K : Int32 → hR} (hd : Dc mt pc .baload 1 nx) (h : ∀ x, G mt d nx L (.inl x :: S) m (K x)) : G mt d pc L (.inl i :: .inr (.inr (t, n)) :: S) m (zald m t n i K) := by
  intro r m2 hR l D ad ca p e s mi args below meth c H locs ls hC hS
  obtain ⟨hd, rfl⟩ := hd
  unfold zald at hR
  split at hR
  · rename_i hc
    have hn : n < sCnt t := hS.tl.hd
    obtain ⟨q, e1, e2⟩ := emb_at ad ca m (zaOK_lt hc.1) hn
    rw [hCell_za hc.1] at e2
    exact va_zald hC.1.1 hC.1.2.1 hC.2.2.2.1 hS.1 q 1 e2 rfl (inb_in hc.2) hd (h _ r m2 hR l D ad ca p e s mi args below meth c H locs ls hC (hS.tl.tl.pi _))
  · cases hR
theorem g_iast {t n : Nat} {i x : Int32} {K : hM → hR} (hd : Dc mt pc .iastore 1 nx) (h : ∀ m1, G mt d nx L S m1 (K m1)) : G mt d pc L (.inl x :: .inl i :: .inr (.inr (t, n)) :: S) m (ast m t n i x K) := by
  intro r m2 hR l D ad ca p e s mi args below meth c H locs ls hC hS
  obtain ⟨hd, rfl⟩ := hd
  unfold ast at hR
  split at hR
  · rename_i hc
    have hn : n < sCnt t := hS.tl.tl.hd
    obtain ⟨q, e1, e2⟩ := emb_at ad ca m (iaOK_lt hc.1) hn
    rw [hCell_ia hc.1] at e2
    exact va_iast hC.1.1 hC.1.2.1 hC.2.2.2.1 hS.1 hS.2.1 hS.2.2.1 q 0 e2 rfl (inb_in hc.2) hd (fun H1 locs1 hP1 _ hS1 => h _ r m2 hR l D ad ca p e s mi args below meth c H1 locs1 ls hC (hS.tl.tl.tl.me (emb_row hS.2.1 e1 (by rw [hCell_ia hc.1, uI_row]) hP1) hS1))
  · cases hR
theorem g_zast {t n : Nat} {i x : Int32} {K : hM → hR} (hd : Dc mt pc .bastore 1 nx) (h : ∀ m1, G mt d nx L S m1 (K m1)) : G mt d pc L (.inl x :: .inl i :: .inr (.inr (t, n)) :: S) m (zast m t n i x K) := by
  intro r m2 hR l D ad ca p e s mi args below meth c H locs ls hC hS
  obtain ⟨hd, rfl⟩ := hd
  unfold zast at hR
  split at hR
  · rename_i hc
    have hn : n < sCnt t := hS.tl.tl.hd
    obtain ⟨q, e1, e2⟩ := emb_at ad ca m (zaOK_lt hc.1) hn
    rw [hCell_za hc.1] at e2
    have hx : vp_nar .boolean x = x := by rcases hc.2.2 with rfl | rfl <;> decide
    exact va_zast hC.1.1 hC.1.2.1 hC.2.2.2.1 hS.1 hS.2.1 hS.2.2.1 q 1 e2 rfl (inb_in hc.2.1) hd (fun H1 locs1 hP1 _ hS1 => h _ r m2 hR l D ad ca p e s mi args below meth c H1 locs1 ls hC (hS.tl.tl.tl.me (emb_row hS.2.1 e1 (by rw [hCell_za hc.1, uI_row, hx]) hP1) hS1))
  · cases hR
theorem raOK_cases {t : Nat} (h : raOK t = true) : t = 35 ∨ t = 38 ∨ t = 39 := by
  simp only [raOK, Bool.or_eq_true, beq_iff_eq] at h
  exact h
theorem g_aald {t : Nat} {i : Int32} {K : Nat → hR} (f : Nat → Nat × Nat) (hf : ∀ j, sEl t j = f j) (hd : Dc mt pc .aaload 1 nx) (h : ∀ j, G mt d nx L (.inr (.inr (f j)) :: S) m (K j)) : G mt d pc L (.inl i :: .inr (.inr (t, 0)) :: S) m (aal t i K) := by
  intro r m2 hR l D ad ca p e s mi args below meth c H locs ls hC hS
  obtain ⟨hd, rfl⟩ := hd
  unfold aal at hR
  split at hR
  · rename_i hc
    have hl : i.toNatClampNeg < sLen t 0 := inb_lt hc.2
    have hv : hVal (.inr (.inr (f i.toNatClampNeg))) := by
      show (f i.toNatClampNeg).2 < sCnt (f i.toNatClampNeg).1
      rw [← hf]
      rcases raOK_cases hc.1 with rfl | rfl | rfl
      · have hl : i.toNatClampNeg < 4 := hl
        show 42 + i.toNatClampNeg < 46
        omega
      · have hl : i.toNatClampNeg < 4 := hl
        show i.toNatClampNeg < 5
        omega
      · have hl : i.toNatClampNeg < 40 := hl
        show i.toNatClampNeg < 46
        omega
    have hw := h _ r m2 hR l D ad ca p e s mi args below meth c H locs ls hC (hS.tl.tl.pu hv)
    have he : ev ad (.inr (.inr (f i.toNatClampNeg))) = va_rf (some (ad (sEl t i.toNatClampNeg).1 (sEl t i.toNatClampNeg).2)) := by rw [hf]; rfl
    rcases raOK_cases hc.1 with rfl | rfl | rfl
    · obtain ⟨q, e1, e2⟩ := emb_at ad ca m (t := 35) (n := 0) (by decide) (by decide)
      exact va_aldq hC.1.1 hC.1.2.1 hC.2.2.2.1 hS.1 q 2 (f := fun j => some (ad (sEl 35 j).1 (sEl 35 j).2)) e2 rfl (inb_in hc.2) hd (by rw [List.map_cons, he] at hw; exact hw)
    · obtain ⟨q, e1, e2⟩ := emb_at ad ca m (t := 38) (n := 0) (by decide) (by decide)
      exact va_aldq hC.1.1 hC.1.2.1 hC.2.2.2.1 hS.1 q 3 (f := fun j => some (ad (sEl 38 j).1 (sEl 38 j).2)) e2 rfl (inb_in hc.2) hd (by rw [List.map_cons, he] at hw; exact hw)
    · obtain ⟨q, e1, e2⟩ := emb_at ad ca m (t := 39) (n := 0) (by decide) (by decide)
      exact va_aldq hC.1.1 hC.1.2.1 hC.2.2.2.1 hS.1 q 2 (f := fun j => some (ad (sEl 39 j).1 (sEl 39 j).2)) e2 rfl (inb_in hc.2) hd (by rw [List.map_cons, he] at hw; exact hw)
  · cases hR
def alenJ (t n : Nat) (K : Int32 → hR) : hR := if iaOK t = true then K (Int32.ofNat (sLen t n)) else none
theorem g_alen {t n : Nat} {K : Int32 → hR} (hd : Dc mt pc .arraylength 1 nx) (h : ∀ v, G mt d nx L (.inl v :: S) m (K v)) : G mt d pc L (.inr (.inr (t, n)) :: S) m (alenJ t n K) := by
  intro r m2 hR l D ad ca p e s mi args below meth c H locs ls hC hS
  obtain ⟨hd, rfl⟩ := hd
  unfold alenJ at hR
  split at hR
  · rename_i hc
    have hn : n < sCnt t := hS.hd
    obtain ⟨q, e1, e2⟩ := emb_at ad ca m (iaOK_lt hc) hn
    rw [hCell_ia hc] at e2
    exact va_alen hC.1.1 hC.1.2.1 hC.2.2.2.1 hS.1 q 0 e2 (ty := .int) rfl rfl hd (h _ r m2 hR l D ad ca p e s mi args below meth c H locs ls hC (hS.tl.pi _))
  · cases hR
end Rows
