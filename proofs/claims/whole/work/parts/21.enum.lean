/-! constant objects, their words, and the JDK's own methods over these -/
def Zl (own : String) (idx : Nat) (C n d : String) : Prop := Cond.fieldLink own idx C n d ∈ gdw ∨ (own, idx, C, n, d) ∈ nwF
def eal (N : Nat) (i : Int32) (k : Nat → hR) : hR := if inb i N = true then k i.toNatClampNeg else none
def blenN (t n : Nat) : Nat := if t = 106 then ck_len.getD n 0 else sk_len.getD n 0
def blen (t n : Nat) : Int32 := Int32.ofNat (blenN t n)
def bytN (t n : Nat) : List Int32 := if t = 106 then ck_byt.getD n [] else sk_byt.getD n []
def bald (t n : Nat) (i : Int32) (k : Int32 → hR) : hR := if inb i (blenN t n) = true then k ((bytN t n).getD i.toNatClampNeg 0) else none
section Rows
variable {mt : hMt} {d pc nx idx : Nat} {L : hL} {S : List hV} {m : hM} {R : hR}
theorem g_gsG {C n de : String} {v : hV} (hd : Dc mt pc (.getstatic idx) 3 nx) (hl : Zl mt.1.cls idx C n de) (hz : ∀ (ad : Nat → Nat → Nat) (s : State), hZ ad (hA ad) s s.heap → va_Z C n de (ev ad v) (hA ad) s s.heap) (hv : hVal v) (h : G mt d nx L (v :: S) m R) : G mt d pc L S m R := by
  intro r m2 hR l D ad ca p e s mi args below meth c H locs ls hC hS
  obtain ⟨hd, rfl⟩ := hd
  have hw := h r m2 hR l D ad ca p e s mi args below meth c H locs ls hC (hS.pu hv)
  rcases hl with hl | hl
  · exact va_gets hC.1.1 hC.1.2.1 (hz ad s hC.2.2.2.2) hS.2.2.1 hC.1.2.2.2.1 (hC.w hl) (fun _ z => z) hd hw
  · exact va_getsN hC.1.1 hC.1.2.1 (host := "HuntedEye") (hz ad s hC.2.2.2.2) hS.2.2.1 hC.1.2.2.2.1 (va_Nw.use rfl (hC.2.2.2.2.1.1 _ hl)) (fun _ z => z) hd hw
theorem g_gsC (hd : Dc mt pc (.getstatic idx) 3 nx) (hl : Zl mt.1.cls idx "HuntedEye$Clause" "ALL" "[LHuntedEye$Clause;") (h : G mt d nx L (.inr (.inr (100, 0)) :: S) m R) : G mt d pc L S m R := g_gsG (v := .inr (.inr (100, 0))) hd hl (fun _ _ z => z.2.1.1) (by decide : 0 < sCnt 100) h
theorem g_gsS (hd : Dc mt pc (.getstatic idx) 3 nx) (hl : Zl mt.1.cls idx "HuntedEye$Step" "ALL" "[LHuntedEye$Step;") (h : G mt d nx L (.inr (.inr (103, 0)) :: S) m R) : G mt d pc L S m R := g_gsG (v := .inr (.inr (103, 0))) hd hl (fun _ _ z => z.2.2.1.1) (by decide : 0 < sCnt 103) h
theorem g_gsK (hd : Dc mt pc (.getstatic idx) 3 nx) (hl : Zl mt.1.cls idx "java/lang/String" "COMPACT_STRINGS" "Z") (h : G mt d nx L (.inl 1 :: S) m R) : G mt d pc L S m R := g_gsG (v := .inl 1) hd hl (fun _ _ z => z.2.2.2.1) trivial h
theorem g_gz {o n de : String} {t i : Nat} {v : hV} (hd : Dc mt pc (.getfield idx) 3 nx) (hl : Zl mt.1.cls idx o n de) (hz : ∀ (ad : Nat → Nat → Nat) (s : State), hZ ad (hA ad) s s.heap → i < sCnt t → va_OF o n de (ev ad v) (ad t i) (hA ad) s s.heap) (hv : i < sCnt t → hVal v) (h : G mt d nx L (v :: S) m R) : G mt d pc L (.inr (.inr (t, i)) :: S) m R := by
  intro r m2 hR l D ad ca p e s mi args below meth c H locs ls hC hS
  obtain ⟨hd, rfl⟩ := hd
  have hi : i < sCnt t := hS.hd
  have hw := h r m2 hR l D ad ca p e s mi args below meth c H locs ls hC (hS.tl.pu (hv hi))
  obtain ⟨cf, k, fi, f, cell, h1, h2, h3, h4, h5, h6⟩ := (hz ad s hC.2.2.2.2 hi).kept hS.2.2.1.2.1
  rcases hl with hl | hl
  · exact W.getf hC.1.1 hC.1.2.1 hC.1.2.2.2.1 (hC.w hl) h1 h2 h3 h4 (v := ev ad v) h5 rfl rfl hd hw
  · exact va_Wgetf hC.1.1 hC.1.2.1 (host := "HuntedEye") hC.1.2.2.2.1 (va_Nw.use rfl (hC.2.2.2.2.1.1 _ hl)) h1 h2 h3 h4 (v := ev ad v) h5 rfl rfl hd hw
theorem g_giC {i : Nat} {nm : String} {l : List Int32} (hd : Dc mt pc (.getfield idx) 3 nx) (hl : Zl mt.1.cls idx "HuntedEye$Clause" nm "I") (hm : (nm, l) ∈ [("most", ck_most), ("low", ck_low), ("high", ck_high), ("usual", ck_usual)]) (h : G mt d nx L (.inl (l.getD i 0) :: S) m R) : G mt d pc L (.inr (.inr (101, i)) :: S) m R :=
  g_gz (v := .inl (l.getD i 0)) hd hl (fun _ _ z hi => z.2.1.2.2.1 _ hm i hi) (fun _ => trivial) h
theorem g_giS {i : Nat} {nm : String} {l : List Int32} (hd : Dc mt pc (.getfield idx) 3 nx) (hl : Zl mt.1.cls idx "HuntedEye$Step" nm "I") (hm : (nm, l) ∈ [("numbers", sk_numbers), ("low", sk_low), ("high", sk_high)]) (h : G mt d nx L (.inl (l.getD i 0) :: S) m R) : G mt d pc L (.inr (.inr (104, i)) :: S) m R :=
  g_gz (v := .inl (l.getD i 0)) hd hl (fun _ _ z hi => z.2.2.1.2.2.1 _ hm i hi) (fun _ => trivial) h
theorem g_gwC {i : Nat} (hd : Dc mt pc (.getfield idx) 3 nx) (hl : Zl mt.1.cls idx "HuntedEye$Clause" "word" "Ljava/lang/String;") (h : G mt d nx L (.inr (.inr (102, i)) :: S) m R) : G mt d pc L (.inr (.inr (101, i)) :: S) m R :=
  g_gz (v := .inr (.inr (102, i))) hd hl (fun _ _ z hi => z.2.1.2.2.2.1 i hi) (fun hi => hi) h
theorem g_gwS {i : Nat} (hd : Dc mt pc (.getfield idx) 3 nx) (hl : Zl mt.1.cls idx "HuntedEye$Step" "word" "Ljava/lang/String;") (h : G mt d nx L (.inr (.inr (105, i)) :: S) m R) : G mt d pc L (.inr (.inr (104, i)) :: S) m R :=
  g_gz (v := .inr (.inr (105, i))) hd hl (fun _ _ z hi => z.2.2.1.2.2.2.1 i hi) (fun hi => hi) h
theorem g_gcC {i : Nat} (hd : Dc mt pc (.getfield idx) 3 nx) (hl : Zl mt.1.cls idx "java/lang/String" "coder" "B") (h : G mt d nx L (.inl 0 :: S) m R) : G mt d pc L (.inr (.inr (102, i)) :: S) m R :=
  g_gz (v := .inl 0) hd hl (fun _ _ z hi => (z.2.1.2.2.2.2.2 i hi).2.1) (fun _ => trivial) h
theorem g_gcS {i : Nat} (hd : Dc mt pc (.getfield idx) 3 nx) (hl : Zl mt.1.cls idx "java/lang/String" "coder" "B") (h : G mt d nx L (.inl 0 :: S) m R) : G mt d pc L (.inr (.inr (105, i)) :: S) m R :=
  g_gz (v := .inl 0) hd hl (fun _ _ z hi => (z.2.2.1.2.2.2.2.2 i hi).2.1) (fun _ => trivial) h
theorem g_gvC {i : Nat} (hd : Dc mt pc (.getfield idx) 3 nx) (hl : Zl mt.1.cls idx "java/lang/String" "value" "[B") (h : G mt d nx L (.inr (.inr (106, i)) :: S) m R) : G mt d pc L (.inr (.inr (102, i)) :: S) m R :=
  g_gz (v := .inr (.inr (106, i))) hd hl (fun _ _ z hi => (z.2.1.2.2.2.2.2 i hi).2.2.1) (fun hi => hi) h
theorem g_gvS {i : Nat} (hd : Dc mt pc (.getfield idx) 3 nx) (hl : Zl mt.1.cls idx "java/lang/String" "value" "[B") (h : G mt d nx L (.inr (.inr (107, i)) :: S) m R) : G mt d pc L (.inr (.inr (105, i)) :: S) m R :=
  g_gz (v := .inr (.inr (107, i))) hd hl (fun _ _ z hi => (z.2.2.1.2.2.2.2.2 i hi).2.2.1) (fun hi => hi) h
theorem g_elen {t i N : Nat} {ty : FieldType} {f : (Nat → Nat → Nat) → Nat → Value} {v : Int32} (hz : ∀ (ad : Nat → Nat → Nat) (s : State), hZ ad (hA ad) s s.heap → i < sCnt t → va_T ty (ad t i) N (f ad) (hA ad) s s.heap) (hv : Int32.ofNat N = v) (hd : Dc mt pc .arraylength 1 nx) (h : G mt d nx L (.inl v :: S) m R) : G mt d pc L (.inr (.inr (t, i)) :: S) m R := by
  intro r m2 hR l D ad ca p e s mi args below meth c H locs ls hC hS
  obtain ⟨hd, rfl⟩ := hd
  exact va_tlen hC.1.1 hC.1.2.1 (hz ad s hC.2.2.2.2 hS.hd) hS.2.2.1 hv hd (h r m2 hR l D ad ca p e s mi args below meth c H locs ls hC (hS.tl.pi v))
theorem g_elenC (hd : Dc mt pc .arraylength 1 nx) (h : G mt d nx L (.inl 13 :: S) m R) : G mt d pc L (.inr (.inr (100, 0)) :: S) m R := g_elen (N := 13) (fun _ _ z _ => z.2.1.2.1) rfl hd h
theorem g_elenS (hd : Dc mt pc .arraylength 1 nx) (h : G mt d nx L (.inl 8 :: S) m R) : G mt d pc L (.inr (.inr (103, 0)) :: S) m R := g_elen (N := 8) (fun _ _ z _ => z.2.2.1.2.1) rfl hd h
theorem g_blenC {i : Nat} (hd : Dc mt pc .arraylength 1 nx) (h : G mt d nx L (.inl (blen 106 i) :: S) m R) : G mt d pc L (.inr (.inr (106, i)) :: S) m R := g_elen (N := ck_len.getD i 0) (fun _ _ z hi => (z.2.1.2.2.2.2.2 i hi).2.2.2) rfl hd h
theorem g_blenS {i : Nat} (hd : Dc mt pc .arraylength 1 nx) (h : G mt d nx L (.inl (blen 107 i) :: S) m R) : G mt d pc L (.inr (.inr (107, i)) :: S) m R := g_elen (N := sk_len.getD i 0) (fun _ _ z hi => (z.2.2.1.2.2.2.2.2 i hi).2.2.2) rfl hd h
theorem g_eald {t t2 N : Nat} {i : Int32} {E : String} {K : Nat → hR} (hz : ∀ (ad : Nat → Nat → Nat) (s : State), hZ ad (hA ad) s s.heap → va_T (.object E) (ad t 0) N (fun j => .ref (ad t2 j)) (hA ad) s s.heap) (hN : sCnt t2 = N) (hd : Dc mt pc .aaload 1 nx) (h : ∀ j, G mt d nx L (.inr (.inr (t2, j)) :: S) m (K j)) : G mt d pc L (.inl i :: .inr (.inr (t, 0)) :: S) m (eal N i K) := by
  intro r m2 hR l D ad ca p e s mi args below meth c H locs ls hC hS
  obtain ⟨hd, rfl⟩ := hd
  unfold eal at hR
  split at hR
  · rename_i hc
    exact vb_tq hC.1.1 hC.1.2.1 (hz ad s hC.2.2.2.2) hS.2.2.1 (inb_in hc) rfl hd (h _ r m2 hR l D ad ca p e s mi args below meth c H locs ls hC (hS.tl.tl.pu (by show i.toNatClampNeg < sCnt t2; rw [hN]; exact inb_lt hc)))
  · cases hR
theorem g_ealdC {i : Int32} {K : Nat → hR} (hd : Dc mt pc .aaload 1 nx) (h : ∀ j, G mt d nx L (.inr (.inr (101, j)) :: S) m (K j)) : G mt d pc L (.inl i :: .inr (.inr (100, 0)) :: S) m (eal 13 i K) := g_eald (fun _ _ z => z.2.1.2.1) rfl hd h
theorem g_ealdS {i : Int32} {K : Nat → hR} (hd : Dc mt pc .aaload 1 nx) (h : ∀ j, G mt d nx L (.inr (.inr (104, j)) :: S) m (K j)) : G mt d pc L (.inl i :: .inr (.inr (103, 0)) :: S) m (eal 8 i K) := g_eald (fun _ _ z => z.2.2.1.2.1) rfl hd h
theorem g_baldG {t n : Nat} {i : Int32} {K : Int32 → hR} (hz : ∀ (ad : Nat → Nat → Nat) (s : State), hZ ad (hA ad) s s.heap → n < sCnt t → va_T .byte (ad t n) (blenN t n) (fun j => .int ((bytN t n).getD j 0)) (hA ad) s s.heap) (hd : Dc mt pc .baload 1 nx) (h : ∀ x, G mt d nx L (.inl x :: S) m (K x)) : G mt d pc L (.inl i :: .inr (.inr (t, n)) :: S) m (bald t n i K) := by
  intro r m2 hR l D ad ca p e s mi args below meth c H locs ls hC hS
  obtain ⟨hd, rfl⟩ := hd
  unfold bald at hR
  split at hR
  · rename_i hc
    exact va_tb hC.1.1 hC.1.2.1 (hz ad s hC.2.2.2.2 hS.tl.hd) hS.2.2.1 (inb_in hc) rfl hd (h _ r m2 hR l D ad ca p e s mi args below meth c H locs ls hC (hS.tl.tl.pi _))
  · cases hR
theorem g_baldC {n : Nat} {i : Int32} {K : Int32 → hR} (hd : Dc mt pc .baload 1 nx) (h : ∀ x, G mt d nx L (.inl x :: S) m (K x)) : G mt d pc L (.inl i :: .inr (.inr (106, n)) :: S) m (bald 106 n i K) := g_baldG (fun _ _ z hi => (z.2.1.2.2.2.2.2 n hi).2.2.2) hd h
theorem g_baldS {n : Nat} {i : Int32} {K : Int32 → hR} (hd : Dc mt pc .baload 1 nx) (h : ∀ x, G mt d nx L (.inl x :: S) m (K x)) : G mt d pc L (.inl i :: .inr (.inr (107, n)) :: S) m (bald 107 n i K) := g_baldG (fun _ _ z hi => (z.2.2.1.2.2.2.2.2 n hi).2.2.2) hd h
theorem g_nret {x : Int32} {ty : FieldType} (hr : mt.2.2.2 = some ty) (hty : ty = .char ∨ ty = .byte) (hd : Dc mt pc .ireturn 1 nx) : G mt d pc L [.inl x] m (jretN ty x m) := by
  intro r m2 hR l D ad ca p e s mi args below meth c H locs ls hC hS
  unfold jretN at hR
  split at hR
  · rename_i hx
    cases hR
    have hn : narrow ty (.int x) = .int x := by
      rcases hty with rfl | rfl
      · have e9 : narrow .char (.int x) = .int (vp_nar .char x) := rfl
        rw [e9, hx]
      · have e9 : narrow .byte (.int x) = .int (vp_nar .byte x) := rfl
        rw [e9, hx]
    exact W.zret hC.1.1 hC.1.2.1 (hC.2.1.trans hr) hn (fun t ht hW => ⟨rfl, by rw [ht]; exact hS.1, hS.2.2.1.F ht⟩) hS.2.2.1.2.2 hd.1 hC.2.2.1
  · cases hR
end Rows
theorem rc_104 : Rc 104 "HuntedEye$Step" := by
  intro o D ad ca m s H locs ho hK hP hz hS
  obtain ⟨cell, h1, h2, h3, -⟩ := (hz.2.2.1.2.2.2.2.1 o ho).kept hS.2.1
  exact ⟨cell, h1, h2, h3⟩
theorem rc_102 : Rc 102 "java/lang/String" := by
  intro o D ad ca m s H locs ho hK hP hz hS
  obtain ⟨cell, h1, h2, h3, -⟩ := (hz.2.1.2.2.2.2.2 o ho).1.kept hS.2.1
  exact ⟨cell, h1, h2, h3⟩
theorem rc_105 : Rc 105 "java/lang/String" := by
  intro o D ad ca m s H locs ho hK hP hz hS
  obtain ⟨cell, h1, h2, h3, -⟩ := (hz.2.2.1.2.2.2.2.2 o ho).1.kept hS.2.1
  exact ⟨cell, h1, h2, h3⟩
