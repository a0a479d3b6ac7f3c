/-! one law an instruction -/
def Dc (mt : hMt) (pc : Nat) (i : Instr) (len nx : Nat) : Prop := decode mt.2.1 pc = .ok (i, len) ∧ pc + len = nx
abbrev hTb : Type := List (Nat × Instr × Nat × Nat)
def TbOK (mt : hMt) (tb : hTb) : Prop := ∀ q ∈ tb, decode mt.2.1 q.1 = .ok (q.2.1, q.2.2.1) ∧ q.1 + q.2.2.1 = q.2.2.2
theorem dc_of {mt : hMt} {tb : hTb} (h : TbOK mt tb) (k : Nat) {pc : Nat} {i : Instr} {len nx : Nat} (hk : tb[k]? = some (pc, i, len, nx)) : Dc mt pc i len nx := h (pc, i, len, nx) (List.mem_of_getElem? hk)
section
variable {mt : hMt} {D : va_G} {ad : Nat → Nat → Nat} {ca : Nat → ClassId} {s : State} {m : hM} {L : hL} {S : List hV} {H : Heap} {locs : List Loc} {ls : Array Slot} {v : hV}
theorem HS.tl (h : HS mt D ad ca s m L (v :: S) H locs ls) : HS mt D ad ca s m L S H locs ls := ⟨h.1, h.2.1, h.2.2.1, h.2.2.2.1, h.2.2.2.2.1, fun w hw => h.2.2.2.2.2 w (List.mem_cons_of_mem _ hw)⟩
theorem HS.hd (h : HS mt D ad ca s m L (v :: S) H locs ls) : hVal v := h.2.2.2.2.2 v List.mem_cons_self
theorem HS.pu (h : HS mt D ad ca s m L S H locs ls) (hv : hVal v) : HS mt D ad ca s m L (v :: S) H locs ls := ⟨h.1, h.2.1, h.2.2.1, h.2.2.2.1, h.2.2.2.2.1, fun w hw => by
  rcases List.mem_cons.mp hw with rfl | hw
  · exact hv
  · exact h.2.2.2.2.2 w hw⟩
theorem HS.pi (h : HS mt D ad ca s m L S H locs ls) (x : Int32) : HS mt D ad ca s m L (.inl x :: S) H locs ls := h.pu trivial
theorem HS.pl (h : HS mt D ad ca s m L S H locs ls) (x : Int64) : HS mt D ad ca s m L (.inr (.inl x) :: S) H locs ls := h.pu trivial
theorem HS.at (h : HS mt D ad ca s m L S H locs ls) {k i : Nat} (hk : L[k]? = some (i, v)) : ls[i]? = some (.val (ev ad v)) ∧ hVal v :=
  ⟨lv_at h.2.2.2.1 k (by rw [hLs, List.getElem?_map, hk]; rfl), h.2.2.2.2.1 (i, v) (List.mem_of_getElem? hk)⟩
/-- new locals -/
theorem HS.lo {L2 : hL} {ls2 : Array Slot} (h : HS mt D ad ca s m L S H locs ls) (h1 : lv_has ls2 mt.2.2.1 (hLs ad L2)) (h2 : ∀ q ∈ L2, hVal q.2) : HS mt D ad ca s m L2 S H locs ls2 := ⟨h.1, h.2.1, h.2.2.1, h1, h2, h.2.2.2.2.2⟩
/-- a new memory -/
theorem HS.me {m2 : hM} {H2 : Heap} {locs2 : List Loc} (h : HS mt D ad ca s m L S H locs ls) (h1 : va_P D vwCl (emb ad ca m2) H2) (h2 : va_S (hA ad) s.heap H2 locs2) : HS mt D ad ca s m2 L S H2 locs2 ls := ⟨h1, emb_addr ad ca m m2 h.2.1, h2, h.2.2.2⟩
end
theorem HC.w {mt : hMt} {D : va_G} {ad : Nat → Nat → Nat} {ca : Nat → ClassId} {p : Program} {s : State} {mi : MethodId} {args : Array Value} {meth : Method} {c : Code} (h : HC mt D ad ca p s mi args meth c) {w : Cond} (hw : w ∈ gdw) : w.before args s = true := h.1.2.2.2.2 w (List.mem_cons_of_mem _ hw)
def hPick (L : hL) (ks : List Nat) : hL := ks.filterMap fun k => L[k]?
def hSt1 (L : hL) (i : Nat) (v : hV) : hL := (i, v) :: L.filter (fun q => !(q.1 == i) && !(q.1 + 1 == i && vcat q.2 == 2))
def hSt2 (L : hL) (i : Nat) (v : hV) : hL := (i, v) :: L.filter (fun q => !(q.1 == i) && (!(q.1 == i + 1) && !(q.1 + 1 == i && vcat q.2 == 2)))
theorem hSt1_ev (ad : Nat → Nat → Nat) (L : hL) (i : Nat) (v : hV) : (i, ev ad v) :: (hLs ad L).filter (fun q => !(q.1 == i) && !(q.1 + 1 == i && q.2.category == 2)) = hLs ad (hSt1 L i v) := by
  show _ = (i, ev ad v) :: (L.filter _).map _
  rw [hLs, List.filter_map]
  congr 3
  funext q
  simp only [Function.comp, ev_cat]
theorem hSt2_ev (ad : Nat → Nat → Nat) (L : hL) (i : Nat) (v : hV) : (i, ev ad v) :: (hLs ad L).filter (fun q => !(q.1 == i) && (!(q.1 == i + 1) && !(q.1 + 1 == i && q.2.category == 2))) = hLs ad (hSt2 L i v) := by
  show _ = (i, ev ad v) :: (L.filter _).map _
  rw [hLs, List.filter_map]
  congr 3
  funext q
  simp only [Function.comp, ev_cat]
theorem hSt1_val {L : hL} {i : Nat} {v : hV} (h : ∀ q ∈ L, hVal q.2) (hv : hVal v) : ∀ q ∈ hSt1 L i v, hVal q.2 := by
  intro q hq
  rcases List.mem_cons.mp hq with rfl | hq
  · exact hv
  · exact h q (List.mem_filter.mp hq).1
theorem hSt2_val {L : hL} {i : Nat} {v : hV} (h : ∀ q ∈ L, hVal q.2) (hv : hVal v) : ∀ q ∈ hSt2 L i v, hVal q.2 := by
  intro q hq
  rcases List.mem_cons.mp hq with rfl | hq
  · exact hv
  · exact h q (List.mem_filter.mp hq).1
section Rows
variable {mt : hMt} {d pc nx : Nat} {L L2 : hL} {S : List hV} {m : hM} {R : hR}
theorem g_none : G mt d pc L S m none := fun r m2 h => by cases h
theorem g_fgt (ks : List Nat) (hL : hPick L ks = L2) (h : G mt d pc L2 S m R) : G mt d pc L S m R := by
  intro r m2 hR l D ad ca p e s mi args below meth c H locs ls hC hS
  refine h r m2 hR l D ad ca p e s mi args below meth c H locs ls hC (hS.lo (lv_sub hS.2.2.2.1 ks ?_) ?_)
  · rw [← hL, lv_pick, hPick, hLs, hLs, List.map_filterMap]
    congr 1
    funext k
    rw [List.getElem?_map]
  · intro q hq
    rw [← hL, hPick] at hq
    obtain ⟨k, -, hk⟩ := List.mem_filterMap.mp hq
    exact hS.2.2.2.2.1 q (List.mem_of_getElem? hk)
theorem g_iadd {x y : Int32} (hd : Dc mt pc .iadd 1 nx) (h : G mt d nx L (.inl (x + y) :: S) m R) : G mt d pc L (.inl y :: .inl x :: S) m R := by
  intro r m2 hR l D ad ca p e s mi args below meth c H locs ls hC hS
  obtain ⟨hd, rfl⟩ := hd
  exact lv_iadd hC.1.1 hC.1.2.1 hd (h r m2 hR l D ad ca p e s mi args below meth c H locs ls hC (hS.tl.tl.pi _))
theorem g_isub {x y : Int32} (hd : Dc mt pc .isub 1 nx) (h : G mt d nx L (.inl (x - y) :: S) m R) : G mt d pc L (.inl y :: .inl x :: S) m R := by
  intro r m2 hR l D ad ca p e s mi args below meth c H locs ls hC hS
  obtain ⟨hd, rfl⟩ := hd
  exact lv_isub hC.1.1 hC.1.2.1 hd (h r m2 hR l D ad ca p e s mi args below meth c H locs ls hC (hS.tl.tl.pi _))
theorem g_imul {x y : Int32} (hd : Dc mt pc .imul 1 nx) (h : G mt d nx L (.inl (x * y) :: S) m R) : G mt d pc L (.inl y :: .inl x :: S) m R := by
  intro r m2 hR l D ad ca p e s mi args below meth c H locs ls hC hS
  obtain ⟨hd, rfl⟩ := hd
  exact lv_imul hC.1.1 hC.1.2.1 hd (h r m2 hR l D ad ca p e s mi args below meth c H locs ls hC (hS.tl.tl.pi _))
theorem g_ishl {x y : Int32} (hd : Dc mt pc .ishl 1 nx) (h : G mt d nx L (.inl (x <<< (y &&& 31)) :: S) m R) : G mt d pc L (.inl y :: .inl x :: S) m R := by
  intro r m2 hR l D ad ca p e s mi args below meth c H locs ls hC hS
  obtain ⟨hd, rfl⟩ := hd
  exact lv_ishl hC.1.1 hC.1.2.1 hd (h r m2 hR l D ad ca p e s mi args below meth c H locs ls hC (hS.tl.tl.pi _))
theorem g_ishr {x y : Int32} (hd : Dc mt pc .ishr 1 nx) (h : G mt d nx L (.inl (x >>> (y &&& 31)) :: S) m R) : G mt d pc L (.inl y :: .inl x :: S) m R := by
  intro r m2 hR l D ad ca p e s mi args below meth c H locs ls hC hS
  obtain ⟨hd, rfl⟩ := hd
  exact lv_ishr hC.1.1 hC.1.2.1 hd (h r m2 hR l D ad ca p e s mi args below meth c H locs ls hC (hS.tl.tl.pi _))
theorem g_iand {x y : Int32} (hd : Dc mt pc .iand 1 nx) (h : G mt d nx L (.inl (x &&& y) :: S) m R) : G mt d pc L (.inl y :: .inl x :: S) m R := by
  intro r m2 hR l D ad ca p e s mi args below meth c H locs ls hC hS
  obtain ⟨hd, rfl⟩ := hd
  exact lv_iand hC.1.1 hC.1.2.1 hd (h r m2 hR l D ad ca p e s mi args below meth c H locs ls hC (hS.tl.tl.pi _))
theorem g_ior {x y : Int32} (hd : Dc mt pc .ior 1 nx) (h : G mt d nx L (.inl (x ||| y) :: S) m R) : G mt d pc L (.inl y :: .inl x :: S) m R := by
  intro r m2 hR l D ad ca p e s mi args below meth c H locs ls hC hS
  obtain ⟨hd, rfl⟩ := hd
  exact lv_ior hC.1.1 hC.1.2.1 hd (h r m2 hR l D ad ca p e s mi args below meth c H locs ls hC (hS.tl.tl.pi _))
theorem g_ixor {x y : Int32} (hd : Dc mt pc .ixor 1 nx) (h : G mt d nx L (.inl (x ^^^ y) :: S) m R) : G mt d pc L (.inl y :: .inl x :: S) m R := by
  intro r m2 hR l D ad ca p e s mi args below meth c H locs ls hC hS
  obtain ⟨hd, rfl⟩ := hd
  exact lv_ixor hC.1.1 hC.1.2.1 hd (h r m2 hR l D ad ca p e s mi args below meth c H locs ls hC (hS.tl.tl.pi _))
def jushr (x y : Int32) : Int32 := (x.toUInt32 >>> (y.toUInt32 &&& Int32.toUInt32 31)).toInt32
theorem g_iushr {x y : Int32} (hd : Dc mt pc .iushr 1 nx) (h : G mt d nx L (.inl (jushr x y) :: S) m R) : G mt d pc L (.inl y :: .inl x :: S) m R := by
  intro r m2 hR l D ad ca p e s mi args below meth c H locs ls hC hS
  obtain ⟨hd, rfl⟩ := hd
  exact lv_iushr hC.1.1 hC.1.2.1 hd rfl (h r m2 hR l D ad ca p e s mi args below meth c H locs ls hC (hS.tl.tl.pi _))
theorem g_ineg {x : Int32} (hd : Dc mt pc .ineg 1 nx) (h : G mt d nx L (.inl (-x) :: S) m R) : G mt d pc L (.inl x :: S) m R := by
  intro r m2 hR l D ad ca p e s mi args below meth c H locs ls hC hS
  obtain ⟨hd, rfl⟩ := hd
  exact lv_ineg hC.1.1 hC.1.2.1 hd (h r m2 hR l D ad ca p e s mi args below meth c H locs ls hC (hS.tl.pi _))
def jidiv (x y : Int32) (k : Int32 → hR) : hR := if y = 0 then none else k (x / y)
theorem g_idiv {x y : Int32} {k : Int32 → hR} (hd : Dc mt pc .idiv 1 nx) (h : G mt d nx L (.inl (x / y) :: S) m (k (x / y))) : G mt d pc L (.inl y :: .inl x :: S) m (jidiv x y k) := by
  intro r m2 hR l D ad ca p e s mi args below meth c H locs ls hC hS
  obtain ⟨hd, rfl⟩ := hd
  unfold jidiv at hR
  split at hR
  · cases hR
  · rename_i hne
    exact lv_idiv hC.1.1 hC.1.2.1 hd hne (h r m2 hR l D ad ca p e s mi args below meth c H locs ls hC (hS.tl.tl.pi _))
def jirem (x y : Int32) (k : Int32 → hR) : hR := if y = 0 then none else k (x - x / y * y)
theorem g_irem {x y : Int32} {k : Int32 → hR} (hd : Dc mt pc .irem 1 nx) (h : G mt d nx L (.inl (x - x / y * y) :: S) m (k (x - x / y * y))) : G mt d pc L (.inl y :: .inl x :: S) m (jirem x y k) := by
  intro r m2 hR l D ad ca p e s mi args below meth c H locs ls hC hS
  obtain ⟨hd, rfl⟩ := hd
  unfold jirem at hR
  split at hR
  · cases hR
  · rename_i hne
    exact lv_irem hC.1.1 hC.1.2.1 hd hne (h r m2 hR l D ad ca p e s mi args below meth c H locs ls hC (hS.tl.tl.pi _))
theorem g_ladd {x y : Int64} (hd : Dc mt pc .ladd 1 nx) (h : G mt d nx L (.inr (.inl (x + y)) :: S) m R) : G mt d pc L (.inr (.inl y) :: .inr (.inl x) :: S) m R := by
  intro r m2 hR l D ad ca p e s mi args below meth c H locs ls hC hS
  obtain ⟨hd, rfl⟩ := hd
  exact lv_ladd hC.1.1 hC.1.2.1 hd (h r m2 hR l D ad ca p e s mi args below meth c H locs ls hC (hS.tl.tl.pl _))
theorem g_lsub {x y : Int64} (hd : Dc mt pc .lsub 1 nx) (h : G mt d nx L (.inr (.inl (x - y)) :: S) m R) : G mt d pc L (.inr (.inl y) :: .inr (.inl x) :: S) m R := by
  intro r m2 hR l D ad ca p e s mi args below meth c H locs ls hC hS
  obtain ⟨hd, rfl⟩ := hd
  exact lv_lsub hC.1.1 hC.1.2.1 hd (h r m2 hR l D ad ca p e s mi args below meth c H locs ls hC (hS.tl.tl.pl _))
theorem g_lmul {x y : Int64} (hd : Dc mt pc .lmul 1 nx) (h : G mt d nx L (.inr (.inl (x * y)) :: S) m R) : G mt d pc L (.inr (.inl y) :: .inr (.inl x) :: S) m R := by
  intro r m2 hR l D ad ca p e s mi args below meth c H locs ls hC hS
  obtain ⟨hd, rfl⟩ := hd
  exact lv_lmul hC.1.1 hC.1.2.1 hd (h r m2 hR l D ad ca p e s mi args below meth c H locs ls hC (hS.tl.tl.pl _))
theorem g_land {x y : Int64} (hd : Dc mt pc .land 1 nx) (h : G mt d nx L (.inr (.inl (x &&& y)) :: S) m R) : G mt d pc L (.inr (.inl y) :: .inr (.inl x) :: S) m R := by
  intro r m2 hR l D ad ca p e s mi args below meth c H locs ls hC hS
  obtain ⟨hd, rfl⟩ := hd
  exact lv_land hC.1.1 hC.1.2.1 hd (h r m2 hR l D ad ca p e s mi args below meth c H locs ls hC (hS.tl.tl.pl _))
theorem g_lor {x y : Int64} (hd : Dc mt pc .lor 1 nx) (h : G mt d nx L (.inr (.inl (x ||| y)) :: S) m R) : G mt d pc L (.inr (.inl y) :: .inr (.inl x) :: S) m R := by
  intro r m2 hR l D ad ca p e s mi args below meth c H locs ls hC hS
  obtain ⟨hd, rfl⟩ := hd
  exact lv_lor hC.1.1 hC.1.2.1 hd (h r m2 hR l D ad ca p e s mi args below meth c H locs ls hC (hS.tl.tl.pl _))
def jlushr (x : Int64) (y : Int32) : Int64 := (x.toUInt64 >>> (y.toInt64.toUInt64 &&& Int64.toUInt64 63)).toInt64
theorem g_lshl {x : Int64} {y : Int32} (hd : Dc mt pc .lshl 1 nx) (h : G mt d nx L (.inr (.inl (x <<< (y.toInt64 &&& 63))) :: S) m R) : G mt d pc L (.inl y :: .inr (.inl x) :: S) m R := by
  intro r m2 hR l D ad ca p e s mi args below meth c H locs ls hC hS
  obtain ⟨hd, rfl⟩ := hd
  exact lv_lshl hC.1.1 hC.1.2.1 hd rfl (h r m2 hR l D ad ca p e s mi args below meth c H locs ls hC (hS.tl.tl.pl _))
theorem g_lshr {x : Int64} {y : Int32} (hd : Dc mt pc .lshr 1 nx) (h : G mt d nx L (.inr (.inl (x >>> (y.toInt64 &&& 63))) :: S) m R) : G mt d pc L (.inl y :: .inr (.inl x) :: S) m R := by
  intro r m2 hR l D ad ca p e s mi args below meth c H locs ls hC hS
  obtain ⟨hd, rfl⟩ := hd
  exact lv_lshr hC.1.1 hC.1.2.1 hd rfl (h r m2 hR l D ad ca p e s mi args below meth c H locs ls hC (hS.tl.tl.pl _))
theorem g_lushr {x : Int64} {y : Int32} (hd : Dc mt pc .lushr 1 nx) (h : G mt d nx L (.inr (.inl (jlushr x y)) :: S) m R) : G mt d pc L (.inl y :: .inr (.inl x) :: S) m R := by
  intro r m2 hR l D ad ca p e s mi args below meth c H locs ls hC hS
  obtain ⟨hd, rfl⟩ := hd
  exact lv_lushr hC.1.1 hC.1.2.1 hd rfl (h r m2 hR l D ad ca p e s mi args below meth c H locs ls hC (hS.tl.tl.pl _))
def jlrem (x y : Int64) (k : Int64 → hR) : hR := if y = 0 then none else k (x - x / y * y)
theorem g_lrem {x y : Int64} {k : Int64 → hR} (hd : Dc mt pc .lrem 1 nx) (h : G mt d nx L (.inr (.inl (x - x / y * y)) :: S) m (k (x - x / y * y))) : G mt d pc L (.inr (.inl y) :: .inr (.inl x) :: S) m (jlrem x y k) := by
  intro r m2 hR l D ad ca p e s mi args below meth c H locs ls hC hS
  obtain ⟨hd, rfl⟩ := hd
  unfold jlrem at hR
  split at hR
  · cases hR
  · rename_i hne
    exact lv_lrem hC.1.1 hC.1.2.1 hd hne (h r m2 hR l D ad ca p e s mi args below meth c H locs ls hC (hS.tl.tl.pl _))
theorem g_i2l {x : Int32} (hd : Dc mt pc .i2l 1 nx) (h : G mt d nx L (.inr (.inl x.toInt64) :: S) m R) : G mt d pc L (.inl x :: S) m R := by
  intro r m2 hR l D ad ca p e s mi args below meth c H locs ls hC hS
  obtain ⟨hd, rfl⟩ := hd
  exact lv_i2l hC.1.1 hC.1.2.1 hd rfl (h r m2 hR l D ad ca p e s mi args below meth c H locs ls hC (hS.tl.pl _))
theorem g_l2i {x : Int64} (hd : Dc mt pc .l2i 1 nx) (h : G mt d nx L (.inl x.toInt32 :: S) m R) : G mt d pc L (.inr (.inl x) :: S) m R := by
  intro r m2 hR l D ad ca p e s mi args below meth c H locs ls hC hS
  obtain ⟨hd, rfl⟩ := hd
  exact lv_l2i hC.1.1 hC.1.2.1 hd rfl (h r m2 hR l D ad ca p e s mi args below meth c H locs ls hC (hS.tl.pi _))
def ji2c (x : Int32) : Int32 := (x.toUInt32 % 65536).toInt32
theorem g_i2c {x : Int32} (hd : Dc mt pc .i2c 1 nx) (h : G mt d nx L (.inl (ji2c x) :: S) m R) : G mt d pc L (.inl x :: S) m R := by
  intro r m2 hR l D ad ca p e s mi args below meth c H locs ls hC hS
  obtain ⟨hd, rfl⟩ := hd
  exact lv_i2c hC.1.1 hC.1.2.1 hd rfl (h r m2 hR l D ad ca p e s mi args below meth c H locs ls hC (hS.tl.pi _))
theorem g_lcmp {x y : Int64} (hd : Dc mt pc .lcmp 1 nx) (h : G mt d nx L (.inl (lg_cmp x y) :: S) m R) : G mt d pc L (.inr (.inl y) :: .inr (.inl x) :: S) m R := by
  intro r m2 hR l D ad ca p e s mi args below meth c H locs ls hC hS
  obtain ⟨hd, rfl⟩ := hd
  exact W.lcmp hC.1.1 hC.1.2.1 hd (h r m2 hR l D ad ca p e s mi args below meth c H locs ls hC (hS.tl.tl.pi _))
theorem g_iconst {n : Int} {v : Int32} (hd : Dc mt pc (.iconst n) 1 nx) (hv : Int32.ofInt n = v) (h : G mt d nx L (.inl v :: S) m R) : G mt d pc L (S) m R := by
  intro r m2 hR l D ad ca p e s mi args below meth c H locs ls hC hS
  obtain ⟨hd, rfl⟩ := hd
  exact lv_iconst hC.1.1 hC.1.2.1 hd hv (h r m2 hR l D ad ca p e s mi args below meth c H locs ls hC (hS.pi _))
theorem g_bipush {n : Int} {v : Int32} (hd : Dc mt pc (.bipush n) 2 nx) (hv : (Int8.ofInt n).toInt32 = v) (h : G mt d nx L (.inl v :: S) m R) : G mt d pc L (S) m R := by
  intro r m2 hR l D ad ca p e s mi args below meth c H locs ls hC hS
  obtain ⟨hd, rfl⟩ := hd
  exact lv_bipush hC.1.1 hC.1.2.1 hd hv (h r m2 hR l D ad ca p e s mi args below meth c H locs ls hC (hS.pi _))
theorem g_sipush {n : Int} {v : Int32} (hd : Dc mt pc (.sipush n) 3 nx) (hv : (Int16.ofInt n).toInt32 = v) (h : G mt d nx L (.inl v :: S) m R) : G mt d pc L (S) m R := by
  intro r m2 hR l D ad ca p e s mi args below meth c H locs ls hC hS
  obtain ⟨hd, rfl⟩ := hd
  exact lv_sipush hC.1.1 hC.1.2.1 hd hv (h r m2 hR l D ad ca p e s mi args below meth c H locs ls hC (hS.pi _))
theorem g_lconst {n : Fin 2} {v : Int64} (hd : Dc mt pc (.lconst n) 1 nx) (hv : Int64.ofNat (n : Nat) = v) (h : G mt d nx L (.inr (.inl v) :: S) m R) : G mt d pc L (S) m R := by
  intro r m2 hR l D ad ca p e s mi args below meth c H locs ls hC hS
  obtain ⟨hd, rfl⟩ := hd
  exact lv_lconst hC.1.1 hC.1.2.1 hd hv (h r m2 hR l D ad ca p e s mi args below meth c H locs ls hC (hS.pl _))
theorem g_ldc {i : Nat} {v : Int32} (hd : Dc mt pc (.ldc i) 2 nx) (hw : Cond.constant mt.1.cls i v ∈ gdw) (h : G mt d nx L (.inl v :: S) m R) : G mt d pc L (S) m R := by
  intro r m2 hR l D ad ca p e s mi args below meth c H locs ls hC hS
  obtain ⟨hd, rfl⟩ := hd
  exact lv_ldc hC.1.1 hC.1.2.1 hC.1.2.2.2.1 (hC.w hw) hd (h r m2 hR l D ad ca p e s mi args below meth c H locs ls hC (hS.pi _))
theorem g_ldcw {i : Nat} {v : Int32} (hd : Dc mt pc (.ldc_w i) 3 nx) (hw : Cond.constant mt.1.cls i v ∈ gdw) (h : G mt d nx L (.inl v :: S) m R) : G mt d pc L (S) m R := by
  intro r m2 hR l D ad ca p e s mi args below meth c H locs ls hC hS
  obtain ⟨hd, rfl⟩ := hd
  exact lv_ldcw hC.1.1 hC.1.2.1 hC.1.2.2.2.1 (hC.w hw) hd (h r m2 hR l D ad ca p e s mi args below meth c H locs ls hC (hS.pi _))
theorem g_ldc2 {i : Nat} {v : Int64} (hd : Dc mt pc (.ldc2_w i) 3 nx) (hw : Cond.constantLong mt.1.cls i v ∈ gdw) (h : G mt d nx L (.inr (.inl v) :: S) m R) : G mt d pc L (S) m R := by
  intro r m2 hR l D ad ca p e s mi args below meth c H locs ls hC hS
  obtain ⟨hd, rfl⟩ := hd
  exact lv_ldc2 hC.1.1 hC.1.2.1 hC.1.2.2.2.1 (hC.w hw) hd (h r m2 hR l D ad ca p e s mi args below meth c H locs ls hC (hS.pl _))
theorem g_iload {i : Nat} {x : Int32} (j : Nat) (hd : Dc mt pc (.iload i) 2 nx) (hj : L[j]? = some (i, .inl x)) (h : G mt d nx L (.inl x :: S) m R) : G mt d pc L (S) m R := by
  intro r m2 hR l D ad ca p e s mi args below meth c H locs ls hC hS
  obtain ⟨hd, rfl⟩ := hd
  exact lv_iload hC.1.1 hC.1.2.1 hd (hS.at hj).1 (h r m2 hR l D ad ca p e s mi args below meth c H locs ls hC (hS.pi _))
theorem g_iload_n {i : Fin 4} {x : Int32} (j : Nat) (hd : Dc mt pc (.iload_n i) 1 nx) (hj : L[j]? = some ((i : Nat), .inl x)) (h : G mt d nx L (.inl x :: S) m R) : G mt d pc L (S) m R := by
  intro r m2 hR l D ad ca p e s mi args below meth c H locs ls hC hS
  obtain ⟨hd, rfl⟩ := hd
  exact lv_iload_n hC.1.1 hC.1.2.1 hd rfl (hS.at hj).1 (h r m2 hR l D ad ca p e s mi args below meth c H locs ls hC (hS.pi _))
theorem g_lload {i : Nat} {x : Int64} (j : Nat) (hd : Dc mt pc (.lload i) 2 nx) (hj : L[j]? = some (i, .inr (.inl x))) (h : G mt d nx L (.inr (.inl x) :: S) m R) : G mt d pc L (S) m R := by
  intro r m2 hR l D ad ca p e s mi args below meth c H locs ls hC hS
  obtain ⟨hd, rfl⟩ := hd
  exact lv_lload hC.1.1 hC.1.2.1 hd (hS.at hj).1 (h r m2 hR l D ad ca p e s mi args below meth c H locs ls hC (hS.pl _))
theorem g_lload_n {i : Fin 4} {x : Int64} (j : Nat) (hd : Dc mt pc (.lload_n i) 1 nx) (hj : L[j]? = some ((i : Nat), .inr (.inl x))) (h : G mt d nx L (.inr (.inl x) :: S) m R) : G mt d pc L (S) m R := by
  intro r m2 hR l D ad ca p e s mi args below meth c H locs ls hC hS
  obtain ⟨hd, rfl⟩ := hd
  exact lv_lload_n hC.1.1 hC.1.2.1 hd rfl (hS.at hj).1 (h r m2 hR l D ad ca p e s mi args below meth c H locs ls hC (hS.pl _))
theorem g_aload {i : Nat} {q : Nat × Nat} (j : Nat) (hd : Dc mt pc (.aload i) 2 nx) (hj : L[j]? = some (i, .inr (.inr q))) (h : G mt d nx L (.inr (.inr q) :: S) m R) : G mt d pc L (S) m R := by
  intro r m2 hR l D ad ca p e s mi args below meth c H locs ls hC hS
  obtain ⟨hd, rfl⟩ := hd
  exact lv_aload hC.1.1 hC.1.2.1 hd (hS.at hj).1 (h r m2 hR l D ad ca p e s mi args below meth c H locs ls hC (hS.pu (hS.at hj).2))
theorem g_aload_n {i : Fin 4} {q : Nat × Nat} (j : Nat) (hd : Dc mt pc (.aload_n i) 1 nx) (hj : L[j]? = some ((i : Nat), .inr (.inr q))) (h : G mt d nx L (.inr (.inr q) :: S) m R) : G mt d pc L (S) m R := by
  intro r m2 hR l D ad ca p e s mi args below meth c H locs ls hC hS
  obtain ⟨hd, rfl⟩ := hd
  exact lv_aload_n hC.1.1 hC.1.2.1 hd rfl (hS.at hj).1 (h r m2 hR l D ad ca p e s mi args below meth c H locs ls hC (hS.pu (hS.at hj).2))
theorem g_istore {i : Nat} {x : Int32} (hd : Dc mt pc (.istore i) 2 nx) (hl : hSt1 L i (.inl x) = L2) (hn : i < mt.2.2.1) (h : G mt d nx L2 S m R) : G mt d pc L (.inl x :: S) m R := by
  intro r m2 hR l D ad ca p e s mi args below meth c H locs ls hC hS
  obtain ⟨hd, rfl⟩ := hd
  subst hl
  exact lv_istore hC.1.1 hC.1.2.1 hd hS.2.2.2.1 hn (hSt1_ev ad L i (.inl x)) (fun ls2 hl2 => h r m2 hR l D ad ca p e s mi args below meth c H locs ls2 hC (hS.tl.lo hl2 (hSt1_val hS.2.2.2.2.1 hS.hd)))
theorem g_lstore {i : Nat} {x : Int64} (hd : Dc mt pc (.lstore i) 2 nx) (hl : hSt2 L i (.inr (.inl x)) = L2) (hn : i + 1 < mt.2.2.1) (h : G mt d nx L2 S m R) : G mt d pc L (.inr (.inl x) :: S) m R := by
  intro r m2 hR l D ad ca p e s mi args below meth c H locs ls hC hS
  obtain ⟨hd, rfl⟩ := hd
  subst hl
  exact lv_lstore hC.1.1 hC.1.2.1 hd hS.2.2.2.1 hn (hSt2_ev ad L i (.inr (.inl x))) (fun ls2 hl2 => h r m2 hR l D ad ca p e s mi args below meth c H locs ls2 hC (hS.tl.lo hl2 (hSt2_val hS.2.2.2.2.1 hS.hd)))
theorem g_astore {i : Nat} {x : Nat × Nat} (hd : Dc mt pc (.astore i) 2 nx) (hl : hSt1 L i (.inr (.inr x)) = L2) (hn : i < mt.2.2.1) (h : G mt d nx L2 S m R) : G mt d pc L (.inr (.inr x) :: S) m R := by
  intro r m2 hR l D ad ca p e s mi args below meth c H locs ls hC hS
  obtain ⟨hd, rfl⟩ := hd
  subst hl
  exact lv_astore hC.1.1 hC.1.2.1 hd hS.2.2.2.1 hn (hSt1_ev ad L i (.inr (.inr x))) (fun ls2 hl2 => h r m2 hR l D ad ca p e s mi args below meth c H locs ls2 hC (hS.tl.lo hl2 (hSt1_val hS.2.2.2.2.1 hS.hd)))
theorem g_istore_n {i : Fin 4} {x : Int32} (hd : Dc mt pc (.istore_n i) 1 nx) (hl : hSt1 L (i : Nat) (.inl x) = L2) (hn : (i : Nat) < mt.2.2.1) (h : G mt d nx L2 S m R) : G mt d pc L (.inl x :: S) m R := by
  intro r m2 hR l D ad ca p e s mi args below meth c H locs ls hC hS
  obtain ⟨hd, rfl⟩ := hd
  subst hl
  exact lv_istore_n hC.1.1 hC.1.2.1 hd rfl hS.2.2.2.1 hn (hSt1_ev ad L (i : Nat) (.inl x)) (fun ls2 hl2 => h r m2 hR l D ad ca p e s mi args below meth c H locs ls2 hC (hS.tl.lo hl2 (hSt1_val hS.2.2.2.2.1 hS.hd)))
theorem g_lstore_n {i : Fin 4} {x : Int64} (hd : Dc mt pc (.lstore_n i) 1 nx) (hl : hSt2 L (i : Nat) (.inr (.inl x)) = L2) (hn : (i : Nat) + 1 < mt.2.2.1) (h : G mt d nx L2 S m R) : G mt d pc L (.inr (.inl x) :: S) m R := by
  intro r m2 hR l D ad ca p e s mi args below meth c H locs ls hC hS
  obtain ⟨hd, rfl⟩ := hd
  subst hl
  exact lv_lstore_n hC.1.1 hC.1.2.1 hd rfl hS.2.2.2.1 hn (hSt2_ev ad L (i : Nat) (.inr (.inl x))) (fun ls2 hl2 => h r m2 hR l D ad ca p e s mi args below meth c H locs ls2 hC (hS.tl.lo hl2 (hSt2_val hS.2.2.2.2.1 hS.hd)))
theorem g_astore_n {i : Fin 4} {x : Nat × Nat} (hd : Dc mt pc (.astore_n i) 1 nx) (hl : hSt1 L (i : Nat) (.inr (.inr x)) = L2) (hn : (i : Nat) < mt.2.2.1) (h : G mt d nx L2 S m R) : G mt d pc L (.inr (.inr x) :: S) m R := by
  intro r m2 hR l D ad ca p e s mi args below meth c H locs ls hC hS
  obtain ⟨hd, rfl⟩ := hd
  subst hl
  exact lv_astore_n hC.1.1 hC.1.2.1 hd rfl hS.2.2.2.1 hn (hSt1_ev ad L (i : Nat) (.inr (.inr x))) (fun ls2 hl2 => h r m2 hR l D ad ca p e s mi args below meth c H locs ls2 hC (hS.tl.lo hl2 (hSt1_val hS.2.2.2.2.1 hS.hd)))
theorem g_iinc {i : Nat} {n : Int} {x v : Int32} (j : Nat) (hd : Dc mt pc (.iinc i n) 3 nx) (hj : L[j]? = some (i, .inl x)) (hv : x + Int32.ofInt n = v) (hl : hSt1 L i (.inl v) = L2) (hn : i < mt.2.2.1) (h : G mt d nx L2 S m R) : G mt d pc L S m R := by
  intro r m2 hR l D ad ca p e s mi args below meth c H locs ls hC hS
  obtain ⟨hd, rfl⟩ := hd
  subst hl
  exact lv_iinc hC.1.1 hC.1.2.1 hd hS.2.2.2.1 (k := j) (by rw [hLs, List.getElem?_map, hj]; rfl) hv hn (hSt1_ev ad L i (.inl v)) (fun ls2 hl2 => h r m2 hR l D ad ca p e s mi args below meth c H locs ls2 hC (hS.lo hl2 (hSt1_val hS.2.2.2.2.1 trivial)))
theorem g_dup {v : hV} (hd : Dc mt pc .dup 1 nx) (hv : vcat v = 1) (h : G mt d nx L (v :: v :: S) m R) : G mt d pc L (v :: S) m R := by
  intro r m2 hR l D ad ca p e s mi args below meth c H locs ls hC hS
  obtain ⟨hd, rfl⟩ := hd
  exact lv_dup hC.1.1 hC.1.2.1 hd (by rw [ev_cat]; exact hv) (h r m2 hR l D ad ca p e s mi args below meth c H locs ls hC (hS.pu hS.hd))
theorem g_pop {v : hV} (hd : Dc mt pc .pop 1 nx) (hv : vcat v = 1) (h : G mt d nx L (S) m R) : G mt d pc L (v :: S) m R := by
  intro r m2 hR l D ad ca p e s mi args below meth c H locs ls hC hS
  obtain ⟨hd, rfl⟩ := hd
  exact lv_pop hC.1.1 hC.1.2.1 hd (by rw [ev_cat]; exact hv) (h r m2 hR l D ad ca p e s mi args below meth c H locs ls hC hS.tl)
theorem g_dup2 {v w : hV} (hd : Dc mt pc .dup2 1 nx) (hv : vcat v = 1) (hw : vcat w = 1) (h : G mt d nx L (v :: w :: v :: w :: S) m R) : G mt d pc L (v :: w :: S) m R := by
  intro r m2 hR l D ad ca p e s mi args below meth c H locs ls hC hS
  obtain ⟨hd, rfl⟩ := hd
  exact lv_dup2_11 hC.1.1 hC.1.2.1 hd (by rw [ev_cat]; exact hv) (by rw [ev_cat]; exact hw) (h r m2 hR l D ad ca p e s mi args below meth c H locs ls hC ((hS.pu hS.tl.hd).pu hS.hd))
theorem g_dup_x1 {v w : hV} (hd : Dc mt pc .dup_x1 1 nx) (hv : vcat v = 1) (hw : vcat w = 1) (h : G mt d nx L (v :: w :: v :: S) m R) : G mt d pc L (v :: w :: S) m R := by
  intro r m2 hR l D ad ca p e s mi args below meth c H locs ls hC hS
  obtain ⟨hd, rfl⟩ := hd
  exact lv_dup_x1 hC.1.1 hC.1.2.1 hd (by rw [ev_cat]; exact hv) (by rw [ev_cat]; exact hw) (h r m2 hR l D ad ca p e s mi args below meth c H locs ls hC (((hS.tl.tl.pu hS.hd).pu hS.tl.hd).pu hS.hd))
theorem g_goto {off : Int} {tgt : Nat} (hd : Dc mt pc (.goto off) 3 nx) (ht : (pc : Int) + off = (tgt : Int)) (h : G mt d tgt L S m R) : G mt d pc L S m R := by
  intro r m2 hR l D ad ca p e s mi args below meth c H locs ls hC hS
  exact lv_goto hC.1.1 hC.1.2.1 hd.1 ht (h r m2 hR l D ad ca p e s mi args below meth c H locs ls hC hS)
theorem g_if_eq {x : Int32} {off : Int} {tgt : Nat} {A B : hR} (hd : Dc mt pc (.ifCond .eq off) 3 nx) (ht : (pc : Int) + off = (tgt : Int)) (ha : x = 0 → G mt d tgt L S m A) (hb : ¬ (x = 0) → G mt d nx L S m B) : G mt d pc L (.inl x :: S) m (if x = 0 then A else B) := by
  intro r m2 hR l D ad ca p e s mi args below meth c H locs ls hC hS
  obtain ⟨hd, rfl⟩ := hd
  refine lv_if_eq hC.1.1 hC.1.2.1 hd ht (fun q => ?_) (fun q => ?_)
  · rw [if_pos q] at hR
    exact ha q r m2 hR l D ad ca p e s mi args below meth c H locs ls hC hS.tl
  · rw [if_neg q] at hR
    exact hb q r m2 hR l D ad ca p e s mi args below meth c H locs ls hC hS.tl
theorem g_if_lt {x : Int32} {off : Int} {tgt : Nat} {A B : hR} (hd : Dc mt pc (.ifCond .lt off) 3 nx) (ht : (pc : Int) + off = (tgt : Int)) (ha : x < 0 → G mt d tgt L S m A) (hb : ¬ (x < 0) → G mt d nx L S m B) : G mt d pc L (.inl x :: S) m (if x < 0 then A else B) := by
  intro r m2 hR l D ad ca p e s mi args below meth c H locs ls hC hS
  obtain ⟨hd, rfl⟩ := hd
  refine lv_if_lt hC.1.1 hC.1.2.1 hd ht (fun q => ?_) (fun q => ?_)
  · rw [if_pos q] at hR
    exact ha q r m2 hR l D ad ca p e s mi args below meth c H locs ls hC hS.tl
  · rw [if_neg q] at hR
    exact hb q r m2 hR l D ad ca p e s mi args below meth c H locs ls hC hS.tl
theorem g_if_ge {x : Int32} {off : Int} {tgt : Nat} {A B : hR} (hd : Dc mt pc (.ifCond .ge off) 3 nx) (ht : (pc : Int) + off = (tgt : Int)) (ha : 0 ≤ x → G mt d tgt L S m A) (hb : ¬ (0 ≤ x) → G mt d nx L S m B) : G mt d pc L (.inl x :: S) m (if 0 ≤ x then A else B) := by
  intro r m2 hR l D ad ca p e s mi args below meth c H locs ls hC hS
  obtain ⟨hd, rfl⟩ := hd
  refine lv_if_ge hC.1.1 hC.1.2.1 hd ht (fun q => ?_) (fun q => ?_)
  · rw [if_pos q] at hR
    exact ha q r m2 hR l D ad ca p e s mi args below meth c H locs ls hC hS.tl
  · rw [if_neg q] at hR
    exact hb q r m2 hR l D ad ca p e s mi args below meth c H locs ls hC hS.tl
theorem g_if_gt {x : Int32} {off : Int} {tgt : Nat} {A B : hR} (hd : Dc mt pc (.ifCond .gt off) 3 nx) (ht : (pc : Int) + off = (tgt : Int)) (ha : 0 < x → G mt d tgt L S m A) (hb : ¬ (0 < x) → G mt d nx L S m B) : G mt d pc L (.inl x :: S) m (if 0 < x then A else B) := by
  intro r m2 hR l D ad ca p e s mi args below meth c H locs ls hC hS
  obtain ⟨hd, rfl⟩ := hd
  refine lv_if_gt hC.1.1 hC.1.2.1 hd ht (fun q => ?_) (fun q => ?_)
  · rw [if_pos q] at hR
    exact ha q r m2 hR l D ad ca p e s mi args below meth c H locs ls hC hS.tl
  · rw [if_neg q] at hR
    exact hb q r m2 hR l D ad ca p e s mi args below meth c H locs ls hC hS.tl
theorem g_if_le {x : Int32} {off : Int} {tgt : Nat} {A B : hR} (hd : Dc mt pc (.ifCond .le off) 3 nx) (ht : (pc : Int) + off = (tgt : Int)) (ha : x ≤ 0 → G mt d tgt L S m A) (hb : ¬ (x ≤ 0) → G mt d nx L S m B) : G mt d pc L (.inl x :: S) m (if x ≤ 0 then A else B) := by
  intro r m2 hR l D ad ca p e s mi args below meth c H locs ls hC hS
  obtain ⟨hd, rfl⟩ := hd
  refine lv_if_le hC.1.1 hC.1.2.1 hd ht (fun q => ?_) (fun q => ?_)
  · rw [if_pos q] at hR
    exact ha q r m2 hR l D ad ca p e s mi args below meth c H locs ls hC hS.tl
  · rw [if_neg q] at hR
    exact hb q r m2 hR l D ad ca p e s mi args below meth c H locs ls hC hS.tl
theorem g_icmp_eq {x y : Int32} {off : Int} {tgt : Nat} {A B : hR} (hd : Dc mt pc (.if_icmp .eq off) 3 nx) (ht : (pc : Int) + off = (tgt : Int)) (ha : x = y → G mt d tgt L S m A) (hb : ¬ (x = y) → G mt d nx L S m B) : G mt d pc L (.inl y :: .inl x :: S) m (if x = y then A else B) := by
  intro r m2 hR l D ad ca p e s mi args below meth c H locs ls hC hS
  obtain ⟨hd, rfl⟩ := hd
  refine lv_icmp_eq hC.1.1 hC.1.2.1 hd ht (fun q => ?_) (fun q => ?_)
  · rw [if_pos q] at hR
    exact ha q r m2 hR l D ad ca p e s mi args below meth c H locs ls hC hS.tl.tl
  · rw [if_neg q] at hR
    exact hb q r m2 hR l D ad ca p e s mi args below meth c H locs ls hC hS.tl.tl
theorem g_icmp_lt {x y : Int32} {off : Int} {tgt : Nat} {A B : hR} (hd : Dc mt pc (.if_icmp .lt off) 3 nx) (ht : (pc : Int) + off = (tgt : Int)) (ha : x < y → G mt d tgt L S m A) (hb : ¬ (x < y) → G mt d nx L S m B) : G mt d pc L (.inl y :: .inl x :: S) m (if x < y then A else B) := by
  intro r m2 hR l D ad ca p e s mi args below meth c H locs ls hC hS
  obtain ⟨hd, rfl⟩ := hd
  refine lv_icmp_lt hC.1.1 hC.1.2.1 hd ht (fun q => ?_) (fun q => ?_)
  · rw [if_pos q] at hR
    exact ha q r m2 hR l D ad ca p e s mi args below meth c H locs ls hC hS.tl.tl
  · rw [if_neg q] at hR
    exact hb q r m2 hR l D ad ca p e s mi args below meth c H locs ls hC hS.tl.tl
theorem g_icmp_ge {x y : Int32} {off : Int} {tgt : Nat} {A B : hR} (hd : Dc mt pc (.if_icmp .ge off) 3 nx) (ht : (pc : Int) + off = (tgt : Int)) (ha : y ≤ x → G mt d tgt L S m A) (hb : ¬ (y ≤ x) → G mt d nx L S m B) : G mt d pc L (.inl y :: .inl x :: S) m (if y ≤ x then A else B) := by
  intro r m2 hR l D ad ca p e s mi args below meth c H locs ls hC hS
  obtain ⟨hd, rfl⟩ := hd
  refine lv_icmp_ge hC.1.1 hC.1.2.1 hd ht (fun q => ?_) (fun q => ?_)
  · rw [if_pos q] at hR
    exact ha q r m2 hR l D ad ca p e s mi args below meth c H locs ls hC hS.tl.tl
  · rw [if_neg q] at hR
    exact hb q r m2 hR l D ad ca p e s mi args below meth c H locs ls hC hS.tl.tl
theorem g_icmp_gt {x y : Int32} {off : Int} {tgt : Nat} {A B : hR} (hd : Dc mt pc (.if_icmp .gt off) 3 nx) (ht : (pc : Int) + off = (tgt : Int)) (ha : y < x → G mt d tgt L S m A) (hb : ¬ (y < x) → G mt d nx L S m B) : G mt d pc L (.inl y :: .inl x :: S) m (if y < x then A else B) := by
  intro r m2 hR l D ad ca p e s mi args below meth c H locs ls hC hS
  obtain ⟨hd, rfl⟩ := hd
  refine lv_icmp_gt hC.1.1 hC.1.2.1 hd ht (fun q => ?_) (fun q => ?_)
  · rw [if_pos q] at hR
    exact ha q r m2 hR l D ad ca p e s mi args below meth c H locs ls hC hS.tl.tl
  · rw [if_neg q] at hR
    exact hb q r m2 hR l D ad ca p e s mi args below meth c H locs ls hC hS.tl.tl
theorem g_icmp_le {x y : Int32} {off : Int} {tgt : Nat} {A B : hR} (hd : Dc mt pc (.if_icmp .le off) 3 nx) (ht : (pc : Int) + off = (tgt : Int)) (ha : x ≤ y → G mt d tgt L S m A) (hb : ¬ (x ≤ y) → G mt d nx L S m B) : G mt d pc L (.inl y :: .inl x :: S) m (if x ≤ y then A else B) := by
  intro r m2 hR l D ad ca p e s mi args below meth c H locs ls hC hS
  obtain ⟨hd, rfl⟩ := hd
  refine lv_icmp_le hC.1.1 hC.1.2.1 hd ht (fun q => ?_) (fun q => ?_)
  · rw [if_pos q] at hR
    exact ha q r m2 hR l D ad ca p e s mi args below meth c H locs ls hC hS.tl.tl
  · rw [if_neg q] at hR
    exact hb q r m2 hR l D ad ca p e s mi args below meth c H locs ls hC hS.tl.tl
theorem g_if_ne {x : Int32} {off : Int} {tgt : Nat} {A B : hR} (hd : Dc mt pc (.ifCond .ne off) 3 nx) (ht : (pc : Int) + off = (tgt : Int)) (ha : ¬ x = 0 → G mt d tgt L S m A) (hb : x = 0 → G mt d nx L S m B) : G mt d pc L (.inl x :: S) m (if x = 0 then B else A) := by
  intro r m2 hR l D ad ca p e s mi args below meth c H locs ls hC hS
  obtain ⟨hd, rfl⟩ := hd
  refine lv_if_ne hC.1.1 hC.1.2.1 hd ht (fun q => ?_) (fun q => ?_)
  · rw [if_neg q] at hR
    exact ha q r m2 hR l D ad ca p e s mi args below meth c H locs ls hC hS.tl
  · rw [if_pos q] at hR
    exact hb q r m2 hR l D ad ca p e s mi args below meth c H locs ls hC hS.tl
theorem g_icmp_ne {x y : Int32} {off : Int} {tgt : Nat} {A B : hR} (hd : Dc mt pc (.if_icmp .ne off) 3 nx) (ht : (pc : Int) + off = (tgt : Int)) (ha : ¬ x = y → G mt d tgt L S m A) (hb : x = y → G mt d nx L S m B) : G mt d pc L (.inl y :: .inl x :: S) m (if x = y then B else A) := by
  intro r m2 hR l D ad ca p e s mi args below meth c H locs ls hC hS
  obtain ⟨hd, rfl⟩ := hd
  refine lv_icmp_ne hC.1.1 hC.1.2.1 hd ht (fun q => ?_) (fun q => ?_)
  · rw [if_neg q] at hR
    exact ha q r m2 hR l D ad ca p e s mi args below meth c H locs ls hC hS.tl.tl
  · rw [if_pos q] at hR
    exact hb q r m2 hR l D ad ca p e s mi args below meth c H locs ls hC hS.tl.tl
/-- a switch over numbers that follow one another -/
def swL (x : Int32) : List (Int32 × hR) → hR → hR
  | [], B => B
  | q :: cs, B => if x = q.1 then q.2 else swL x cs B
def swK (lo : Int) : List (Int32 × hR) → Prop
  | [] => True
  | q :: cs => q.1.toInt = lo ∧ swK (lo + 1) cs
theorem swL_out {x : Int32} {B : hR} : ∀ (cs : List (Int32 × hR)) (lo : Int), swK lo cs → (x.toInt < lo ∨ lo + cs.length ≤ x.toInt) → swL x cs B = B
  | [], _, _, _ => rfl
  | q :: cs, lo, h, hx => by
    rw [swL, if_neg (fun e => by
      rw [e, h.1] at hx
      rw [List.length_cons] at hx
      omega)]
    exact swL_out cs (lo + 1) h.2 (by rw [List.length_cons] at hx; omega)
theorem swL_in {x : Int32} {B : hR} : ∀ (cs : List (Int32 × hR)) (lo : Int), swK lo cs → lo ≤ x.toInt → x.toInt < lo + cs.length → ∃ q, cs[(x.toInt - lo).toNat]? = some q ∧ swL x cs B = q.2
  | [], lo, _, h1, h2 => by simp at h2; omega
  | q :: cs, lo, h, h1, h2 => by
    by_cases e : x = q.1
    · refine ⟨q, ?_, by rw [swL, if_pos e]⟩
      rw [e, h.1, Int.sub_self]
      rfl
    · have hne : x.toInt ≠ lo := fun z => e (Int32.toInt_inj.mp (z.trans h.1.symm))
      obtain ⟨q2, g1, g2⟩ := swL_in (x := x) (B := B) cs (lo + 1) h.2 (by omega) (by rw [List.length_cons] at h2; omega)
      refine ⟨q2, ?_, by rw [swL, if_neg e]; exact g2⟩
      have e2 : (x.toInt - lo).toNat = (x.toInt - (lo + 1)).toNat + 1 := by omega
      rw [e2, List.getElem?_cons_succ]
      exact g1
def swG (mt : hMt) (d pc : Nat) (L : hL) (S : List hV) (m : hM) : List Int → List (Int32 × hR) → Prop
  | [], [] => True
  | o :: os, (_, A) :: cs => (∃ tgt : Nat, (pc : Int) + o = (tgt : Int) ∧ G mt d tgt L S m A) ∧ swG mt d pc L S m os cs
  | _, _ => False
theorem swG_at : ∀ (os : List Int) (cs : List (Int32 × hR)), swG mt d pc L S m os cs → os.length = cs.length ∧ ∀ (j : Nat) (q : Int32 × hR), cs[j]? = some q → ∃ (o : Int) (tgt : Nat), os[j]? = some o ∧ (pc : Int) + o = (tgt : Int) ∧ G mt d tgt L S m q.2
  | [], [], _ => ⟨rfl, fun j q h => by simp at h⟩
  | [], _ :: _, h => h.elim
  | _ :: _, [], h => h.elim
  | o :: os, (_, _) :: cs, h => by
    obtain ⟨e, g⟩ := swG_at os cs h.2
    refine ⟨by rw [List.length_cons, List.length_cons, e], fun j q2 hj => ?_⟩
    cases j with
    | zero =>
      cases hj
      obtain ⟨tgt, h1, h2⟩ := h.1
      exact ⟨o, tgt, rfl, h1, h2⟩
    | succ j => exact g j q2 hj
theorem g_table {x : Int32} {dflt lo hi : Int} {offs : List Int} {len dt : Nat} {cs : List (Int32 × hR)} {B : hR} (hd : Dc mt pc (.tableswitch dflt lo hi offs.toArray) len nx) (hk : swK lo cs) (hh : lo + cs.length = hi + 1) (hdt : (pc : Int) + dflt = (dt : Int)) (hc : swG mt d pc L S m offs cs) (hb : G mt d dt L S m B) : G mt d pc L (.inl x :: S) m (swL x cs B) := by
  intro r m2 hR l D ad ca p e s mi args below meth c H locs ls hC hS
  obtain ⟨e9, g⟩ := swG_at offs cs hc
  by_cases hx : x.toInt < lo ∨ hi < x.toInt
  · rw [swL_out cs lo hk (by omega)] at hR
    exact lv_tableOut hC.1.1 hC.1.2.1 hd.1 hx hdt (hb r m2 hR l D ad ca p e s mi args below meth c H locs ls hC hS.tl)
  · obtain ⟨q, g1, g2⟩ := swL_in (x := x) (B := B) cs lo hk (by omega) (by omega)
    rw [g2] at hR
    obtain ⟨o, tgt, h1, h2, h3⟩ := g _ q g1
    exact lv_tableIn hC.1.1 hC.1.2.1 hd.1 (by omega) (by omega) (by rw [List.getElem?_toArray]; exact h1) h2 (h3 r m2 hR l D ad ca p e s mi args below meth c H locs ls hC hS.tl)
theorem g_iret {x : Int32} (hr : mt.2.2.2 = some .int) (hd : Dc mt pc .ireturn 1 nx) : G mt d pc L [.inl x] m (some (some (.inl x), m)) := by
  intro r m2 hR l D ad ca p e s mi args below meth c H locs ls hC hS
  cases hR
  exact W.iret hC.1.1 hC.1.2.1 (hC.2.1.trans hr) (fun t ht hW => ⟨rfl, by rw [ht]; exact hS.1, hS.2.2.1.F ht⟩) hS.2.2.1.2.2 hd.1 hC.2.2.1
def jretZ (x : Int32) (m : hM) : hR := if x = 0 ∨ x = 1 then some (some (.inl x), m) else none
theorem g_zret {x : Int32} (hr : mt.2.2.2 = some .boolean) (hd : Dc mt pc .ireturn 1 nx) : G mt d pc L [.inl x] m (jretZ x m) := by
  intro r m2 hR l D ad ca p e s mi args below meth c H locs ls hC hS
  unfold jretZ at hR
  split at hR
  · rename_i hx
    cases hR
    exact W.zret hC.1.1 hC.1.2.1 (hC.2.1.trans hr) (by rcases hx with rfl | rfl <;> decide) (fun t ht hW => ⟨rfl, by rw [ht]; exact hS.1, hS.2.2.1.F ht⟩) hS.2.2.1.2.2 hd.1 hC.2.2.1
  · cases hR
def jretN (ty : FieldType) (x : Int32) (m : hM) : hR := if vp_nar ty x = x then some (some (.inl x), m) else none
theorem g_lret {x : Int64} (hr : mt.2.2.2 = some .long) (hd : Dc mt pc .lreturn 1 nx) : G mt d pc L [.inr (.inl x)] m (some (some (.inr (.inl x)), m)) := by
  intro r m2 hR l D ad ca p e s mi args below meth c H locs ls hC hS
  cases hR
  exact W.lret hC.1.1 hC.1.2.1 (hC.2.1.trans hr) (fun t ht hW => ⟨rfl, by rw [ht]; exact hS.1, hS.2.2.1.F ht⟩) hS.2.2.1.2.2 hd.1 hC.2.2.1
theorem g_vret (hr : mt.2.2.2 = none) (hd : Dc mt pc .return_ 1 nx) : G mt d pc L [] m (some (none, m)) := by
  intro r m2 hR l D ad ca p e s mi args below meth c H locs ls hC hS
  cases hR
  exact W.vret hC.1.1 hC.1.2.1 (hC.2.1.trans hr) (fun t ht hW => ⟨rfl, by rw [ht]; exact hS.1, hS.2.2.1.F ht⟩) hS.2.2.1.2.2 hd.1 hC.2.2.1
theorem g_aret {q : Nat × Nat} {E : String} (hr : mt.2.2.2 = some (.object E)) (hd : Dc mt pc .areturn 1 nx) : G mt d pc L [.inr (.inr q)] m (some (some (.inr (.inr q)), m)) := by
  intro r m2 hR l D ad ca p e s mi args below meth c H locs ls hC hS
  cases hR
  exact W.aret hC.1.1 hC.1.2.1 (hC.2.1.trans hr) (Or.inl ⟨_, rfl⟩) (Or.inr ⟨_, rfl⟩) (fun t ht hW => ⟨rfl, by rw [ht]; exact hS.1, hS.2.2.1.F ht⟩) hS.2.2.1.2.2 hd.1 hC.2.2.1
end Rows
