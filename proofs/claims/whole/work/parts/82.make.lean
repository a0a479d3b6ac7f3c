/-! constructors: the world as a row of cells, one after the other from address z on -/
abbrev nV : Type := Int32 ⊕ (Int64 ⊕ Option Nat)
def nev (z : Nat) : nV → Value
  | .inl x => .int x
  | .inr (.inl y) => .long y
  | .inr (.inr none) => .null
  | .inr (.inr (some k)) => .ref (z + k)
abbrev nE : Type := (Nat × Nat) ⊕ ((Nat × List (Option Nat)) ⊕ (Nat × List nV))
def nCell (z : Nat) (ca : Nat → ClassId) : nE → va_E
  | .inl q => .inl (ca q.1, q.2, if q.1 = 4 then .inr (.inl (fun _ => 0)) else .inl (fun _ => 0))
  | .inr (.inl q) => .inl (ca q.1, q.2.length, .inr (.inr (.inr (.inr (fun j => (q.2.getD j none).map (fun k => z + k))))))
  | .inr (.inr q) => .inr (q.1, q.2.map (nev z))
def nW (z : Nat) (ca : Nat → ClassId) (cs : List nE) : va_W := cs.mapIdx (fun k e => (z + k, nCell z ca e))
abbrev nR : Type := Option (List nE)
theorem nW_get (z : Nat) (ca : Nat → ClassId) (cs : List nE) (k : Nat) : (nW z ca cs)[k]? = (cs[k]?).map (fun e => (z + k, nCell z ca e)) := by
  unfold nW
  rw [List.getElem?_mapIdx]
theorem nW_at {z : Nat} {ca : Nat → ClassId} {cs : List nE} {k : Nat} {e : nE} (h : cs[k]? = some e) : (nW z ca cs)[k]? = some (z + k, nCell z ca e) := by
  rw [nW_get, h]
  rfl
theorem nW_D (z : Nat) (ca : Nat → ClassId) (cs : List nE) : va_D (fun q => z ≤ q) (nW z ca cs) := by
  have a : ∀ (k : Nat) (q : Nat × va_E), (nW z ca cs)[k]? = some q → q.1 = z + k := by
    intro k q h
    rw [nW_get] at h
    obtain ⟨e, -, h2⟩ := Option.map_eq_some_iff.mp h
    rw [← h2]
  refine ⟨fun i j p q hp hq e => ?_, fun k q h => ?_⟩
  · rw [a i p hp, a j q hq] at e
    omega
  · rw [a k q h]
    exact Nat.le_add_right z k
theorem nW_app (z : Nat) (ca : Nat → ClassId) (cs : List nE) (e : nE) : nW z ca (cs ++ [e]) = nW z ca cs ++ [(z + cs.length, nCell z ca e)] := by
  unfold nW
  rw [List.mapIdx_append]
  simp
theorem nW_set (z : Nat) (ca : Nat → ClassId) (cs : List nE) (k : Nat) (e : nE) : (nW z ca cs).set k (z + k, nCell z ca e) = nW z ca (cs.set k e) := by
  apply List.ext_getElem?
  intro i
  rw [List.getElem?_set, nW_get, nW_get, List.getElem?_set]
  by_cases h : k = i
  · subst h
    rw [if_pos rfl, if_pos rfl]
    by_cases h2 : k < cs.length
    · rw [if_pos h2, if_pos (by unfold nW; rw [List.length_mapIdx]; exact h2)]
      rfl
    · rw [if_neg h2, if_neg (by unfold nW; rw [List.length_mapIdx]; exact h2)]
      rfl
  · rw [if_neg h, if_neg h]
def nWd (D : va_G) (z : Nat) (ca : Nat → ClassId) (cs : List nE) (H : Heap) : Prop := H.size = z + cs.length ∧ va_P D vwCl (nW z ca cs) H
def nAO (U : State) : Prop := va_AO "HuntedEye$State" U ∧ va_AO "HuntedEye$Script" U
def nZ (U : State) : Prop := (hNwF nwF U ∧ hNwM nwM U) ∧ nAO U
theorem nZ_warm {s U : State} (hW : s.WarmedH U.vm) (h : nZ s) : nZ U := ⟨⟨h.1.1.warm hW, h.1.2.warm hW⟩, h.2.1.moved hW.alike, h.2.2.moved hW.alike⟩
theorem nZ_same {s U : State} (hW : s.vm = U.vm) (h : nZ s) : nZ U := ⟨⟨h.1.1.same hW, h.1.2.same hW⟩, h.2.1.moved (by rw [hW]; exact Vm.Alike.refl _), h.2.2.moved (by rw [hW]; exact Vm.Alike.refl _)⟩
def nRm (d mc ms : Nat) : Room := { frames := d, cells := mc, slots := ms, locals := 80 * d }
def NQ (D : va_G) (z : Nat) (ca : Nat → ClassId) (cs : List nE) : Array Value → State → Outcome → State → Prop := fun _ st oc t =>
  oc = .returned none ∧ nWd D z ca cs t.heap ∧ va_F (fun q => z ≤ q) st t
def NP (D : va_G) (z : Nat) (ca : Nat → ClassId) (cs : List nE) (U : State) : Prop := nWd D z ca cs U.heap ∧ va_K D vwCl (hTy ca) U ∧ nZ U
/-- a constructor's contract -/
def CN (mt : hMt) (d mc ms : Nat) (as : List nV) (cs : List nE) (R : nR) : Prop :=
  ∀ cs2, R = some cs2 → ∀ (l : Launch) (D : va_G) (z : Nat) (ca : Nat → ClassId), Met l mt.1 (hWs mt) (nRm d mc ms) (va_Pc (as.map (nev z)) (NP D z ca cs)) (NQ D z ca cs2) mc ms (fun q => z ≤ q)
abbrev nL : Type := List (Nat × nV)
def nLs (z : Nat) (L : nL) : List (Nat × Value) := L.map fun q => (q.1, nev z q.2)
def HCN (mt : hMt) (D : va_G) (ca : Nat → ClassId) (p : Program) (s : State) (mi : MethodId) (args : Array Value) (meth : Method) (c : Code) : Prop :=
  CallFix p mi c mt.2.1 mt.2.2.1 s args (hWs mt) mt.1.cls ∧ meth.sig.returnType = mt.2.2.2 ∧ meth.locks = false ∧ va_K D vwCl (hTy ca) s ∧ nZ s ∧ meth.name = "<init>"
def HSN (mt : hMt) (D : va_G) (z : Nat) (ca : Nat → ClassId) (s : State) (cs : List nE) (L : nL) (H : Heap) (locs : List Loc) (ls : Array Slot) : Prop :=
  nWd D z ca cs H ∧ va_S (fun q => z ≤ q) s.heap H locs ∧ lv_has ls mt.2.2.1 (nLs z L) ∧ z ≤ s.heap.size
def GN (mt : hMt) (d mc ms k n pc : Nat) (L : nL) (S : List nV) (cs : List nE) (R : nR) : Prop :=
  ∀ cs2, R = some cs2 → ∀ (l : Launch) (D : va_G) (z : Nat) (ca : Nat → ClassId) (p : Program) (e : Env) (s : State) (mi : MethodId) (args : Array Value) (below : List Frame) (meth : Method) (c : Code) (H : Heap) (locs : List Loc) (ls : Array Slot),
    HCN mt D ca p s mi args meth c → HSN mt D z ca s cs L H locs ls →
    W p l e (nRm d mc ms) s mi args below meth c H locs k n (MQ below (NQ D z ca cs2) args s mc ms (fun q => z ≤ q)) (F0 mi pc ls (S.map (nev z)))
theorem HCN.w {mt : hMt} {D : va_G} {ca : Nat → ClassId} {p : Program} {s : State} {mi : MethodId} {args : Array Value} {meth : Method} {c : Code} (h : HCN mt D ca p s mi args meth c) {w : Cond} (hw : w ∈ gdw) : w.before args s = true := h.1.2.2.2.2 w (List.mem_cons_of_mem _ hw)
theorem nev_cat1 {z : Nat} {v : nV} (h : ∀ y, v ≠ .inr (.inl y)) : (nev z v).category = 1 := by
  rcases v with x | y | q
  · rfl
  · exact absurd rfl (h y)
  · cases q <;> rfl
section Rows
variable {mt : hMt} {d mc ms k n pc nx : Nat} {L L2 : nL} {S : List nV} {cs : List nE} {R : nR}
theorem n_none : GN mt d mc ms k n pc L S cs none := fun cs2 h => by cases h
theorem n_iconst {i : Int} {v : Int32} (hd : Dc mt pc (.iconst i) 1 nx) (hv : Int32.ofInt i = v) (h : GN mt d mc ms k n nx L (.inl v :: S) cs R) : GN mt d mc ms k n pc L S cs R := by
  intro cs2 hR l D z ca p e s mi args below meth c H locs ls hC hS
  obtain ⟨hd, rfl⟩ := hd
  exact lv_iconst hC.1.1 hC.1.2.1 hd hv (h cs2 hR l D z ca p e s mi args below meth c H locs ls hC hS)
theorem n_bipush {i : Int} {v : Int32} (hd : Dc mt pc (.bipush i) 2 nx) (hv : (Int8.ofInt i).toInt32 = v) (h : GN mt d mc ms k n nx L (.inl v :: S) cs R) : GN mt d mc ms k n pc L S cs R := by
  intro cs2 hR l D z ca p e s mi args below meth c H locs ls hC hS
  obtain ⟨hd, rfl⟩ := hd
  exact lv_bipush hC.1.1 hC.1.2.1 hd hv (h cs2 hR l D z ca p e s mi args below meth c H locs ls hC hS)
theorem n_sipush {i : Int} {v : Int32} (hd : Dc mt pc (.sipush i) 3 nx) (hv : (Int16.ofInt i).toInt32 = v) (h : GN mt d mc ms k n nx L (.inl v :: S) cs R) : GN mt d mc ms k n pc L S cs R := by
  intro cs2 hR l D z ca p e s mi args below meth c H locs ls hC hS
  obtain ⟨hd, rfl⟩ := hd
  exact lv_sipush hC.1.1 hC.1.2.1 hd hv (h cs2 hR l D z ca p e s mi args below meth c H locs ls hC hS)
theorem n_ldc {i : Nat} {v : Int32} (hd : Dc mt pc (.ldc i) 2 nx) (hw : Cond.constant mt.1.cls i v ∈ gdw) (h : GN mt d mc ms k n nx L (.inl v :: S) cs R) : GN mt d mc ms k n pc L S cs R := by
  intro cs2 hR l D z ca p e s mi args below meth c H locs ls hC hS
  obtain ⟨hd, rfl⟩ := hd
  exact lv_ldc hC.1.1 hC.1.2.1 hC.1.2.2.2.1 (hC.w hw) hd (h cs2 hR l D z ca p e s mi args below meth c H locs ls hC hS)
theorem n_at {D : va_G} {z : Nat} {ca : Nat → ClassId} {s : State} {H : Heap} {locs : List Loc} {ls : Array Slot} (hS : HSN mt D z ca s cs L H locs ls) {j i : Nat} {v : nV} (hj : L[j]? = some (i, v)) : ls[i]? = some (.val (nev z v)) :=
  lv_at hS.2.2.1 j (by rw [nLs, List.getElem?_map, hj]; rfl)
theorem n_iload_n {i : Fin 4} {x : Int32} (j : Nat) (hd : Dc mt pc (.iload_n i) 1 nx) (hj : L[j]? = some ((i : Nat), .inl x)) (h : GN mt d mc ms k n nx L (.inl x :: S) cs R) : GN mt d mc ms k n pc L S cs R := by
  intro cs2 hR l D z ca p e s mi args below meth c H locs ls hC hS
  obtain ⟨hd, rfl⟩ := hd
  exact lv_iload_n hC.1.1 hC.1.2.1 hd rfl (n_at hS hj) (h cs2 hR l D z ca p e s mi args below meth c H locs ls hC hS)
theorem n_aload_n {i : Fin 4} {q : Nat} (j : Nat) (hd : Dc mt pc (.aload_n i) 1 nx) (hj : L[j]? = some ((i : Nat), .inr (.inr (some q)))) (h : GN mt d mc ms k n nx L (.inr (.inr (some q)) :: S) cs R) : GN mt d mc ms k n pc L S cs R := by
  intro cs2 hR l D z ca p e s mi args below meth c H locs ls hC hS
  obtain ⟨hd, rfl⟩ := hd
  exact lv_aload_n hC.1.1 hC.1.2.1 hd rfl (n_at hS hj) (h cs2 hR l D z ca p e s mi args below meth c H locs ls hC hS)
theorem n_istore_n {i : Fin 4} {x : Int32} (hd : Dc mt pc (.istore_n i) 1 nx) (hl : ∀ z, ((i : Nat), nev z (.inl x)) :: (nLs z L).filter (fun q => !(q.1 == (i : Nat)) && !(q.1 + 1 == (i : Nat) && q.2.category == 2)) = nLs z L2) (hn : (i : Nat) < mt.2.2.1) (h : GN mt d mc ms k n nx L2 S cs R) : GN mt d mc ms k n pc L (.inl x :: S) cs R := by
  intro cs2 hR l D z ca p e s mi args below meth c H locs ls hC hS
  obtain ⟨hd, rfl⟩ := hd
  exact lv_istore_n hC.1.1 hC.1.2.1 hd rfl hS.2.2.1 hn (hl z) (fun ls2 hl2 => h cs2 hR l D z ca p e s mi args below meth c H locs ls2 hC ⟨hS.1, hS.2.1, hl2, hS.2.2.2⟩)
theorem n_iinc {i : Nat} {a : Int} {x v : Int32} (j : Nat) (hd : Dc mt pc (.iinc i a) 3 nx) (hj : L[j]? = some (i, .inl x)) (hv : x + Int32.ofInt a = v) (hl : ∀ z, (i, nev z (.inl v)) :: (nLs z L).filter (fun q => !(q.1 == i) && !(q.1 + 1 == i && q.2.category == 2)) = nLs z L2) (hn : i < mt.2.2.1) (h : GN mt d mc ms k n nx L2 S cs R) : GN mt d mc ms k n pc L S cs R := by
  intro cs2 hR l D z ca p e s mi args below meth c H locs ls hC hS
  obtain ⟨hd, rfl⟩ := hd
  exact lv_iinc hC.1.1 hC.1.2.1 hd hS.2.2.1 (k := j) (by rw [nLs, List.getElem?_map, hj]; rfl) hv hn (hl z) (fun ls2 hl2 => h cs2 hR l D z ca p e s mi args below meth c H locs ls2 hC ⟨hS.1, hS.2.1, hl2, hS.2.2.2⟩)
theorem n_dup {q : Nat} (hd : Dc mt pc .dup 1 nx) (h : GN mt d mc ms k n nx L (.inr (.inr (some q)) :: .inr (.inr (some q)) :: S) cs R) : GN mt d mc ms k n pc L (.inr (.inr (some q)) :: S) cs R := by
  intro cs2 hR l D z ca p e s mi args below meth c H locs ls hC hS
  obtain ⟨hd, rfl⟩ := hd
  exact lv_dup hC.1.1 hC.1.2.1 hd rfl (h cs2 hR l D z ca p e s mi args below meth c H locs ls hC hS)
theorem n_goto {off : Int} {tgt : Nat} (hd : Dc mt pc (.goto off) 3 nx) (ht : (pc : Int) + off = (tgt : Int)) (h : GN mt d mc ms k n tgt L S cs R) : GN mt d mc ms k n pc L S cs R := by
  intro cs2 hR l D z ca p e s mi args below meth c H locs ls hC hS
  exact lv_goto hC.1.1 hC.1.2.1 hd.1 ht (h cs2 hR l D z ca p e s mi args below meth c H locs ls hC hS)
theorem n_icmp_ge {x y : Int32} {off : Int} {tgt : Nat} (hd : Dc mt pc (.if_icmp .ge off) 3 nx) (ht : (pc : Int) + off = (tgt : Int)) (ha : y ≤ x → GN mt d mc ms k n tgt L S cs R) (hb : ¬ (y ≤ x) → GN mt d mc ms k n nx L S cs R) : GN mt d mc ms k n pc L (.inl y :: .inl x :: S) cs R := by
  intro cs2 hR l D z ca p e s mi args below meth c H locs ls hC hS
  obtain ⟨hd, rfl⟩ := hd
  exact lv_icmp_ge hC.1.1 hC.1.2.1 hd ht (fun q => ha q cs2 hR l D z ca p e s mi args below meth c H locs ls hC hS) (fun q => hb q cs2 hR l D z ca p e s mi args below meth c H locs ls hC hS)
theorem n_icmp_gt {x y : Int32} {off : Int} {tgt : Nat} (hd : Dc mt pc (.if_icmp .gt off) 3 nx) (ht : (pc : Int) + off = (tgt : Int)) (ha : y < x → GN mt d mc ms k n tgt L S cs R) (hb : ¬ (y < x) → GN mt d mc ms k n nx L S cs R) : GN mt d mc ms k n pc L (.inl y :: .inl x :: S) cs R := by
  intro cs2 hR l D z ca p e s mi args below meth c H locs ls hC hS
  obtain ⟨hd, rfl⟩ := hd
  exact lv_icmp_gt hC.1.1 hC.1.2.1 hd ht (fun q => ha q cs2 hR l D z ca p e s mi args below meth c H locs ls hC hS) (fun q => hb q cs2 hR l D z ca p e s mi args below meth c H locs ls hC hS)
theorem n_widen {k2 n2 : Nat} (h1 : k ≤ k2) (h2 : n ≤ n2) (h : GN mt d mc ms k2 n2 pc L S cs R) : GN mt d mc ms k n pc L S cs R := by
  intro cs2 hR l D z ca p e s mi args below meth c H locs ls hC hS
  exact W.widen h1 h2 (h cs2 hR l D z ca p e s mi args below meth c H locs ls hC hS)
theorem n_vret (hr : mt.2.2.2 = none) (hd : Dc mt pc .return_ 1 nx) : GN mt d mc ms mc ms pc L [] cs (some cs) := by
  intro cs2 hR l D z ca p e s mi args below meth c H locs ls hC hS
  cases hR
  exact W.vret hC.1.1 hC.1.2.1 (hC.2.1.trans hr) (fun t ht hW => ⟨rfl, by rw [ht]; exact hS.1, hS.2.1.F ht⟩) hS.2.1.2.2 hd.1 hC.2.2.1
theorem n_objI {q idx : Nat} (hd : Dc mt pc (.invokespecial idx) 3 nx) (hl : Cond.methodLink mt.1.cls idx objectInit ∈ gdw) (h1 : Cond.instanceMethod objectInit ∈ gdw) (h2 : Cond.code objectInit ⟨#[0xb1]⟩ 1 none ∈ gdw) (hdd : 1 ≤ d) (h : GN mt d mc ms k n nx L [] cs R) : GN mt d mc ms k n pc L [.inr (.inr (some q))] cs R := by
  intro cs2 hR l D z ca p e s mi args below meth c H locs ls hC hS
  obtain ⟨hd, rfl⟩ := hd
  refine W.objInit hC.1.1 hC.1.2.1 hC.1.2.2.2.1 (hC.w hl) (hC.w h1) (hC.w h2) rfl (hS.2.2.1.1.trans hC.1.2.2.1.symm) rfl hd hdd ?_ ?_
  · have t : 2 * (F0 mi pc ls [Value.ref (z + q)]).monitorRoom + (([] : List Value).map fun v => v.category).sum ≤ 8 := lv_room (Nat.zero_le _)
    show 2 * (F0 mi pc ls [Value.ref (z + q)]).monitorRoom + (([] : List Value).map fun v => v.category).sum + 12 ≤ 80 * d
    omega
  · exact h cs2 hR l D z ca p e s mi args below meth c H locs ls hC hS
end Rows
