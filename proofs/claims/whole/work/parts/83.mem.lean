/-! constructors: cells that come, fields that are set, calls -/
theorem nW_push {D : va_G} {z : Nat} {ca : Nat → ClassId} {cs : List nE} {e : nE} {H H1 : Heap} (hP : va_P D vwCl (nW z ca cs) H) (hz : H.size = z + cs.length) (z1 : H1.size = z + cs.length + 1) (o1 : ∀ q, q < z + cs.length → H1[q]? = H[q]?) (hat : va_at D vwCl (z + cs.length, nCell z ca e) H1) : nWd D z ca (cs ++ [e]) H1 := by
  refine ⟨by rw [z1, List.length_append]; rfl, ?_⟩
  rw [nW_app]
  refine (hP.kept (fun k x hx => o1 x.1 (by have := (hP k x hx).lt; omega))).app (fun k x hx => ?_)
  have hk : k < 1 := (List.getElem?_eq_some_iff.mp hx).1
  rw [show k = 0 by omega] at hx
  cases hx
  exact hat
theorem nS_push {z : Nat} {H0 H H1 : Heap} {locs : List Loc} {c : Nat} (hS : va_S (fun q => z ≤ q) H0 H locs) (hz : H.size = c) (z1 : H1.size = c + 1) (o1 : ∀ q, q < c → H1[q]? = H[q]?) : va_S (fun q => z ≤ q) H0 H1 locs :=
  ⟨by have := hS.1; omega, fun x h1 h2 => (o1 x (by have := hS.1; omega)).trans (hS.2.1 x h1 h2), hS.2.2⟩
/-- a class that is made: its words -/
def Nc (own : String) (idx ci : Nat) (fs : List nV) : Prop := ∃ (C : String) (T : u_T) (N : Nat) (ty : Nat → FieldType),
  vwCl[ci]? = some (C, T, N) ∧ (∀ w ∈ u_ws C T N, w ∈ gdw) ∧ (∀ k, k < N → parseFieldDescriptor (T k).2.2.1 = some (ty k)) ∧ Cond.classLink own idx C ∈ gdw ∧ Cond.instantiable C N ∈ gdw ∧ Cond.initialized C ∈ gdw ∧ fs.length = N ∧ ∀ z j, j < N → defaultValue (ty j) = vp_V (fs.map (nev z)) j
/-- a field of the class's own that its constructor sets -/
def Fc (own : String) (idx ci k : Nat) (ty : FieldType) (fin : Bool) : Prop := ∃ (T : u_T) (N : Nat) (ty0 : Nat → FieldType),
  vwCl[ci]? = some (own, T, N) ∧ (∀ w ∈ u_ws own T N, w ∈ gdw) ∧ (∀ k, k < N → parseFieldDescriptor (T k).2.2.1 = some (ty0 k)) ∧ (∀ a, a < N → ∀ b, b < N → a ≠ b → (T a).2.1 ≠ (T b).2.1) ∧
  k < N ∧ ty0 k = ty ∧ (T k).2.2.2 = fin ∧ (T k).1 = own ∧ Cond.fieldLink own idx own (T k).2.1 (T k).2.2.1 ∈ gdw
def nput (h k ci : Nat) (v : nV) (cs : List nE) (K : List nE → nR) : nR := match cs[h]? with
  | some (.inr (.inr (c2, fs))) => if c2 = ci ∧ k < fs.length then K (cs.set h (.inr (.inr (ci, fs.set k v)))) else none
  | _ => none
def nget (h k ci : Nat) (cs : List nE) (K : Nat → nR) : nR := match cs[h]? with
  | some (.inr (.inr (c2, fs))) => match fs[k]? with
    | some (.inr (.inr (some q))) => if c2 = ci then K q else none
    | _ => none
  | _ => none
def nast (h i v kk ci : Nat) (cs : List nE) (K : List nE → nR) : nR := match cs[h]? with
  | some (.inr (.inl (k2, l))) => match cs[v]? with
    | some (.inr (.inr (c2, _))) => if k2 = kk ∧ c2 = ci ∧ i < l.length then K (cs.set h (.inr (.inl (kk, l.set i (some v))))) else none
    | _ => none
  | _ => none
theorem map_set_nev (z : Nat) (fs : List nV) (k : Nat) (v : nV) : (fs.map (nev z)).set k (nev z v) = (fs.set k v).map (nev z) := by rw [List.map_set]
def ncal (J : nR) (K : List nE → nR) : nR := match J with
  | some cs => K cs
  | none => none
section Rows
variable {mt mtf : hMt} {d df mc ms k n pc nx : Nat} {L L2 : nL} {S : List nV} {cs : List nE} {R : nR}
theorem n_newa {N kk : Nat} {x : Int32} {atype : ArrayType} (hd : Dc mt pc (.newarray atype) 2 nx) (hw : Cond.arrayClass (newarray.typeOf atype) ∈ gdw)
    (hra : ∀ (D : va_G) (ca : Nat → ClassId) (s : State), va_K D vwCl (hTy ca) s → s.vm.findClass ("[" ++ (newarray.typeOf atype).toString) = some (ca kk))
    (hcell : ∀ (z : Nat) (ca : Nat → ClassId), ∃ a0 : vp_A, nCell z ca (.inl (kk, N)) = .inl (ca kk, a0) ∧ vp_cell (ca kk) a0 = arrV (ca kk) N (fun _ => defaultValue (newarray.typeOf atype)))
    (hx : ¬ x < 0) (hN : x.toNatClampNeg = N) (hb : N * componentBytes (newarray.typeOf atype) ≤ 536870912) (hc : k + 1 ≤ mc) (hs : n + N ≤ ms)
    (h : GN mt d mc ms (k + 1) (n + N) nx L (.inr (.inr (some cs.length)) :: S) (cs ++ [.inl (kk, N)]) R) : GN mt d mc ms k n pc L (.inl x :: S) cs R := by
  intro cs2 hR l D z ca p e s mi args below meth c H locs ls hC hS
  obtain ⟨hd, rfl⟩ := hd
  refine va_newaK hC.1.1 hC.1.2.1 (hC.w hw) rfl hd rfl hx hN hb hc hs hS.1.1 fun H1 cA e1 z1 o1 hAr hNm => ?_
  have hca : cA = ca kk := Option.some.inj (hNm.symm.trans (hra D ca s hC.2.2.2.1))
  subst hca
  obtain ⟨a0, c1, c2⟩ := hcell z ca
  refine h cs2 hR l D z ca p e s mi args below meth c H1 locs ls hC ⟨nW_push hS.1.2 hS.1.1 z1 o1 ?_, nS_push hS.2.1 hS.1.1 z1 o1, hS.2.2.1, hS.2.2.2⟩
  rw [c1]
  show H1[z + cs.length]? = some (vp_cell (ca kk) a0)
  rw [c2]
  exact e1
theorem hra_I (D : va_G) (ca : Nat → ClassId) (s : State) (h : va_K D vwCl (hTy ca) s) : s.vm.findClass ("[" ++ (newarray.typeOf .int).toString) = some (ca 0) := (h.2 0 (ca 0, .int) rfl).2
theorem hra_Z (D : va_G) (ca : Nat → ClassId) (s : State) (h : va_K D vwCl (hTy ca) s) : s.vm.findClass ("[" ++ (newarray.typeOf .boolean).toString) = some (ca 1) := (h.2 1 (ca 1, .boolean) rfl).2
theorem hra_L (D : va_G) (ca : Nat → ClassId) (s : State) (h : va_K D vwCl (hTy ca) s) : s.vm.findClass ("[" ++ (newarray.typeOf .long).toString) = some (ca 4) := (h.2 4 (ca 4, .long) rfl).2
theorem n_newaI {N : Nat} {x : Int32} (hd : Dc mt pc (.newarray .int) 2 nx) (hw : Cond.arrayClass .int ∈ gdw) (hx : ¬ x < 0) (hN : x.toNatClampNeg = N) (hb : N ≤ 100000) (hc : k + 1 ≤ mc) (hs : n + N ≤ ms)
    (h : GN mt d mc ms (k + 1) (n + N) nx L (.inr (.inr (some cs.length)) :: S) (cs ++ [.inl (0, N)]) R) : GN mt d mc ms k n pc L (.inl x :: S) cs R :=
  n_newa hd hw hra_I (fun z ca => ⟨(N, .inl (fun _ => 0)), rfl, rfl⟩) hx hN (by show N * 4 ≤ _; omega) hc hs h
theorem n_newaZ {N : Nat} {x : Int32} (hd : Dc mt pc (.newarray .boolean) 2 nx) (hw : Cond.arrayClass .boolean ∈ gdw) (hx : ¬ x < 0) (hN : x.toNatClampNeg = N) (hb : N ≤ 100000) (hc : k + 1 ≤ mc) (hs : n + N ≤ ms)
    (h : GN mt d mc ms (k + 1) (n + N) nx L (.inr (.inr (some cs.length)) :: S) (cs ++ [.inl (1, N)]) R) : GN mt d mc ms k n pc L (.inl x :: S) cs R :=
  n_newa hd hw hra_Z (fun z ca => ⟨(N, .inl (fun _ => 0)), rfl, rfl⟩) hx hN (by show N * 1 ≤ _; omega) hc hs h
theorem n_anew {N kk idx : Nat} {x : Int32} {C : String} (hd : Dc mt pc (.anewarray idx) 3 nx) (hcl : Cond.classLink mt.1.cls idx C ∈ gdw) (hao : ∀ s, nAO s → va_AO C s)
    (hra : ∀ (D : va_G) (ca : Nat → ClassId) (s : State), va_K D vwCl (hTy ca) s → s.vm.findClass ("[" ++ (FieldType.object C).toString) = some (ca kk))
    (hx : ¬ x < 0) (hN : x.toNatClampNeg = N) (hb : N ≤ 100000) (hc : k + 1 ≤ mc) (hs : n + N ≤ ms)
    (h : GN mt d mc ms (k + 1) (n + N) nx L (.inr (.inr (some cs.length)) :: S) (cs ++ [.inr (.inl (kk, List.replicate N none))]) R) : GN mt d mc ms k n pc L (.inl x :: S) cs R := by
  intro cs2 hR l D z ca p e s mi args below meth c H locs ls hC hS
  obtain ⟨hd, rfl⟩ := hd
  subst hN
  refine W.anew hC.1.1 hC.1.2.1 hC.1.2.2.2.1 (hC.w hcl) (va_AO.use (hao s hC.2.2.2.2.1.2)) rfl hd rfl hx (by omega) hc hs fun cA kA comp f1 f2 f3 f4 => ?_
  have hca : cA = ca kk := Option.some.inj (f1.symm.trans (hra D ca s hC.2.2.2.1))
  subst hca
  generalize hH1 : H.push ({ cls := ca kk, slots := Array.replicate x.toNatClampNeg .null, vm := .none } : Cell) = H1
  have z1 : H1.size = z + cs.length + 1 := by rw [← hH1, Array.size_push, hS.1.1]
  have e1 : H1[H.size]? = some (arrV (ca kk) x.toNatClampNeg (fun _ => .null)) := by rw [← hH1, Array.getElem?_push_size, ← arrV_new]
  have o1 : ∀ q : Nat, q < z + cs.length → H1[q]? = H[q]? := fun q hq => by rw [← hH1, Array.getElem?_push, if_neg (by rw [hS.1.1]; omega)]
  have g := h cs2 hR l D z ca p e s mi args below meth c H1 locs ls hC ⟨nW_push hS.1.2 hS.1.1 z1 o1 ?_, nS_push hS.2.1 hS.1.1 z1 o1, hS.2.2.1, hS.2.2.2⟩
  · have e9 : (.ref H.size : Value) = nev z (.inr (.inr (some cs.length))) := by rw [hS.1.1]; rfl
    have e8 : ({ F0 mi pc ls ((Sum.inl x :: S).map (nev z)) with pc := pc + 3, stack := .ref H.size :: S.map (nev z) } : JFrame) = F0 mi (pc + 3) ls ((Sum.inr (Sum.inr (some cs.length)) :: S).map (nev z)) := by
      rw [e9]; rfl
    exact W.eq e8 g
  · show H1[z + cs.length]? = some (vp_cell (ca kk) ((List.replicate x.toNatClampNeg none).length, .inr (.inr (.inr (.inr (fun j => ((List.replicate x.toNatClampNeg none).getD j none).map (fun k => z + k)))))))
    rw [vp_cell_q, List.length_replicate, ← hS.1.1, e1]
    congr 2
    funext j
    have e0 : (List.replicate x.toNatClampNeg (none : Option Nat)).getD j none = none := by
      rw [List.getD_eq_getElem?_getD, List.getElem?_replicate]
      split <;> rfl
    rw [e0]
    rfl
theorem hra_S (D : va_G) (ca : Nat → ClassId) (s : State) (h : va_K D vwCl (hTy ca) s) : s.vm.findClass ("[" ++ (FieldType.object "HuntedEye$State").toString) = some (ca 2) := by
  obtain ⟨kA, comp, _, _, _, h4⟩ := (h.2 2 (ca 2, .object "HuntedEye$State") rfl).2
  exact h4
theorem hra_C (D : va_G) (ca : Nat → ClassId) (s : State) (h : va_K D vwCl (hTy ca) s) : s.vm.findClass ("[" ++ (FieldType.object "HuntedEye$Script").toString) = some (ca 3) := by
  obtain ⟨kA, comp, _, _, _, h4⟩ := (h.2 3 (ca 3, .object "HuntedEye$Script") rfl).2
  exact h4
theorem n_new {idx ci : Nat} {fs : List nV} (hd : Dc mt pc (.new idx) 3 nx) (hc : Nc mt.1.cls idx ci fs) (hk : k + 1 ≤ mc) (hn : n + fs.length ≤ ms)
    (h : GN mt d mc ms (k + 1) (n + fs.length) nx L (.inr (.inr (some cs.length)) :: S) (cs ++ [.inr (.inr (ci, fs))]) R) : GN mt d mc ms k n pc L S cs R := by
  intro cs2 hR l D z ca p e s mi args below meth c H locs ls hC hS
  obtain ⟨hd, rfl⟩ := hd
  obtain ⟨C, T, N, ty, h1, h2, h3, h4, h5, h6, rfl, h8⟩ := hc
  have hKn := hC.2.2.2.1.1 ci _ h1
  refine W.newcK hC.1.1 hC.1.2.1 hC.1.2.2.2.1 (hC.w h4) (hC.w h5) (hC.w h6) rfl hd hk hn hKn.2.1 hS.1.1 fun H1 kC hkC e1 z1 o1 => ?_
  refine h cs2 hR l D z ca p e s mi args below meth c H1 locs ls hC ⟨nW_push hS.1.2 hS.1.1 z1 o1 ?_, nS_push hS.2.1 hS.1.1 z1 o1, hS.2.2.1, hS.2.2.2⟩
  exact ⟨_, h1, (u_born ty (ws := gdw) (fun w hw => hC.w hw) h2 hKn hkC e1 h3).to (h8 z)⟩
theorem n_put {idx ci h0 k0 : Nat} {ty : FieldType} {fin : Bool} {v : nV} {K : List nE → nR} (hd : Dc mt pc (.putfield idx) 3 nx) (hf : Fc mt.1.cls idx ci k0 ty fin) (hn1 : ∀ z, narrow ty (nev z v) = nev z v) (hfit : ∀ z, fits ty (nev z v) = true)
    (h : ∀ cs1, GN mt d mc ms k n nx L S cs1 (K cs1)) : GN mt d mc ms k n pc L (v :: .inr (.inr (some h0)) :: S) cs (nput h0 k0 ci v cs K) := by
  intro cs2 hR l D z ca p e s mi args below meth c H locs ls hC hS
  obtain ⟨hd, rfl⟩ := hd
  obtain ⟨T, N, ty0, h1, h2, h3, h4, h5, h6, h7, h8, h9⟩ := hf
  unfold nput at hR
  split at hR
  · rename_i c2 fs hcs
    split at hR
    · rename_i hq
      obtain ⟨rfl, hk⟩ := hq
      have he := nW_at (z := z) (ca := ca) hcs
      have hde : parseFieldDescriptor (T k0).2.2.1 = some ty := by rw [← h6]; exact h3 k0 h5
      have fin2 : ∀ (H1 : Heap) (locs1 : List Loc), va_P D vwCl ((nW z ca cs).set h0 (z + h0, .inr (c2, (fs.map (nev z)).set k0 (nev z v)))) H1 → va_D (fun q => z ≤ q) ((nW z ca cs).set h0 (z + h0, .inr (c2, (fs.map (nev z)).set k0 (nev z v)))) → va_S (fun q => z ≤ q) s.heap H1 locs1 → H1.size = H.size → W p l e (nRm d mc ms) s mi args below meth c H1 locs1 k n (MQ below (NQ D z ca cs2) args s mc ms (fun q => z ≤ q)) (F0 mi (pc + 3) ls (S.map (nev z))) := by
        intro H1 locs1 hP1 _ hS1 hsz
        rw [map_set_nev, show (Sum.inr (c2, (fs.set k0 v).map (nev z)) : va_E) = nCell z ca (.inr (.inr (c2, fs.set k0 v))) from rfl, nW_set] at hP1
        exact h _ cs2 hR l D z ca p e s mi args below meth c H1 locs1 ls hC ⟨⟨by rw [hsz, hS.1.1, List.length_set], hP1⟩, hS1, hS.2.2.1, hS.2.2.2⟩
      have hts : ∀ w ∈ gdw, w.before args s = true := fun w hw => hC.w hw
      have hK := hC.2.2.2.1
      have hP := hS.1.2
      have hD := nW_D z ca cs
      have hap := va_apart (own := mt.1.cls) hts h2 ty0 h3 h4 hK h1
      obtain ⟨r, r1, cell, q1, q2, q3, q4⟩ := hP h0 _ he
      have hr : r = (mt.1.cls, T, N) := Option.some.inj (r1.symm.trans h1)
      subst hr
      obtain ⟨hSl, hfc, kC, hkC, hkind⟩ := hK.1 c2 _ h1
      obtain ⟨cf, kf, fi, f, hi, hsl⟩ := hSl k0 h5
      have hlay := hts _ (h2 _ (u_in_lay h5))
      unfold u_lay at hlay
      have hst := (u_facts hfc hkC (u_lays hts h2 h5) hi).1
      have hsame : s.fieldFound? mt.1.cls (T k0).2.1 (T k0).2.2.1 = some (cf, kf, fi, f) := by rw [h8] at hi; exact hi
      have hl : k0 < (fs.map (nev z)).length := by rw [List.length_map]; exact hk
      cases fin with
      | false =>
        rw [if_neg (by rw [h7]; decide)] at hlay
        have w6 := u_store hfc hkC hkind hlay hi hde (hn1 z) (hfit z)
        refine W.putK hC.1.1 hC.1.2.1 (f := f) ⟨hC.1.2.2.2.1, hC.w h9, ⟨_, _, _, hsame⟩, hst⟩ (by rw [q2]; exact w6) q1 q3 (by rw [hsl]; exact k2_hasslot (q4 k0 h5)) rfl rfl hd fun H' e1 e2 e3 => ?_
        rw [hsl] at e1 ⊢
        exact fin2 H' _ (hP.set hD he ⟨_, h1, t_OB.to (V := updV (vp_V (fs.map (nev z))) k0 (nev z v)) ⟨_, e1, q2, q3, t_set q4 hap h5 (nev z v)⟩ (fun j _ => vp_updV_set hl (nev z v) j)⟩ e3) (hD.set he) (hS.2.1.put e2 e3 (hD.2 h0 _ he)) e2
      | true =>
        rw [if_pos h7] at hlay
        have hcf : mi.cls = cf := by
          obtain ⟨_, _, c', _, _, _, -, -, hf', -, -, -, hown2, -⟩ := Cond.laysFinal_spec hlay
          have e1 : c' = cf := by have := hi.symm.trans hf'; simp at this; exact this.1.symm
          rw [h8] at hown2
          rw [← e1]; exact Option.some.inj (hC.1.2.2.2.1.symm.trans hown2)
        have w6 := u_fits hfc hkC hkind (Or.inr hlay) hi hde (hn1 z) (hfit z)
        refine W.putFinK hC.1.1 hC.1.2.1 hC.1.2.2.2.1 (hC.w h9) hsame hst hcf hC.2.2.2.2.2 (by rw [q2]; exact w6) q1 q3 (by rw [hsl]; exact k2_hasslot (q4 k0 h5)) rfl rfl hd fun H' e1 e2 e3 => ?_
        rw [hsl] at e1 ⊢
        exact fin2 H' _ (hP.set hD he ⟨_, h1, t_OB.to (V := updV (vp_V (fs.map (nev z))) k0 (nev z v)) ⟨_, e1, q2, q3, t_set q4 hap h5 (nev z v)⟩ (fun j _ => vp_updV_set hl (nev z v) j)⟩ e3) (hD.set he) (hS.2.1.put e2 e3 (hD.2 h0 _ he)) e2
    · cases hR
  · cases hR
theorem n_get {idx ci h0 k0 : Nat} {ty : FieldType} {fin : Bool} {K : Nat → nR} (hd : Dc mt pc (.getfield idx) 3 nx) (hf : Fc mt.1.cls idx ci k0 ty fin)
    (h : ∀ q, GN mt d mc ms k n nx L (.inr (.inr (some q)) :: S) cs (K q)) : GN mt d mc ms k n pc L (.inr (.inr (some h0)) :: S) cs (nget h0 k0 ci cs K) := by
  intro cs2 hR l D z ca p e s mi args below meth c H locs ls hC hS
  obtain ⟨hd, rfl⟩ := hd
  obtain ⟨T, N, ty0, h1, h2, h3, h4, h5, h6, h7, h8, h9⟩ := hf
  unfold nget at hR
  split at hR
  · rename_i c2 fs hcs
    split at hR
    · rename_i q hfq
      split at hR
      · rename_i hq
        subst hq
        have he := nW_at (z := z) (ca := ca) hcs
        exact va_get (ref := mt.1.cls) hC.1.1 hC.1.2.1 (Ts := gdw) (fun w hw => hC.w hw) h2 hC.1.2.2.2.1 hC.2.2.2.1 hS.1.2 h0 he h1 k0 h5 (hC.w h9) (by rw [h8]; exact fun _ x => x) (v := nev z (.inr (.inr (some q)))) (by rw [List.getElem?_map, hfq]; rfl) hd (h q cs2 hR l D z ca p e s mi args below meth c H locs ls hC hS)
      · cases hR
    · cases hR
  · cases hR
theorem n_ast {h0 i v kk ci : Nat} {x : Int32} {C : String} {K : List nE → nR} (hd : Dc mt pc .aastore 1 nx) (hx : x = nI i) (hi : i < 100000) (hty : ∀ ca, (hTy ca)[kk]? = some (ca kk, .object C)) (hc1 : ∃ T N, vwCl[ci]? = some (C, T, N))
    (h : ∀ cs1, GN mt d mc ms k n nx L S cs1 (K cs1)) : GN mt d mc ms k n pc L (.inr (.inr (some v)) :: .inl x :: .inr (.inr (some h0)) :: S) cs (nast h0 i v kk ci cs K) := by
  intro cs2 hR l D z ca p e s mi args below meth c H locs ls hC hS
  obtain ⟨hd, rfl⟩ := hd
  subst hx
  obtain ⟨T, N, hc1⟩ := hc1
  unfold nast at hR
  split at hR
  · rename_i k2 l2 hcs
    split at hR
    · rename_i c2 vs hcv
      split at hR
      · rename_i hq
        obtain ⟨rfl, rfl, hil⟩ := hq
        have hP := hS.1.2
        have hD := nW_D z ca cs
        have hK := hC.2.2.2.1
        have ha := nW_at (z := z) (ca := ca) hcs
        have hv := nW_at (z := z) (ca := ca) hcv
        have ic : (nI i).toNatClampNeg = i := nI_clamp (by omega)
        obtain ⟨r', hr', cellV, g1, g2, g3, -⟩ := hP v _ hv
        have hcls := (hK.1 c2 (C, T, N) hc1).2
        obtain ⟨kA, comp, k1, k3, k4, -⟩ := (hK.2 k2 _ (hty ca)).2
        have hcomp : comp = D.1 c2 := Option.some.inj (k4.symm.trans hcls.1)
        subst hcomp
        obtain ⟨kC, hkC, -⟩ := hcls.2
        refine W.aast hC.1.1 hC.1.2.1 (hP h0 _ ha) (fun q h => by cases h) (fun h => by cases h) k1 k3 rfl hkC ⟨nI_pos (by omega), by show _ < (arrV _ _ _).slots.size; rw [arrV_size, ic]; exact hil⟩ g1 (fun q h => by rw [g3] at h; cases h) (by rw [g2]; exact hkC) (by rw [g2]; exact va_assign hcls) rfl rfl hd fun H1 e1 z1 oq => ?_
        have hP1 : va_P D vwCl (nW z ca (cs.set h0 (.inr (.inl (k2, l2.set i (some v)))))) H1 := by
          rw [← nW_set]
          refine hP.set hD ha ?_ oq
          show H1[z + h0]? = some (vp_cell (ca k2) ((l2.set i (some v)).length, .inr (.inr (.inr (.inr (fun j => ((l2.set i (some v)).getD j none).map (fun k => z + k)))))))
          rw [e1]
          rw [vp_cell_q, vp_cell_q, arrV_store, List.length_set]
          congr 2
          funext j
          rw [ic]
          by_cases hj : j = i
          · subst hj
            rw [List.getD_eq_getElem?_getD, List.getElem?_set, if_pos rfl, if_pos hil]
            simp [updV, va_rf]
          · rw [List.getD_eq_getElem?_getD, List.getElem?_set, if_neg (fun y => hj y.symm), ← List.getD_eq_getElem?_getD]
            simp [updV, hj]
        have hS1 : va_S (fun q => z ≤ q) s.heap H1 (locs ++ [⟨z + h0, (nI i).toNatClampNeg⟩]) := hS.2.1.put z1 oq (Nat.le_add_right z h0)
        exact h _ cs2 hR l D z ca p e s mi args below meth c H1 _ ls hC ⟨⟨by rw [z1, hS.1.1, List.length_set], hP1⟩, hS1, hS.2.2.1, hS.2.2.2⟩
      · cases hR
    · cases hR
  · cases hR
end Rows
