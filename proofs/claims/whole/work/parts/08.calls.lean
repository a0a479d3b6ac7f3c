/-! calls -/
def calI (q : hR) (k : Int32 → hM → hR) : hR := match q with
  | some (some (.inl x), m1) => k x m1
  | _ => none
def calL (q : hR) (k : Int64 → hM → hR) : hR := match q with
  | some (some (.inr (.inl x)), m1) => k x m1
  | _ => none
def calV (q : hR) (k : hM → hR) : hR := match q with
  | some (none, m1) => k m1
  | _ => none
def calA (t0 : Nat) (q : hR) (k : Nat → hM → hR) : hR := match q with
  | some (some (.inr (.inr (t, n))), m1) => if t = t0 ∧ n < sCnt t0 then k n m1 else none
  | _ => none
theorem h_call {p : Program} {l : Launch} {e : Env} {R : Room} {s : State} {mi : MethodId} {args : Array Value} {below : List Frame} {meth : Method} {c : Code} {H : Heap} {locs : List Loc} {pc : Nat} {ls : Array Slot} {st0 rest : List Value} {D : va_G} {ad : Nat → Nat → Nat} {ca : Nat → ClassId} {r : Option hV} {m1 : hM} {a : Array Value} {Q : State → Prop}
    (hr : va_Run p l e R s mi args below meth c H locs 0 0 0 0 (F0 mi pc ls st0) rest (hQ D ad ca r m1 a) (hA ad)) (hS : va_S (hA ad) s.heap H locs)
    (kk : ∀ (H1 : Heap) (locs1 : List Loc), va_P D vwCl (emb ad ca m1) H1 → va_S (hA ad) s.heap H1 locs1 → W p l e R s mi args below meth c H1 locs1 0 0 Q (F0 mi (pc + 3) ls ((r.map (ev ad)).toList ++ rest))) : W p l e R s mi args below meth c H locs 0 0 Q (F0 mi pc ls st0) := by
  intro T hT X
  obtain ⟨v, st₀, t, T', Lx, h0, X', hL, e1, e2, ⟨hv, hp, hz, hk⟩, st⟩ := hr T hT X
  cases hv
  rw [h0] at hz hk
  obtain ⟨t2, a1, b1⟩ := kk T'.heap (locs ++ Lx) (by rw [e1]; exact hp)
    ⟨Nat.le_trans hS.1 (by rw [e1]; exact hz), fun q h1 h2 => by rw [e1, hk q (Nat.lt_of_lt_of_le h1 hS.1) h2]; exact hS.2.1 q h1 h2, fun q hq => by
      rcases List.mem_append.mp hq with h | h
      · exact hS.2.2 q h
      · exact hL q h⟩ T' rfl X'
  exact ⟨t2, st t2 a1, b1⟩
/-- a call that goes: which arguments, what stays on the stack -/
def Ck (mt : hMt) (d pc nx : Nat) (S0 S as : List hV) (mtf : hMt) (df : Nat) : Prop := (pc + 3 = nx ∧ (∀ v ∈ as, v ∈ S0) ∧ ∀ v ∈ S, v ∈ S0) ∧
  ∀ (L : hL) (m : hM) (l : Launch) (D : va_G) (ad : Nat → Nat → Nat) (ca : Nat → ClassId) (p : Program) (e : Env) (s : State) (mi : MethodId) (args : Array Value) (below : List Frame) (meth : Method) (c : Code) (H : Heap) (locs : List Loc) (ls : Array Slot) (r : Option hV) (m1 : hM),
    HC mt D ad ca p s mi args meth c → HS mt D ad ca s m L S0 H locs ls → Met l mtf.1 (hWs mtf) (hRm df) (va_Pc (as.map (ev ad)) (hWd D ad ca m)) (hQ D ad ca r m1) 0 0 (hA ad) →
    va_Run p l e (hRm d) s mi args below meth c H locs 0 0 0 0 (F0 mi pc ls (S0.map (ev ad))) (S.map (ev ad)) (hQ D ad ca r m1 (as.map (ev ad)).toArray) (hA ad)
def Mi (mt : hMt) : Prop := Cond.code mt.1 mt.2.1 mt.2.2.1 mt.2.2.2 ∈ gdw ∧ Cond.initialized mt.1.cls ∈ gdw ∧ mt.1.cls ≠ "java/lang/invoke/MethodHandle" ∧ mt.1.cls ≠ "java/lang/invoke/VarHandle" ∧ 8 + (mt.2.2.1 + 11) ≤ 80
def MiV (mt : hMt) : Prop := Mi mt ∧ Cond.instanceMethod mt.1 ∈ gdw ∧ Cond.selects mt.1.cls mt.1 mt.1 ∈ gdw
def MiS (mt : hMt) : Prop := Mi mt ∧ Cond.static mt.1 ∈ gdw
def Lk (own : String) (idx : Nat) (mtf : hMt) : Prop := Cond.methodLink own idx mtf.1 ∈ gdw ∨ (own, idx, mtf.1) ∈ nwM
/-- the receiver is of that class -/
def Rc (t : Nat) (C : String) : Prop := ∀ (o : Nat) (D : va_G) (ad : Nat → Nat → Nat) (ca : Nat → ClassId) (m : hM) (s : State) (H : Heap) (locs : List Loc), o < sCnt t → va_K D vwCl (hTy ca) s → va_P D vwCl (emb ad ca m) H → hZ ad (hA ad) s s.heap → va_S (hA ad) s.heap H locs → ∃ cell : Cell, H[ad t o]? = some cell ∧ cell.vm.isStatics = false ∧ s.vm.findClass C = some cell.cls
theorem rc_ob {t ci : Nat} {C : String} {T : u_T} {N : Nat} (ht : t < 61) (h1 : sCls t = some ci) (h2 : vwCl[ci]? = some (C, T, N)) : Rc t C := by
  intro o D ad ca m s H locs ho hK hP hz hS
  obtain ⟨q, e1, e2⟩ := emb_at ad ca m ht ho
  rw [hCell_ob h1] at e2
  exact va_recv hK hP h2 e2
theorem hWs_good (mt mtf : hMt) (h : Cond.code mtf.1 mtf.2.1 mtf.2.2.1 mtf.2.2.2 ∈ gdw) : GoodIn (hWs mt) (hWs mtf) := by
  intro w hw
  have hg : w ∈ gdw := by
    rcases List.mem_cons.mp hw with rfl | hw
    · exact h
    · exact hw
  exact ⟨List.mem_cons_of_mem _ hg, good_of_word (gdw_good hg)⟩
theorem hPc_blind {as : List hV} {D : va_G} {ad : Nat → Nat → Nat} {ca : Nat → ClassId} {m : hM} : FrameBlind (va_Pc (as.map (ev ad)) (hWd D ad ca m)) := by
  intro a U g mk h
  obtain ⟨h1, h2, h3, h4, h5⟩ := h
  exact ⟨h1, h2, va_K.moved (u := U) (U := U.calling g mk a) (Vm.Alike.refl U.vm) h3, h4, hZ_same (s := U) (U := U.calling g mk a) rfl h5⟩
theorem hPc_at {mt : hMt} {D : va_G} {ad : Nat → Nat → Nat} {ca : Nat → ClassId} {p : Program} {s : State} {mi : MethodId} {args : Array Value} {meth : Method} {c : Code} {m : hM} {L : hL} {S : List hV} {H : Heap} {locs : List Loc} {ls : Array Slot} (as : List hV) (hC : HC mt D ad ca p s mi args meth c) (hS : HS mt D ad ca s m L S H locs ls) (U : State) (hU : U.heap = H) (hW : s.WarmedH U.vm) : va_Pc (as.map (ev ad)) (hWd D ad ca m) (as.map (ev ad)).toArray U :=
  ⟨rfl, by rw [hU]; exact hS.1, va_K.moved hW.alike hC.2.2.2.1, hS.2.1, by rw [hU]; exact hZ_warm hW (hZ_kept hC.2.2.2.2 hS.2.2.1.2.1)⟩
theorem cat_room {mi : MethodId} {pc : Nat} {ls : Array Slot} {st : List Value} (ad : Nat → Nat → Nat) {S : List hV} (h : (S.map vcat).sum ≤ 8) : 2 * (F0 mi pc ls st).monitorRoom + ((S.map (ev ad)).map fun v => v.category).sum ≤ 8 := lv_room (by rw [ev_cats]; exact h)
theorem ck_V {mt mtf : hMt} {d df pc nx idx n t o : Nat} {S0 S As : List hV} (hd : Dc mt pc (.invokevirtual idx) 3 nx) (hM : MiV mtf) (hl : Lk mt.1.cls idx mtf) (hrc : Rc t mtf.1.cls) (hS0 : S0 = As.reverse ++ .inr (.inr (t, o)) :: S) (hp : (parseMethodDescriptor mtf.1.desc).map (fun d => d.parameters.length) = some n) (hn : As.length = n) (hdf : df + 1 ≤ d) (hst : (S.map vcat).sum ≤ 8) : Ck mt d pc nx S0 S (.inr (.inr (t, o)) :: As) mtf df := by
  refine ⟨⟨hd.2, fun v hv => ?_, fun v hv => ?_⟩, ?_⟩
  · rw [hS0]
    rcases List.mem_cons.mp hv with rfl | hv
    · exact List.mem_append_right _ List.mem_cons_self
    · exact List.mem_append_left _ (List.mem_reverse.mpr hv)
  · rw [hS0]
    exact List.mem_append_right _ (List.mem_cons_of_mem _ hv)
  · intro L m l D ad ca p e s mi args below meth c H locs ls r m1 hC hS hMet
    have ho : o < sCnt t := by
      have := hS.2.2.2.2.2 (.inr (.inr (t, o))) (by rw [hS0]; exact List.mem_append_right _ List.mem_cons_self)
      exact this
    have hR : (hRm df).frames + 1 ≤ (hRm d).frames ∧ 8 + (mtf.2.2.1 + 11) + (hRm df).locals ≤ (hRm d).locals := ⟨hdf, by
      have h1 := hM.1.2.2.2.2
      show 8 + (mtf.2.2.1 + 11) + 80 * df ≤ 80 * d
      omega⟩
    have hpre : PreV s H mtf.1.cls (ad t o) (va_Pc (((.inr (.inr (t, o)) : hV) :: As).map (ev ad)) (hWd D ad ca m)) (As.map (ev ad)) := ⟨hPc_blind, hrc o D ad ca m s H locs ho hC.2.2.2.1 hS.1 hC.2.2.2.2 hS.2.2.1, fun U hU hW => hPc_at _ hC hS U hU hW⟩
    have hstk : S0.map (ev ad) = (As.map (ev ad)).reverse ++ .ref (ad t o) :: S.map (ev ad) := by rw [hS0, List.map_append, List.map_reverse]; rfl
    have hlen : (As.map (ev ad)).length = n := by rw [List.length_map]; exact hn
    have hsz : (F0 mi pc ls (S0.map (ev ad))).locals.size = mt.2.2.1 := hS.2.2.2.1.1
    have hini : (Cond.initialized mtf.1.cls).before args s = true := hC.w hM.1.2.1
    rcases hl with hl | hl
    · exact va_runV (C := mtf.1.cls) hC.1 hMet ⟨callB_of n hC.1.2.2.2.2 (hWs_good mt mtf hM.1.1) rfl rfl rfl hini (hC.w hl) ⟨hM.1.2.2.1, hM.1.2.2.2.1, hp⟩ hR, hC.w hM.2.1, hC.w hM.2.2⟩ hpre rfl hlen hsz hstk (cat_room ad hst) hd.1 ⟨Nat.zero_le _, Nat.zero_le _⟩
    · exact va_runVN (C := mtf.1.cls) (host := "HuntedEye") hC.1 hMet ⟨va_cnB n hC.1.2.2.2.2 (hWs_good mt mtf hM.1.1) rfl rfl rfl (hC.2.2.2.2.1.2 _ hl) hini ⟨hM.1.2.2.1, hM.1.2.2.2.1, hp⟩ hR, hC.w hM.2.1, hC.w hM.2.2⟩ hpre rfl hlen hsz hstk (cat_room ad hst) hd.1 ⟨Nat.zero_le _, Nat.zero_le _⟩
theorem ck_S {mt mtf : hMt} {d df pc nx idx n : Nat} {S0 S As : List hV} (hd : Dc mt pc (.invokestatic idx) 3 nx) (hM : MiS mtf) (hl : Lk mt.1.cls idx mtf) (hS0 : S0 = As.reverse ++ S) (hp : (parseMethodDescriptor mtf.1.desc).map (fun d => d.parameters.length) = some n) (hn : As.length = n) (hdf : df + 1 ≤ d) (hst : (S.map vcat).sum ≤ 8) : Ck mt d pc nx S0 S As mtf df := by
  refine ⟨⟨hd.2, fun v hv => ?_, fun v hv => ?_⟩, ?_⟩
  · rw [hS0]
    exact List.mem_append_left _ (List.mem_reverse.mpr hv)
  · rw [hS0]
    exact List.mem_append_right _ hv
  · intro L m l D ad ca p e s mi args below meth c H locs ls r m1 hC hS hMet
    have hR : (hRm df).frames + 1 ≤ (hRm d).frames ∧ 8 + (mtf.2.2.1 + 11) + (hRm df).locals ≤ (hRm d).locals := ⟨hdf, by
      have h1 := hM.1.2.2.2.2
      show 8 + (mtf.2.2.1 + 11) + 80 * df ≤ 80 * d
      omega⟩
    have hpre : PreS s H (va_Pc (As.map (ev ad)) (hWd D ad ca m)) (As.map (ev ad)) := ⟨hPc_blind, fun U hU hW => hPc_at _ hC hS U hU hW⟩
    have hstk : S0.map (ev ad) = (As.map (ev ad)).reverse ++ S.map (ev ad) := by rw [hS0, List.map_append, List.map_reverse]
    have hlen : (As.map (ev ad)).length = n := by rw [List.length_map]; exact hn
    have hsz : (F0 mi pc ls (S0.map (ev ad))).locals.size = mt.2.2.1 := hS.2.2.2.1.1
    have hini : (Cond.initialized mtf.1.cls).before args s = true := hC.w hM.1.2.1
    rcases hl with hl | hl
    · exact va_runS hC.1 hMet ⟨callB_of n hC.1.2.2.2.2 (hWs_good mt mtf hM.1.1) rfl rfl rfl hini (hC.w hl) ⟨hM.1.2.2.1, hM.1.2.2.2.1, hp⟩ hR, hC.w hM.2⟩ hpre rfl hlen hsz hstk (cat_room ad hst) hd.1 ⟨Nat.zero_le _, Nat.zero_le _⟩
    · exact va_runSN (host := "HuntedEye") hC.1 hMet ⟨va_cnB n hC.1.2.2.2.2 (hWs_good mt mtf hM.1.1) rfl rfl rfl (hC.2.2.2.2.1.2 _ hl) hini ⟨hM.1.2.2.1, hM.1.2.2.2.1, hp⟩ hR, hC.w hM.2, trivial⟩ hpre rfl hlen hsz hstk (cat_room ad hst) hd.1 ⟨Nat.zero_le _, Nat.zero_le _⟩
section Rows
variable {mt mtf : hMt} {d df pc nx : Nat} {L : hL} {S0 S as : List hV} {m : hM} {J : hR}
/-- behind the call: the locals as they were, the memory as the callee left it -/
theorem HS.beh {D : va_G} {ad : Nat → Nat → Nat} {ca : Nat → ClassId} {s : State} {H H1 : Heap} {locs locs1 : List Loc} {ls : Array Slot} {m1 : hM} (hS : HS mt D ad ca s m L S0 H locs ls) (hs : ∀ v ∈ S, v ∈ S0) (h1 : va_P D vwCl (emb ad ca m1) H1) (h2 : va_S (hA ad) s.heap H1 locs1) : HS mt D ad ca s m1 L S H1 locs1 ls :=
  ⟨h1, emb_addr ad ca m m1 hS.2.1, h2, hS.2.2.2.1, hS.2.2.2.2.1, fun v hv => hS.2.2.2.2.2 v (hs v hv)⟩
theorem g_calI {k : Int32 → hM → hR} (ck : Ck mt d pc nx S0 S as mtf df) (cn : Cn mtf df as m J) (h : ∀ x m1, G mt d nx L (.inl x :: S) m1 (k x m1)) : G mt d pc L S0 m (calI J k) := by
  intro r m2 hR l D ad ca p e s mi args below meth c H locs ls hC hS
  obtain ⟨⟨rfl, hc1, hc2⟩, ck⟩ := ck
  unfold calI at hR
  split at hR
  · rename_i x m1
    refine h_call (ck L m l D ad ca p e s mi args below meth c H locs ls (some (.inl x)) m1 hC hS (cn _ _ rfl (fun v hv => hS.2.2.2.2.2 v (hc1 v hv)) l D ad ca)) hS.2.2.1 (fun H1 locs1 hP1 hS1 => ?_)
    exact h x m1 r m2 hR l D ad ca p e s mi args below meth c H1 locs1 ls hC ((hS.beh hc2 hP1 hS1).pi x)
  · cases hR
theorem g_calL {k : Int64 → hM → hR} (ck : Ck mt d pc nx S0 S as mtf df) (cn : Cn mtf df as m J) (h : ∀ x m1, G mt d nx L (.inr (.inl x) :: S) m1 (k x m1)) : G mt d pc L S0 m (calL J k) := by
  intro r m2 hR l D ad ca p e s mi args below meth c H locs ls hC hS
  obtain ⟨⟨rfl, hc1, hc2⟩, ck⟩ := ck
  unfold calL at hR
  split at hR
  · rename_i x m1
    refine h_call (ck L m l D ad ca p e s mi args below meth c H locs ls (some (.inr (.inl x))) m1 hC hS (cn _ _ rfl (fun v hv => hS.2.2.2.2.2 v (hc1 v hv)) l D ad ca)) hS.2.2.1 (fun H1 locs1 hP1 hS1 => ?_)
    exact h x m1 r m2 hR l D ad ca p e s mi args below meth c H1 locs1 ls hC ((hS.beh hc2 hP1 hS1).pl x)
  · cases hR
theorem g_calV {k : hM → hR} (ck : Ck mt d pc nx S0 S as mtf df) (cn : Cn mtf df as m J) (h : ∀ m1, G mt d nx L S m1 (k m1)) : G mt d pc L S0 m (calV J k) := by
  intro r m2 hR l D ad ca p e s mi args below meth c H locs ls hC hS
  obtain ⟨⟨rfl, hc1, hc2⟩, ck⟩ := ck
  unfold calV at hR
  split at hR
  · rename_i m1
    refine h_call (ck L m l D ad ca p e s mi args below meth c H locs ls none m1 hC hS (cn _ _ rfl (fun v hv => hS.2.2.2.2.2 v (hc1 v hv)) l D ad ca)) hS.2.2.1 (fun H1 locs1 hP1 hS1 => ?_)
    exact h m1 r m2 hR l D ad ca p e s mi args below meth c H1 locs1 ls hC (hS.beh hc2 hP1 hS1)
  · cases hR
theorem g_calA {t0 : Nat} {k : Nat → hM → hR} (ck : Ck mt d pc nx S0 S as mtf df) (cn : Cn mtf df as m J) (h : ∀ x m1, G mt d nx L (.inr (.inr (t0, x)) :: S) m1 (k x m1)) : G mt d pc L S0 m (calA t0 J k) := by
  intro r m2 hR l D ad ca p e s mi args below meth c H locs ls hC hS
  obtain ⟨⟨rfl, hc1, hc2⟩, ck⟩ := ck
  unfold calA at hR
  split at hR
  · rename_i t n m1
    split at hR
    · rename_i hq
      obtain ⟨rfl, hq⟩ := hq
      refine h_call (ck L m l D ad ca p e s mi args below meth c H locs ls (some (.inr (.inr (t, n)))) m1 hC hS (cn _ _ rfl (fun v hv => hS.2.2.2.2.2 v (hc1 v hv)) l D ad ca)) hS.2.2.1 (fun H1 locs1 hP1 hS1 => ?_)
      exact h n m1 r m2 hR l D ad ca p e s mi args below meth c H1 locs1 ls hC ((hS.beh hc2 hP1 hS1).pu hq)
    · cases hR
  · cases hR
/-- System.arraycopy over ints -/
def acp (m : hM) (t0 n0 : Nat) (sp : Int32) (t1 n1 : Nat) (dp n : Int32) (K : hM → hR) : hR :=
  if (iaOK t0 = true ∧ iaOK t1 = true) ∧ ¬ sp < 0 ∧ ¬ dp < 0 ∧ ¬ n < 0 ∧ sp.toNatClampNeg + n.toNatClampNeg ≤ sLen t0 n0 ∧ dp.toNatClampNeg + n.toNatClampNeg ≤ sLen t1 n1 then K (uR m t1 n1 (va_cpy (m.1 t0 n0) (m.1 t1 n1) sp.toNatClampNeg dp.toNatClampNeg n.toNatClampNeg)) else none
theorem uR_row (m : hM) (t n : Nat) (f : Nat → Int32) : (uR m t n f).1 t n = f := by
  funext c
  exact if_pos ⟨rfl, rfl⟩
def acW : Prop := Cond.native arraycopyName ∈ gdw ∧ Cond.static arraycopyName ∈ gdw ∧ Cond.initialized "java/lang/System" ∈ gdw
theorem g_acp {t0 n0 t1 n1 idx : Nat} {sp dp n : Int32} {K : hM → hR} (hd : Dc mt pc (.invokestatic idx) 3 nx) (hl : Cond.methodLink mt.1.cls idx arraycopyName ∈ gdw) (hw : acW) (hdd : 1 ≤ d) (hst : (S.map vcat).sum ≤ 8) (h : ∀ m1, G mt d nx L S m1 (K m1)) : G mt d pc L (.inl n :: .inl dp :: .inr (.inr (t1, n1)) :: .inl sp :: .inr (.inr (t0, n0)) :: S) m (acp m t0 n0 sp t1 n1 dp n K) := by
  intro r m2 hR l D ad ca p e s mi args below meth c H locs ls hC hS
  obtain ⟨hd, rfl⟩ := hd
  unfold acp at hR
  split at hR
  · rename_i hc
    obtain ⟨⟨hc0, hc1⟩, h1, h2, h3, h4, h5⟩ := hc
    have hn1 : n1 < sCnt t1 := hS.tl.tl.hd
    have hn0 : n0 < sCnt t0 := hS.tl.tl.tl.tl.hd
    obtain ⟨q0, e0, f0⟩ := emb_at ad ca m (iaOK_lt hc0) hn0
    obtain ⟨q1, e1, f1⟩ := emb_at ad ca m (iaOK_lt hc1) hn1
    rw [hCell_ia hc0] at f0
    rw [hCell_ia hc1] at f1
    refine va_copyi hC.1.1 hC.1.2.1 (hC.1.2.2.1.trans hS.2.2.2.1.1.symm) hC.1.2.2.2.1 (hC.w hl) (hC.w hw.1) (hC.w hw.2.1) (hC.w hw.2.2) hC.2.2.2.1 hS.1 hS.2.1 hS.2.2.1 q0 q1 0 0 f0 f1 (ty := .int) rfl rfl rfl h1 h2 h3 h4 h5 (fun _ _ => rfl) hdd ?_ hd (fun H1 locs1 hP1 _ hS1 => ?_)
    · rw [ev_cats]
      have e9 : nativeFrameWords "java/lang/System" "arraycopy" 5 + 11 ≤ 72 := by decide
      show _ ≤ 80 * d
      omega
    · have e2 : (emb ad ca m).set q1 (ad t1 n1, .inl (ca 0, sLen t1 n1, .inl (va_cpy (m.1 t0 n0) (m.1 t1 n1) sp.toNatClampNeg dp.toNatClampNeg n.toNatClampNeg))) = emb ad ca (uR m t1 n1 (va_cpy (m.1 t0 n0) (m.1 t1 n1) sp.toNatClampNeg dp.toNatClampNeg n.toNatClampNeg)) := by
        rw [← emb_set ad ca m (uR m t1 n1 (va_cpy (m.1 t0 n0) (m.1 t1 n1) sp.toNatClampNeg dp.toNatClampNeg n.toNatClampNeg)) hS.2.1 e1 (fun q2 z => hCell_uR q2 z), hCell_ia hc1, uR_row]
      rw [e2] at hP1
      exact h _ r m2 hR l D ad ca p e s mi args below meth c H1 locs1 ls hC (hS.tl.tl.tl.tl.tl.me hP1 hS1)
  · cases hR
end Rows
