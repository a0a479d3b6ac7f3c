/-! calls of the world's methods, from any room -/
def Kx (p : Program) (mi : MethodId) (c : Code) (cc : ByteArray) (nL : Nat) (s : State) (args : Array Value) (Ts : List Cond) (own : String) (D : va_G) (ad : Nat → Nat → Nat) (ca : Nat → ClassId) : Prop :=
  CallFix p mi c cc nL s args Ts own ∧ (∀ w ∈ gdw, w ∈ Ts) ∧ va_K D vwCl (hTy ca) s ∧ hZ ad (hA ad) s s.heap
def Hx (D : va_G) (ad : Nat → Nat → Nat) (ca : Nat → ClassId) (m : hM) (A0 : Nat → Prop) (s : State) (H : Heap) (locs : List Loc) : Prop :=
  va_P D vwCl (emb ad ca m) H ∧ va_D (hA ad) (emb ad ca m) ∧ va_S A0 s.heap H locs ∧ (∀ q, hA ad q → A0 q) ∧ ∀ q, q < s.heap.size → A0 q → hA ad q
section
variable {p : Program} {l : Launch} {e : Env} {R : Room} {s : State} {mi : MethodId} {args : Array Value} {below : List Frame} {meth : Method} {c : Code} {H : Heap} {locs : List Loc} {k n pc : Nat} {ls : Array Slot} {D : va_G} {ad : Nat → Nat → Nat} {ca : Nat → ClassId} {m : hM} {cc : ByteArray} {nL : Nat} {Ts : List Cond} {own : String} {A0 : Nat → Prop} {Q : State → Prop}
theorem Kx.w (h : Kx p mi c cc nL s args Ts own D ad ca) {w : Cond} (hw : w ∈ gdw) : w.before args s = true := h.1.2.2.2.2 w (h.2.1 w hw)
theorem Hx.z (K : Kx p mi c cc nL s args Ts own D ad ca) (h : Hx D ad ca m A0 s H locs) : hZ ad (hA ad) s H := hZ_kept K.2.2.2 (fun a h1 h2 => h.2.2.1.2.1 a h1 (fun z => h2 (h.2.2.2.2 a h1 z)))
theorem Hx.pre (K : Kx p mi c cc nL s args Ts own D ad ca) (h : Hx D ad ca m A0 s H locs) (as : List hV) (U : State) (hU : U.heap = H) (hW : s.WarmedH U.vm) : va_Pc (as.map (ev ad)) (hWd D ad ca m) (as.map (ev ad)).toArray U :=
  ⟨rfl, by rw [hU]; exact h.1, va_K.moved hW.alike K.2.2.1, h.2.1, by rw [hU]; exact hZ_warm hW (h.z K)⟩
theorem good_Ts (hT : ∀ w ∈ gdw, w ∈ Ts) {mtf : hMt} (h : Cond.code mtf.1 mtf.2.1 mtf.2.2.1 mtf.2.2.2 ∈ gdw) : GoodIn Ts (hWs mtf) := by
  intro w hw
  have hg : w ∈ gdw := by
    rcases List.mem_cons.mp hw with rfl | hw
    · exact h
    · exact hw
  exact ⟨hT _ hg, good_of_word (gdw_good hg)⟩
/-- a call of an object's method: its contract is met -/
theorem x_callV {mtf : hMt} {df idx t o nP : Nat} {As S : List hV} {st0 : List Value} {J : hR} {r : Option hV} {m1 : hM} (K : Kx p mi c cc nL s args Ts own D ad ca) (h : Hx D ad ca m A0 s H locs) (hM : MiV mtf) (hl : Cond.methodLink own idx mtf.1 ∈ gdw) (hrc : ∃ ci T N, t < 61 ∧ sCls t = some ci ∧ vwCl[ci]? = some (mtf.1.cls, T, N)) (ho : o < sCnt t) (hv : ∀ v ∈ As, hVal v)
    (hst : st0 = (As.map (ev ad)).reverse ++ .ref (ad t o) :: S.map (ev ad)) (hp : (parseMethodDescriptor mtf.1.desc).map (fun d => d.parameters.length) = some nP) (hn : As.length = nP) (hR : df + 1 ≤ R.frames ∧ 8 + (mtf.2.2.1 + 11) + 80 * df ≤ R.locals) (hk : k ≤ R.cells ∧ n ≤ R.slots) (hcat : (S.map vcat).sum ≤ 8) (hsz : ls.size = nL)
    (cn : Cn mtf df (.inr (.inr (t, o)) :: As) m J) (hJ : J = some (r, m1)) (hd : decode cc pc = .ok (.invokevirtual idx, 3))
    (kk : ∀ (H1 : Heap) (locs1 : List Loc), Hx D ad ca m1 A0 s H1 locs1 → H.size ≤ H1.size → W p l e R s mi args below meth c H1 locs1 k n Q (F0 mi (pc + 3) ls ((r.map (ev ad)).toList ++ S.map (ev ad)))) : W p l e R s mi args below meth c H locs k n Q (F0 mi pc ls st0) := by
  obtain ⟨ci, T, N, t1, t2, t3⟩ := hrc
  have hMet := cn r m1 hJ (fun v hv2 => by
    rcases List.mem_cons.mp hv2 with rfl | hv2
    · exact ho
    · exact hv v hv2) l D ad ca
  have hrecv : ∃ cell : Cell, H[ad t o]? = some cell ∧ cell.vm.isStatics = false ∧ s.vm.findClass mtf.1.cls = some cell.cls := by
    obtain ⟨q, e1, e2⟩ := emb_at ad ca m t1 ho
    rw [hCell_ob t2] at e2
    exact va_recv K.2.2.1 h.1 t3 e2
  have hpre : PreV s H mtf.1.cls (ad t o) (va_Pc (((.inr (.inr (t, o)) : hV) :: As).map (ev ad)) (hWd D ad ca m)) (As.map (ev ad)) := ⟨hPc_blind, hrecv, fun U hU hW => h.pre K _ U hU hW⟩
  have hlen : (As.map (ev ad)).length = nP := by rw [List.length_map]; exact hn
  have hini : (Cond.initialized mtf.1.cls).before args s = true := K.w hM.1.2.1
  have run := va_runV (C := mtf.1.cls) (R := R) (locs := locs) (cells := k) (slots := n) (e := e) (below := below) (meth := meth) (g := F0 mi pc ls st0) (rest := S.map (ev ad)) K.1 hMet ⟨callB_of nP K.1.2.2.2.2 (good_Ts K.2.1 hM.1.1) rfl rfl rfl hini (K.w hl) ⟨hM.1.2.2.1, hM.1.2.2.2.1, hp⟩ hR, K.w hM.2.1, K.w hM.2.2⟩ hpre rfl hlen hsz hst (lv_room (by rw [ev_cats]; exact hcat)) hd ⟨hk.1, hk.2⟩
  intro T9 hT X
  obtain ⟨v, st₀, t9, T', Lx, h0, X', hL, e1, e2, ⟨hv9, hp9, hz, hk9⟩, st⟩ := run T9 hT X
  cases hv9
  rw [h0] at hz hk9
  have hS := h.2.2.1
  obtain ⟨t2, a1, b1⟩ := kk T'.heap (locs ++ Lx) ⟨by rw [e1]; exact hp9, emb_addr ad ca m m1 h.2.1, ⟨Nat.le_trans hS.1 (by rw [e1]; exact hz), fun q h1 h2 => by rw [e1, hk9 q (Nat.lt_of_lt_of_le h1 hS.1) (fun z => h2 (h.2.2.2.1 q z))]; exact hS.2.1 q h1 h2, fun q hq => by
      rcases List.mem_append.mp hq with h9 | h9
      · exact hS.2.2 q h9
      · exact h.2.2.2.1 _ (hL q h9)⟩, h.2.2.2⟩ (by rw [e1]; exact hz) T' rfl X'
  exact ⟨t2, st t2 a1, b1⟩
/-- a call of a static method -/
theorem x_callS {mtf : hMt} {df idx nP : Nat} {As S : List hV} {st0 : List Value} {J : hR} {r : Option hV} {m1 : hM} (K : Kx p mi c cc nL s args Ts own D ad ca) (h : Hx D ad ca m A0 s H locs) (hM : MiS mtf) (hl : Cond.methodLink own idx mtf.1 ∈ gdw) (hv : ∀ v ∈ As, hVal v)
    (hst : st0 = (As.map (ev ad)).reverse ++ S.map (ev ad)) (hp : (parseMethodDescriptor mtf.1.desc).map (fun d => d.parameters.length) = some nP) (hn : As.length = nP) (hR : df + 1 ≤ R.frames ∧ 8 + (mtf.2.2.1 + 11) + 80 * df ≤ R.locals) (hk : k ≤ R.cells ∧ n ≤ R.slots) (hcat : (S.map vcat).sum ≤ 8) (hsz : ls.size = nL)
    (cn : Cn mtf df As m J) (hJ : J = some (r, m1)) (hd : decode cc pc = .ok (.invokestatic idx, 3))
    (kk : ∀ (H1 : Heap) (locs1 : List Loc), Hx D ad ca m1 A0 s H1 locs1 → H.size ≤ H1.size → W p l e R s mi args below meth c H1 locs1 k n Q (F0 mi (pc + 3) ls ((r.map (ev ad)).toList ++ S.map (ev ad)))) : W p l e R s mi args below meth c H locs k n Q (F0 mi pc ls st0) := by
  have hMet := cn r m1 hJ hv l D ad ca
  have hpre : PreS s H (va_Pc (As.map (ev ad)) (hWd D ad ca m)) (As.map (ev ad)) := ⟨hPc_blind, fun U hU hW => h.pre K _ U hU hW⟩
  have hlen : (As.map (ev ad)).length = nP := by rw [List.length_map]; exact hn
  have hini : (Cond.initialized mtf.1.cls).before args s = true := K.w hM.1.2.1
  have run := va_runS (R := R) (locs := locs) (cells := k) (slots := n) (e := e) (below := below) (meth := meth) (g := F0 mi pc ls st0) (rest := S.map (ev ad)) K.1 hMet ⟨callB_of nP K.1.2.2.2.2 (good_Ts K.2.1 hM.1.1) rfl rfl rfl hini (K.w hl) ⟨hM.1.2.2.1, hM.1.2.2.2.1, hp⟩ hR, K.w hM.2⟩ hpre rfl hlen hsz hst (lv_room (by rw [ev_cats]; exact hcat)) hd ⟨hk.1, hk.2⟩
  intro T9 hT X
  obtain ⟨v, st₀, t9, T', Lx, h0, X', hL, e1, e2, ⟨hv9, hp9, hz, hk9⟩, st⟩ := run T9 hT X
  cases hv9
  rw [h0] at hz hk9
  have hS := h.2.2.1
  obtain ⟨t2, a1, b1⟩ := kk T'.heap (locs ++ Lx) ⟨by rw [e1]; exact hp9, emb_addr ad ca m m1 h.2.1, ⟨Nat.le_trans hS.1 (by rw [e1]; exact hz), fun q h1 h2 => by rw [e1, hk9 q (Nat.lt_of_lt_of_le h1 hS.1) (fun z => h2 (h.2.2.2.1 q z))]; exact hS.2.1 q h1 h2, fun q hq => by
      rcases List.mem_append.mp hq with h9 | h9
      · exact hS.2.2 q h9
      · exact h.2.2.2.1 _ (hL q h9)⟩, h.2.2.2⟩ (by rw [e1]; exact hz) T' rfl X'
  exact ⟨t2, st t2 a1, b1⟩
end
/-! tap where it throws -/
abbrev vxX : List Cond := vx_at0 RX11 136 "java/util/NoSuchElementException" ["java/lang/RuntimeException", "java/lang/Exception"]
theorem vxX_in : ∀ w ∈ vxX, w ∈ lw_tbl := by decide +kernel
theorem vxX_ot : ∀ w ∈ vxX, w.onTables = true := by decide +kernel
theorem vxX_kf : ∀ w ∈ vxX, w.keepsFace = true := fun w hw => Bundle.ownAtoms0_keepsFace w (List.mem_filter.mp hw).1
def xW (U : State) : Prop := ∀ w ∈ vxX, va_Nw w U
theorem xW_warm {s U : State} (hW : s.WarmedH U.vm) (h : xW s) : xW U := fun w hw => va_tabs (vxX_ot w hw) (rfl : (s.setVm U.vm).vm = U.vm) (Cond.before_shiftedFace (State.Shifted.of_warmed hW) w (vxX_kf w hw) (h w hw))
theorem xW_same {s U : State} (hW : s.vm = U.vm) (h : xW s) : xW U := fun w hw => va_tabs (vxX_ot w hw) hW (h w hw)
def xZ (A : Nat → Prop) (U : State) (H : Heap) : Prop := vx_Zq Bundle.tN "UNASSIGNED_STACK" Bundle.steD A U H ∧ vx_Zq Bundle.tN "SUPPRESSED_SENTINEL" Bundle.listD A U H
theorem xZ_kept {A : Nat → Prop} {U : State} {H H1 : Heap} (h : xZ A U H) (hq : ∀ a : Nat, a < H.size → ¬ A a → H1[a]? = H[a]?) : xZ A U H1 := ⟨h.1.kept hq, h.2.kept hq⟩
theorem xZ_moved {A : Nat → Prop} {u U : State} {H : Heap} (hvm : u.vm.Alike U.vm) (h : xZ A u H) : xZ A U H := ⟨h.1.moved hvm, h.2.moved hvm⟩
