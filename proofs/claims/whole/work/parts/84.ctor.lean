/-! constructors: calls, and the contract out of the walk -/
def MiI (mt : hMt) : Prop := Mi mt ∧ Cond.instanceMethod mt.1 ∈ gdw ∧ mt.1.name = "<init>" ∧ mt.2.2.2 = none
theorem NP_blind {as : List Value} {D : va_G} {z : Nat} {ca : Nat → ClassId} {cs : List nE} : FrameBlind (va_Pc as (NP D z ca cs)) := by
  intro a U g mk h
  obtain ⟨h1, h2, h3, h4⟩ := h
  exact ⟨h1, h2, va_K.moved (u := U) (U := U.calling g mk a) (Vm.Alike.refl U.vm) h3, nZ_same (s := U) (U := U.calling g mk a) rfl h4⟩
theorem nh_call {p : Program} {l : Launch} {e : Env} {R : Room} {s : State} {mi : MethodId} {args : Array Value} {below : List Frame} {meth : Method} {c : Code} {H : Heap} {locs : List Loc} {pc k n mc ms : Nat} {ls : Array Slot} {st0 rest : List Value} {D : va_G} {z : Nat} {ca : Nat → ClassId} {cs : List nE} {a : Array Value} {Q : State → Prop}
    (hr : va_Run p l e R s mi args below meth c H locs k n mc ms (F0 mi pc ls st0) rest (NQ D z ca cs a) (fun q => z ≤ q)) (hS : va_S (fun q => z ≤ q) s.heap H locs)
    (kk : ∀ (H1 : Heap) (locs1 : List Loc), nWd D z ca cs H1 → va_S (fun q => z ≤ q) s.heap H1 locs1 → W p l e R s mi args below meth c H1 locs1 (k + mc) (n + ms) Q (F0 mi (pc + 3) ls rest)) : W p l e R s mi args below meth c H locs k n Q (F0 mi pc ls st0) := by
  intro T hT X
  obtain ⟨v, st₀, t, T', Lx, h0, X', hL, e1, e2, ⟨hv, hp, hz, hk⟩, st⟩ := hr T hT X
  cases hv
  rw [h0] at hz hk
  obtain ⟨t2, a1, b1⟩ := kk T'.heap (locs ++ Lx) (by rw [e1]; exact hp)
    ⟨Nat.le_trans hS.1 (by rw [e1]; exact hz), fun q h1 h2 => by rw [e1, hk q (Nat.lt_of_lt_of_le h1 hS.1) h2]; exact hS.2.1 q h1 h2, fun q hq => by
      rcases List.mem_append.mp hq with h | h
      · exact hS.2.2 q h
      · exact hL q h⟩ T' rfl X'
  exact ⟨t2, st t2 a1, b1⟩
section Rows
variable {mt mtf : hMt} {d df mc ms k n pc nx : Nat} {L : nL} {S : List nV} {cs : List nE}
theorem n_call {mc2 ms2 idx q nP : Nat} {As S0 : List nV} {J : nR} {K : List nE → nR} (hd : Dc mt pc (.invokespecial idx) 3 nx) (hM : MiI mtf) (hl : Lk mt.1.cls idx mtf) (hp : (parseMethodDescriptor mtf.1.desc).map (fun d => d.parameters.length) = some nP) (hn : As.length = nP) (hS0 : S0 = As.reverse ++ .inr (.inr (some q)) :: S) (hdf : df + 1 ≤ d) (hk : k + mc2 ≤ mc) (hs : n + ms2 ≤ ms) (hst : ∀ z, ((S.map (nev z)).map fun v => v.category).sum ≤ 8)
    (cn : CN mtf df mc2 ms2 (.inr (.inr (some q)) :: As) cs J) (h : ∀ cs1, GN mt d mc ms (k + mc2) (n + ms2) nx L S cs1 (K cs1)) : GN mt d mc ms k n pc L S0 cs (ncal J K) := by
  intro cs2 hR l D z ca p e s mi args below meth c H locs ls hC hS
  obtain ⟨hd, rfl⟩ := hd
  unfold ncal at hR
  cases J with
  | none => cases hR
  | some cs1 =>
    have hMet := cn cs1 rfl l D z ca
    have hRm : (nRm df mc2 ms2).frames + 1 ≤ (nRm d mc ms).frames ∧ 8 + (mtf.2.2.1 + 11) + (nRm df mc2 ms2).locals ≤ (nRm d mc ms).locals := ⟨hdf, by
      have h1 := hM.1.2.2.2.2
      show 8 + (mtf.2.2.1 + 11) + 80 * df ≤ 80 * d
      omega⟩
    have hpre : PreS s H (va_Pc ((Sum.inr (Sum.inr (some q)) :: As : List nV).map (nev z)) (NP D z ca cs)) (.ref (z + q) :: As.map (nev z)) := ⟨NP_blind, fun U hU hW => ⟨rfl, by rw [hU]; exact hS.1, va_K.moved hW.alike hC.2.2.2.1, nZ_warm hW hC.2.2.2.2.1⟩⟩
    have hstk : S0.map (nev z) = (As.map (nev z)).reverse ++ .ref (z + q) :: S.map (nev z) := by rw [hS0, List.map_append, List.map_reverse]; rfl
    have hlen : (As.map (nev z)).length = nP := by rw [List.length_map]; exact hn
    have hsz : (F0 mi pc ls (S0.map (nev z))).locals.size = mt.2.2.1 := hS.2.2.1.1
    have hini : (Cond.initialized mtf.1.cls).before args s = true := hC.w hM.1.2.1
    have hcode : Cond.code mtf.1 mtf.2.1 mtf.2.2.1 none ∈ gdw := by rw [← hM.2.2.2]; exact hM.1.1
    have hws : hWs mtf = Cond.code mtf.1 mtf.2.1 mtf.2.2.1 none :: gdw := by unfold hWs; rw [hM.2.2.2]
    have run : va_Run p l e (nRm d mc ms) s mi args below meth c H locs k n mc2 ms2 (F0 mi pc ls (S0.map (nev z))) (S.map (nev z)) (NQ D z ca cs1 (.ref (z + q) :: As.map (nev z)).toArray) (fun q => z ≤ q) := by
      rcases hl with hl | hl
      · exact va_runI (bytes := mtf.2.1) (maxL := mtf.2.2.1) hC.1 hMet ⟨callB_of nP hC.1.2.2.2.2 (hWs_good mt mtf hM.1.1) hws rfl rfl hini (hC.w hl) ⟨hM.1.2.2.1, hM.1.2.2.2.1, hp⟩ hRm, hM.2.2.1, hC.w hM.2.1⟩ hpre rfl hlen hsz hstk (lv_room (hst z)) hd ⟨hk, hs⟩
      · exact va_runIN (host := "HuntedEye") (bytes := mtf.2.1) (maxL := mtf.2.2.1) hC.1 hMet ⟨va_cnB nP hC.1.2.2.2.2 (hWs_good mt mtf hM.1.1) hws rfl rfl (hC.2.2.2.2.1.1.2 _ hl) hini ⟨hM.1.2.2.1, hM.1.2.2.2.1, hp⟩ hRm, hM.2.2.1, hC.w hM.2.1⟩ hpre rfl hlen hsz hstk (lv_room (hst z)) hd ⟨hk, hs⟩
    refine nh_call run hS.2.1 (fun H1 locs1 hP1 hS1 => ?_)
    exact h cs1 cs2 hR l D z ca p e s mi args below meth c H1 locs1 ls hC ⟨hP1, hS1, hS.2.2.1, hS.2.2.2⟩
theorem cn_ofN {as : List nV} {R : nR} {L0 : nL} (hy : plainFor mt.1 = true) (hnm : mt.1.name = "<init>") (hn : ∀ z, (lg_sl (as.map (nev z))).length ≤ mt.2.2.1) (hL : ∀ z, lv_args 0 (as.map (nev z)) = nLs z L0) (h : GN mt d mc ms 0 0 0 L0 [] cs R) : CN mt d mc ms as cs R := by
  intro cs2 hR l D z ca
  obtain ⟨y, cc, maxL, ret⟩ := mt
  refine va_MetF (cc := cc) (maxL := maxL) (ret := ret) hy rfl ?_
  intro p e s mi args below meth c s₁ B hml hpre
  obtain ⟨rfl, hP, hK, hz⟩ := hpre
  have hts := atoms_spec (ws := hWs (y, cc, maxL, ret)) B.pre
  have hl := lv_entry (as.map (nev z)) (n := maxL) (hn z)
  rw [lg_entry_eq]
  rw [hL z] at hl
  have hin : meth.name = "<init>" := (name_of_methodNamed B.named B.method).1.trans hnm
  exact h cs2 hR l D z ca p e s mi _ below meth c s.heap [] _ ⟨⟨B.exec, B.bytes, hml, findClass_of_methodNamed B.named, hts⟩, B.returns, B.notSynchronized, hK, hz, hin⟩ ⟨hP, va_S.rf, hl, by rw [hP.1]; exact Nat.le_add_right _ _⟩
end Rows
