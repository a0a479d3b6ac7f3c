/-! the law: its start -/
section
variable {p : Program} {l : Launch} {e : Env} {R : Room} {s : State} {mi : MethodId} {args : Array Value} {below : List Frame} {meth : Method} {c : Code} {H : Heap} {locs : List Loc} {k n pc : Nat} {ls : Array Slot} {D : va_G} {z : Nat} {ca : Nat → ClassId} {cc : ByteArray} {nL : Nat} {own : String} {Q : State → Prop} {st : List Value} {cs : List nE}
theorem w_new {idx ci : Nat} {fs : List nV} (S : CallFix p mi c cc nL s args gdw own) (hK : va_K D vwCl (hTy ca) s) (h : nWd D z ca cs H) (hS : va_S (fun q => z ≤ q) s.heap H locs) (hc : Nc own idx ci fs) (hk : k + 1 ≤ R.cells) (hn : n + fs.length ≤ R.slots) (hd : decode cc pc = .ok (.new idx, 3))
    (kk : ∀ H1, nWd D z ca (cs ++ [.inr (.inr (ci, fs))]) H1 → va_S (fun q => z ≤ q) s.heap H1 locs → W p l e R s mi args below meth c H1 locs (k + 1) (n + fs.length) Q (F0 mi (pc + 3) ls (.ref (z + cs.length) :: st))) : W p l e R s mi args below meth c H locs k n Q (F0 mi pc ls st) := by
  obtain ⟨C, T, N, ty, h1, h2, h3, h4, h5, h6, rfl, h8⟩ := hc
  have hw := S.2.2.2.2
  have hKn := hK.1 ci _ h1
  refine W.newcK S.1 S.2.1 S.2.2.2.1 (hw _ h4) (hw _ h5) (hw _ h6) rfl hd hk hn hKn.2.1 h.1 fun H1 kC hkC e1 z1 o1 => ?_
  refine kk H1 (nW_push h.2 h.1 z1 o1 ?_) (nS_push hS h.1 z1 o1)
  exact ⟨_, h1, (u_born ty (ws := gdw) hw h2 hKn hkC e1 h3).to (h8 z)⟩
theorem w_newL {N : Nat} {x : Int32} (S : CallFix p mi c cc nL s args gdw own) (hK : va_K D vwCl (hTy ca) s) (h : nWd D z ca cs H) (hS : va_S (fun q => z ≤ q) s.heap H locs) (hw : Cond.arrayClass .long ∈ gdw) (hx : ¬ x < 0) (hN : x.toNatClampNeg = N) (hb : N ≤ 100000) (hk : k + 1 ≤ R.cells) (hn : n + N ≤ R.slots) (hd : decode cc pc = .ok (.newarray .long, 2))
    (kk : ∀ H1, nWd D z ca (cs ++ [.inl (4, N)]) H1 → va_S (fun q => z ≤ q) s.heap H1 locs → W p l e R s mi args below meth c H1 locs (k + 1) (n + N) Q (F0 mi (pc + 2) ls (.ref (z + cs.length) :: st))) : W p l e R s mi args below meth c H locs k n Q (F0 mi pc ls (.int x :: st)) := by
  refine va_newaK S.1 S.2.1 (atype := .long) (S.2.2.2.2 _ hw) rfl hd rfl hx hN (by show N * 8 ≤ _; omega) hk hn h.1 fun H1 cA e1 z1 o1 hAr hNm => ?_
  have hca : cA = ca 4 := Option.some.inj (hNm.symm.trans (hra_L D ca s hK))
  subst hca
  refine kk H1 (nW_push h.2 h.1 z1 o1 ?_) (nS_push hS h.1 z1 o1)
  exact e1
theorem w_call {mtf : hMt} {df mc2 ms2 idx q : Nat} {J : nR} {cs1 : List nE} (S : CallFix p mi c cc nL s args gdw own) (hK : va_K D vwCl (hTy ca) s) (hz : nZ s) (h : nWd D z ca cs H) (hS : va_S (fun q => z ≤ q) s.heap H locs) (hM : MiI mtf) (hl : Cond.methodLink own idx mtf.1 ∈ gdw) (hp : (parseMethodDescriptor mtf.1.desc).map (fun d => d.parameters.length) = some 0) (hR : df + 1 ≤ R.frames ∧ 8 + (mtf.2.2.1 + 11) + 80 * df ≤ R.locals) (hk : k + mc2 ≤ R.cells) (hn : n + ms2 ≤ R.slots) (hcat : (st.map fun v => v.category).sum ≤ 8) (hsz : ls.size = nL)
    (cn : CN mtf df mc2 ms2 [.inr (.inr (some q))] cs J) (hJ : J = some cs1) (hd : decode cc pc = .ok (.invokespecial idx, 3))
    (kk : ∀ H1 locs1, nWd D z ca cs1 H1 → va_S (fun q => z ≤ q) s.heap H1 locs1 → W p l e R s mi args below meth c H1 locs1 (k + mc2) (n + ms2) Q (F0 mi (pc + 3) ls st)) : W p l e R s mi args below meth c H locs k n Q (F0 mi pc ls (.ref (z + q) :: st)) := by
  have hMet := cn cs1 hJ l D z ca
  have hpre : PreS s H (va_Pc (([.inr (.inr (some q))] : List nV).map (nev z)) (NP D z ca cs)) (.ref (z + q) :: []) := ⟨NP_blind, fun U hU hW => ⟨rfl, by rw [hU]; exact h, va_K.moved hW.alike hK, nZ_warm hW hz⟩⟩
  have hws : hWs mtf = Cond.code mtf.1 mtf.2.1 mtf.2.2.1 none :: gdw := by unfold hWs; rw [hM.2.2.2]
  have run : va_Run p l e R s mi args below meth c H locs k n mc2 ms2 (F0 mi pc ls (.ref (z + q) :: st)) st (NQ D z ca cs1 (.ref (z + q) :: []).toArray) (fun q => z ≤ q) :=
    va_runI (As := []) (bytes := mtf.2.1) (maxL := mtf.2.2.1) S hMet ⟨callB_of 0 S.2.2.2.2 (good_Ts (fun w hw => hw) hM.1.1) hws rfl rfl (S.2.2.2.2 _ hM.1.2.1) (S.2.2.2.2 _ hl) ⟨hM.1.2.2.1, hM.1.2.2.2.1, hp⟩ hR, hM.2.2.1, S.2.2.2.2 _ hM.2.1⟩ hpre rfl rfl hsz rfl (lv_room hcat) hd ⟨hk, hn⟩
  exact nh_call run hS kk
end
theorem ncL8 : Nc "HuntedEyeLaw" 8 9 blX11 := ⟨RX11, TX11, 18, tyX11, rfl, wdX11, tyX11_ok, gdw_of (i := 137) (by decide +kernel) (by decide +kernel), gdw_of (i := 138) (by decide +kernel) (by decide +kernel), gdw_of (i := 113) (by decide +kernel) (by decide +kernel), rfl, fun z j hj => match j, hj with | 0, _ => rfl | 1, _ => rfl | 2, _ => rfl | 3, _ => rfl | 4, _ => rfl | 5, _ => rfl | 6, _ => rfl | 7, _ => rfl | 8, _ => rfl | 9, _ => rfl | 10, _ => rfl | 11, _ => rfl | 12, _ => rfl | 13, _ => rfl | 14, _ => rfl | 15, _ => rfl | 16, _ => rfl | 17, _ => rfl | j + 18, hj => absurd hj (by omega)⟩
theorem ncL16 : Nc "HuntedEyeLaw" 16 10 blX12 := ⟨RX12, TX12, 40, tyX12, rfl, wdX12, tyX12_ok, gdw_of (i := 1418) (by decide +kernel) (by decide +kernel), gdw_of (i := 1419) (by decide +kernel) (by decide +kernel), gdw_of (i := 124) (by decide +kernel) (by decide +kernel), rfl, fun z j hj => match j, hj with | 0, _ => rfl | 1, _ => rfl | 2, _ => rfl | 3, _ => rfl | 4, _ => rfl | 5, _ => rfl | 6, _ => rfl | 7, _ => rfl | 8, _ => rfl | 9, _ => rfl | 10, _ => rfl | 11, _ => rfl | 12, _ => rfl | 13, _ => rfl | 14, _ => rfl | 15, _ => rfl | 16, _ => rfl | 17, _ => rfl | 18, _ => rfl | 19, _ => rfl | 20, _ => rfl | 21, _ => rfl | 22, _ => rfl | 23, _ => rfl | 24, _ => rfl | 25, _ => rfl | 26, _ => rfl | 27, _ => rfl | 28, _ => rfl | 29, _ => rfl | 30, _ => rfl | 31, _ => rfl | 32, _ => rfl | 33, _ => rfl | 34, _ => rfl | 35, _ => rfl | 36, _ => rfl | 37, _ => rfl | 38, _ => rfl | 39, _ => rfl | j + 40, hj => absurd hj (by omega)⟩
theorem lL15 : Cond.methodLink "HuntedEyeLaw" 15 mX11_init.1 ∈ gdw := gdw_of (i := 139) (by decide +kernel) (by decide +kernel)
theorem lL18 : Cond.methodLink "HuntedEyeLaw" 18 mX12_init.1 ∈ gdw := gdw_of (i := 1420) (by decide +kernel) (by decide +kernel)
theorem wA_long : Cond.arrayClass .long ∈ gdw := gdw_of (i := 2007) (by decide +kernel) (by decide +kernel)
theorem gdw_tb {w : Cond} (h : w ∈ gdw) : w ∈ lw_tbl := (List.mem_filter.mp h).1
/-- the classes' numbers -/
theorem vK_of {args : Array Value} {s : State} (hts : ∀ w ∈ lw_tbl, w.before args s = true) : ∃ (D : va_G) (ca : Nat → ClassId), va_K D vwCl (hTy ca) s := by
  have hg : ∀ w ∈ gdw, w.before args s = true := fun w hw => hts w (gdw_tb hw)
  have hc : ∀ c : Nat, ∃ q : ClassId × (Nat → Nat), ∀ r : vw_C, vwCl[c]? = some r → u_Kn s r.1 r.2.1 r.2.2 q.1 q.2 := by
    intro c
    match c with
    | 0 => obtain ⟨cC, iS, h⟩ := u_known (C := RX0) (T := TX0) (N := 2) (n := 2) hg wdX0 (hg _ (gdw_of (i := 451) (by decide +kernel) (by decide +kernel))); exact ⟨(cC, iS), fun r hr => by cases hr; exact h⟩
    | 1 => obtain ⟨cC, iS, h⟩ := u_known (C := RX1) (T := TX1) (N := 6) (n := 6) hg wdX1 (hg _ (gdw_of (i := 426) (by decide +kernel) (by decide +kernel))); exact ⟨(cC, iS), fun r hr => by cases hr; exact h⟩
    | 2 => obtain ⟨cC, iS, h⟩ := u_known (C := RX3) (T := TX3) (N := 5) (n := 5) hg wdX3 (hg _ (gdw_of (i := 402) (by decide +kernel) (by decide +kernel))); exact ⟨(cC, iS), fun r hr => by cases hr; exact h⟩
    | 3 => obtain ⟨cC, iS, h⟩ := u_known (C := RX4) (T := TX4) (N := 3) (n := 3) hg wdX4 (hg _ (gdw_of (i := 152) (by decide +kernel) (by decide +kernel))); exact ⟨(cC, iS), fun r hr => by cases hr; exact h⟩
    | 4 => obtain ⟨cC, iS, h⟩ := u_known (C := RX5) (T := TX5) (N := 3) (n := 3) hg wdX5 (hg _ (gdw_of (i := 383) (by decide +kernel) (by decide +kernel))); exact ⟨(cC, iS), fun r hr => by cases hr; exact h⟩
    | 5 => obtain ⟨cC, iS, h⟩ := u_known (C := RX6) (T := TX6) (N := 8) (n := 8) hg wdX6 (hg _ (gdw_of (i := 146) (by decide +kernel) (by decide +kernel))); exact ⟨(cC, iS), fun r hr => by cases hr; exact h⟩
    | 6 => obtain ⟨cC, iS, h⟩ := u_known (C := RX7) (T := TX7) (N := 4) (n := 4) hg wdX7 (hg _ (gdw_of (i := 170) (by decide +kernel) (by decide +kernel))); exact ⟨(cC, iS), fun r hr => by cases hr; exact h⟩
    | 7 => obtain ⟨cC, iS, h⟩ := u_known (C := RX8) (T := TX8) (N := 18) (n := 18) hg wdX8 (hg _ (gdw_of (i := 226) (by decide +kernel) (by decide +kernel))); exact ⟨(cC, iS), fun r hr => by cases hr; exact h⟩
    | 8 => obtain ⟨cC, iS, h⟩ := u_known (C := RX10) (T := TX10) (N := 15) (n := 15) hg wdX10 (hg _ (gdw_of (i := 232) (by decide +kernel) (by decide +kernel))); exact ⟨(cC, iS), fun r hr => by cases hr; exact h⟩
    | 9 => obtain ⟨cC, iS, h⟩ := u_known (C := RX11) (T := TX11) (N := 18) (n := 18) hg wdX11 (hg _ (gdw_of (i := 138) (by decide +kernel) (by decide +kernel))); exact ⟨(cC, iS), fun r hr => by cases hr; exact h⟩
    | 10 => obtain ⟨cC, iS, h⟩ := u_known (C := RX12) (T := TX12) (N := 40) (n := 40) hg wdX12 (hg _ (gdw_of (i := 1419) (by decide +kernel) (by decide +kernel))); exact ⟨(cC, iS), fun r hr => by cases hr; exact h⟩
    | c + 11 => exact ⟨(0, fun _ => 0), fun r hr => by cases hr⟩
  obtain ⟨D, hD⟩ := Classical.axiomOfChoice hc
  obtain ⟨c0, k0, p0, f0, g0, h0⟩ := Cond.arrayClass_spec (hg _ wA_int)
  obtain ⟨c1, k1, p1, f1, g1, h1⟩ := Cond.arrayClass_spec (hg _ wA_boolean)
  obtain ⟨c4, k4, p4, f4, g4, h4⟩ := Cond.arrayClass_spec (hg _ wA_long)
  obtain ⟨p2, c2, k2, f2, i2, g2, h2, n2⟩ := Cond.arrayOver_spec (hts _ tA1.1)
  obtain ⟨p3, c3, k3, f3, i3, g3, h3, n3⟩ := Cond.arrayOver_spec (hts _ tA1.2)
  refine ⟨(fun c => (D c).1, fun c => (D c).2), fun i => if i = 0 then c0 else if i = 1 then c1 else if i = 2 then c2 else if i = 3 then c3 else c4, fun c r hr => hD c r hr, fun k r hr => ?_⟩
  match k, hr with
  | 0, hr => cases hr; exact ⟨fun n z => ⟨fun k h => (by cases h), k0, g0, p0, h0⟩, f0⟩
  | 1, hr => cases hr; exact ⟨fun n z => ⟨fun k h => (by cases h), k1, g1, p1, h1⟩, f1⟩
  | 2, hr => cases hr; exact ⟨fun n z => ⟨fun k h => (by cases h), k2, g2, p2, h2⟩, k2, p2, g2, h2, f2, n2⟩
  | 3, hr => cases hr; exact ⟨fun n z => ⟨fun k h => (by cases h), k3, g3, p3, h3⟩, k3, p3, g3, h3, f3, n3⟩
  | 4, hr => cases hr; exact ⟨fun n z => ⟨fun k h => (by cases h), k4, g4, p4, h4⟩, f4⟩
  | k + 5, hr => cases hr
theorem cX1 : Cond.isRef (.static Bundle.tN "UNASSIGNED_STACK" Bundle.steD) ∈ fC1 ∧ Cond.isRef (.static Bundle.tN "SUPPRESSED_SENTINEL" Bundle.listD) ∈ fC1 := by decide +kernel
theorem tX1 : Cond.laysStatic Bundle.tN "UNASSIGNED_STACK" Bundle.steD ∈ lw_tbl ∧ Cond.laysStatic Bundle.tN "SUPPRESSED_SENTINEL" Bundle.listD ∈ lw_tbl ∧ Cond.initialized Bundle.tN ∈ lw_tbl := by decide +kernel
