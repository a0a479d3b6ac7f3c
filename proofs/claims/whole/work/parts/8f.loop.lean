/-! THE CLAIM OUT OF ONE WALK OF THE LAW'S BODY. Your part is whole_start (and what it stands on); all else here is the same for every law, but numbers. -/
def R_law : String := "HuntedEyeLaw"
def lw_P (b : Addr) (xs : List Int32) (args : Array Value) (s : State) : Prop := args = #[.ref b] ∧ s.IntsAt b xs ∧ xs.length ≤ 3072 ∧ (Jvm.Cond.and given_1 narrow_1).before args s = true
def lw_Q (_ : Array Value) (s : State) (o : Outcome) (t : State) : Prop := o = .returned (some (.int 1)) ∧ Framed s o t [] 601024 7293034
def lw_Z (below : List Frame) (a : Array Value) (s : State) : State → Prop := fun t => ∃ o, t.status = .running ∧ Ended t below o ∧ lw_Q a s o t
/-- the law's own end, with 1 on the stack, nothing written that was there before, its room as the claim has it -/
theorem lw_ret {p : Program} {l : Launch} {e : Env} {s : State} {m : MethodId} {below : List Frame} {meth : Method} {c : Code} {b : Nat} (hx : p.tables.exec = Jvm.exec) (hb : c.code = code) (hr : meth.sig.returnType = ret) (hlocks : meth.locks = false) {pc : Nat} {H : Heap} {ls : Array Slot} (hdg : decode code pc = .ok (.ireturn, 1)) : W p l e room_1 s m #[Value.ref b] below meth c H [] 601024 7293034 (lw_Z below #[Value.ref b] s) (F0 m pc ls [.int 1]) := by
  intro T hT X
  obtain ⟨fs, hret, hrun, hended, hW, hframe⟩ := X.leave (v := some (.int 1)) (hlocks := hlocks) (fun h => by rw [hr] at h; cases h)
  have hmeth' : T.vm.method? m = some meth := X.method'
  refine ⟨T.setFrames fs, ?_, .returned (some (.int 1)), hrun, hended, rfl, ⟨_, rfl⟩, hW, hframe⟩
  jvm_step X.here [X.here.top, hx, hb, hdg, hmeth', hr, ret, narrow_b1]
  (try refine ⟨rfl, ?_⟩); (try refine ⟨rfl, ?_⟩)
  first | (intro acts; rw [hret _ acts rfl rfl rfl]) | rw [hret _ _ rfl rfl rfl]
  exact Steps.refl _
/-- what holds at the law's entry: the machine, the code, the tables' words (any of lw_tbl by 'hts w (by decide +kernel)'), the script of L ints xs at the cell b, what the Statement gives of the start (any of its parts by flat_of_before) -/
def lw_At (p : Program) (s : State) (m : MethodId) (meth : Method) (c : Code) (b L : Nat) (xs : Nat → Int32) : Prop :=
  p.tables.exec = Jvm.exec ∧ c.code = code ∧ meth.sig.returnType = ret ∧ c.maxLocals = 7 ∧ s.vm.findClass R_law = some m.cls ∧ (∀ w ∈ lw_tbl, w.before #[Value.ref b] s = true) ∧ va_X b L xs s s.heap ∧ b < s.heap.size ∧ meth.locks = false ∧ (Jvm.Cond.and given_1 narrow_1).before #[Value.ref b] s = true
theorem nI_gt {L j : Nat} (hL : L ≤ 3072) (hj : j ≤ 513) : (nI L - 6 < nI (6 * j)) ↔ L < 6 * j + 6 := by
  have e6 : (6 : Int32).toInt = 6 := by decide
  have eL : (nI L).toInt = L := nI_toInt (by omega)
  have ej : (nI (6 * j)).toInt = ((6 * j : Nat) : Int) := nI_toInt (by omega)
  have es : (nI L - 6).toInt = (L : Int) - 6 := by rw [j_sub (by rw [eL, e6]; omega) (by rw [eL, e6]; omega), eL, e6]
  rw [Int32.lt_iff_toInt_lt, es, ej]
  omega
theorem lvs_inc (b : Nat) (ad : Nat → Nat → Nat) (j : Nat) : (4, Value.int (nI (6 * (j + 1)))) :: (lvs b ad j).filter (fun q => !(q.1 == 4) && !(q.1 + 1 == 4 && q.2.category == 2)) = lvs b ad (j + 1) := rfl
set_option maxRecDepth 20000 in
theorem lw_loop {p : Program} {l : Launch} {e : Env} {s : State} {mi : MethodId} {below : List Frame} {meth : Method} {c : Code} {D : va_G} {ad : Nat → Nat → Nat} {ca : Nat → ClassId} {b L : Nat} {xs : Nat → Int32} (C : LwX p s mi c b L xs D ad ca) (hl : l.stackTraces = false) (xw : xW s) (xz : xZ (hA ad) s s.heap) (hr : meth.sig.returnType = ret) (hlocks : meth.locks = false) :
    ∀ d j m H locs ls, j + d = 513 → Inv m → Hx D ad ca m (aN s) s H locs → lv_has ls 7 (lvs b ad j) → W p l e room_1 s mi #[Value.ref b] below meth c H locs (445 + j) (28621 + 6 * j) (lw_Z below #[Value.ref b] s) (F0 mi 23 ls []) := by
  intro d
  have hL := C.2.2.2
  induction d with
  | zero =>
    intro j m H locs ls hj hm h hv
    refine lv_iload C.1.1.1 C.1.1.2.1 (kL0 13 rfl) (lv_at hv 0 rfl) ?_
    refine lv_aload_n C.1.1.1 C.1.1.2.1 (kL0 14 rfl) rfl (lv_at hv 1 rfl) ?_
    refine va_slen C.1.1.1 C.1.1.2.1 C.2.1 C.2.2.1 (A := aN s) (fun z => absurd C.2.2.1 (Nat.not_lt.mpr z)) h.2.2.1 (kL0 15 rfl) ?_
    refine lv_bipush (v := 6) C.1.1.1 C.1.1.2.1 (kL0 16 rfl) (by decide) ?_
    refine lv_isub C.1.1.1 C.1.1.2.1 (kL0 17 rfl) ?_
    refine lv_icmp_gt (tgt := 1596) C.1.1.1 C.1.1.2.1 (kL0 18 rfl) (by decide) (fun _ => ?_) (fun z => absurd ((nI_gt hL (by omega)).mpr (by omega)) z)
    refine va_forget (fun q hq => h.2.2.1.2.2 q hq) ?_
    refine W.widen (k := 601024) (n := 7293034) (by omega) (by omega) ?_
    refine lv_iconst (v := 1) C.1.1.1 C.1.1.2.1 (kL9 84 rfl) (by decide) ?_
    exact lw_ret C.1.1.1 C.1.1.2.1 hr hlocks (kL9 85 rfl)
  | succ d ih =>
    intro j m H locs ls hj hm h hv
    refine lv_iload C.1.1.1 C.1.1.2.1 (kL0 13 rfl) (lv_at hv 0 rfl) ?_
    refine lv_aload_n C.1.1.1 C.1.1.2.1 (kL0 14 rfl) rfl (lv_at hv 1 rfl) ?_
    refine va_slen C.1.1.1 C.1.1.2.1 C.2.1 C.2.2.1 (A := aN s) (fun z => absurd C.2.2.1 (Nat.not_lt.mpr z)) h.2.2.1 (kL0 15 rfl) ?_
    refine lv_bipush (v := 6) C.1.1.1 C.1.1.2.1 (kL0 16 rfl) (by decide) ?_
    refine lv_isub C.1.1.1 C.1.1.2.1 (kL0 17 rfl) ?_
    refine lv_icmp_gt (tgt := 1596) C.1.1.1 C.1.1.2.1 (kL0 18 rfl) (by decide) (fun _ => ?_) (fun z => ?_)
    · refine va_forget (fun q hq => h.2.2.1.2.2 q hq) ?_
      refine W.widen (k := 601024) (n := 7293034) (by omega) (by omega) ?_
      refine lv_iconst (v := 1) C.1.1.1 C.1.1.2.1 (kL9 84 rfl) (by decide) ?_
      exact lw_ret C.1.1.1 C.1.1.2.1 hr hlocks (kL9 85 rfl)
    · have hn : 6 * j + 6 ≤ L := Nat.not_lt.mp (fun y => z ((nI_gt hL (by omega)).mpr y))
      refine lv_aload_n C.1.1.1 C.1.1.2.1 (kL0 19 rfl) rfl (lv_at hv 1 rfl) ?_
      refine lv_iload C.1.1.1 C.1.1.2.1 (kL0 20 rfl) (lv_at hv 0 rfl) ?_
      refine va_sld C.1.1.1 C.1.1.2.1 C.2.1 C.2.2.1 (A := aN s) (fun z => absurd C.2.2.1 (Nat.not_lt.mpr z)) h.2.2.1 (x_in (show 6 * j < L by omega) hL) (kL0 21 rfl) ?_
      refine lv_bipush (v := 63) C.1.1.1 C.1.1.2.1 (kL0 22 rfl) (by decide) ?_
      refine lv_iand C.1.1.1 C.1.1.2.1 (kL0 23 rfl) ?_
      obtain ⟨v, v6, ev9⟩ := x_63 (xs (nI (6 * j)).toNatClampNeg)
      rw [ev9]
      refine lw_sw C hm h hv hn ⟨by omega, by omega⟩ hl xw xz (fun m2 H2 locs2 ls2 hm2 h2 hv2 => ?_) v v6
      refine lv_iinc (nL := 7) (k := 0) (v := nI (6 * (j + 1))) (lv' := lvs b ad (j + 1)) C.1.1.1 C.1.1.2.1 (kL9 82 rfl) hv2 rfl ?_ (by decide) (lvs_inc b ad j) (fun ls3 hv3 => ?_)
      · rw [show Int32.ofInt 6 = nI 6 from rfl, nI_add, show 6 * (j + 1) = 6 * j + 6 by omega]
      refine lv_goto (tgt := 23) C.1.1.1 C.1.1.2.1 (kL9 83 rfl) (by decide) ?_
      refine W.widen (k := 445 + (j + 1)) (n := 28621 + 6 * (j + 1)) (by omega) (by omega) ?_
      exact ih (j + 1) m2 H2 locs2 ls3 (by omega) hm2 h2 hv3
