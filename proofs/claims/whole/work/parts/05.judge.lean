/-! the words that every method has, the statics, the judgement -/
def gdw : List Cond := lw_tbl.filter goodWord
theorem gdw_good {w : Cond} (h : w ∈ gdw) : goodWord w = true := (List.mem_filter.mp h).2
theorem gdw_of {w : Cond} {i : Nat} (h : lw_tbl[i]? = some w) (hg : goodWord w = true) : w ∈ gdw := List.mem_filter.mpr ⟨List.mem_of_getElem? h, hg⟩
/-- a method: its name, code, how many locals, what it returns -/
abbrev hMt : Type := MethodName × ByteArray × Nat × Option FieldType
def hWs (mt : hMt) : List Cond := .code mt.1 mt.2.1 mt.2.2.1 mt.2.2.2 :: gdw
def hRm (d : Nat) : Room := { frames := d, cells := 0, slots := 0, locals := 80 * d }
abbrev hNF : Type := String × Nat × String × String × String
abbrev hNM : Type := String × Nat × MethodName
/-- the words of nest mates -/
def hNwF (L : List hNF) (U : State) : Prop := ∀ q ∈ L, va_Nw (.fieldLinkNest q.1 q.2.1 q.2.2.1 q.2.2.2.1 q.2.2.2.2 "HuntedEye") U
def hNwM (L : List hNM) (U : State) : Prop := ∀ q ∈ L, va_Nw (.methodLinkNest q.1 q.2.1 q.2.2 "HuntedEye") U
theorem hNwF.warm {L : List hNF} {s U : State} (hW : s.WarmedH U.vm) (h : hNwF L s) : hNwF L U := fun q hq => va_Nw.warmF hW (h q hq)
theorem hNwM.warm {L : List hNM} {s U : State} (hW : s.WarmedH U.vm) (h : hNwM L s) : hNwM L U := fun q hq => va_Nw.warmM hW (h q hq)
theorem hNwF.same {L : List hNF} {s U : State} (hW : s.vm = U.vm) (h : hNwF L s) : hNwF L U := fun q hq => va_Nw.same rfl hW (h q hq)
theorem hNwM.same {L : List hNM} {s U : State} (hW : s.vm = U.vm) (h : hNwM L s) : hNwM L U := fun q hq => va_Nw.same rfl hW (h q hq)
def nwF : List hNF := [("HuntedEye", 233, "HuntedEye$Script", "kinds", "[I"), ("HuntedEye", 236, "HuntedEye$Script", "firsts", "[I"), ("HuntedEye", 239, "HuntedEye$Script", "seconds", "[I"), ("HuntedEye$Reader", 66, "HuntedEye$Script", "count", "I"), ("HuntedEye", 222, "HuntedEye$Script", "count", "I"), ("HuntedEye", 344, "HuntedEye$Reader", "line", "LHuntedEye$Line;"), ("HuntedEye", 354, "HuntedEye$Reader", "script", "LHuntedEye$Script;"), ("HuntedEye", 165, "HuntedEye$Reader", "length", "I"), ("HuntedEye$State", 99, "HuntedEye$Tally", "quiet", "I"), ("HuntedEye$State", 102, "HuntedEye$Tally", "loud", "I"), ("HuntedEye$State", 96, "HuntedEye$Tally", "dark", "Z"), ("HuntedEye", 325, "HuntedEye$Tally", "dark", "Z"), ("HuntedEye$State", 105, "HuntedEye$Tally", "wrong", "I"), ("HuntedEye", 217, "HuntedEye$Tally", "wrong", "I"), ("HuntedEye$State", 108, "HuntedEye$Tally", "learnt", "I"), ("HuntedEye$State", 111, "HuntedEye$Tally", "runs", "I"), ("HuntedEye", 322, "HuntedEye$Tally", "runs", "I"), ("HuntedEye$State", 114, "HuntedEye$Tally", "longest", "I"), ("HuntedEye$State", 117, "HuntedEye$Tally", "open", "I"), ("HuntedEye$State", 120, "HuntedEye$Tally", "right", "I"), ("HuntedEye$Log", 34, "HuntedEye$Tally", "sample", "I"), ("HuntedEye$State", 202, "HuntedEye$Tally", "sample", "I"), ("HuntedEye$Log", 40, "HuntedEye$Tally", "z", "I"), ("HuntedEye$State", 205, "HuntedEye$Tally", "z", "I"), ("HuntedEye", 316, "HuntedEye$Tally", "z", "I"), ("HuntedEye$State", 229, "HuntedEye$Tally", "foreSum", "I"), ("HuntedEye$State", 208, "HuntedEye$Tally", "errorSign", "I"), ("HuntedEye$Log", 43, "HuntedEye$Tally", "marks", "I"), ("HuntedEye$State", 211, "HuntedEye$Tally", "marks", "I"), ("HuntedEye$State", 231, "HuntedEye$Tally", "backThen", "[I"), ("HuntedEye$Eye", 44, "HuntedEye$State", "taps", "[I"), ("HuntedEye$Burst", 52, "HuntedEye$State", "taps", "[I"), ("HuntedEye$Ahead", 65, "HuntedEye$State", "taps", "[I"), ("HuntedEye", 137, "HuntedEye$State", "taps", "[I"), ("HuntedEye", 140, "HuntedEye$State", "votes", "[I"), ("HuntedEye", 213, "HuntedEye$State", "tally", "LHuntedEye$Tally;"), ("HuntedEye", 153, "HuntedEye$State", "t", "I"), ("HuntedEye$Burst", 57, "HuntedEye$State", "phase", "I"), ("HuntedEye$Eye", 85, "HuntedEye$State", "phase", "I"), ("HuntedEye", 328, "HuntedEye$State", "phase", "I"), ("HuntedEye$Eye", 96, "HuntedEye$State", "level", "I"), ("HuntedEye", 331, "HuntedEye$State", "level", "I"), ("HuntedEye$Ahead", 41, "HuntedEye$State", "gear", "I"), ("HuntedEye$Ahead", 85, "HuntedEye$State", "noise", "I"), ("HuntedEye", 378, "HuntedEye$State", "noise", "I"), ("HuntedEye", 381, "HuntedEye$State", "train", "I"), ("HuntedEye$Ahead", 30, "HuntedEye$State", "held", "Z"), ("HuntedEye", 372, "HuntedEye$State", "held", "Z"), ("HuntedEye$Ahead", 38, "HuntedEye$State", "dropped", "Z"), ("HuntedEye", 375, "HuntedEye$State", "dropped", "Z"), ("HuntedEye", 181, "HuntedEye$State", "x", "J"), ("HuntedEye", 301, "HuntedEye$Eye", "bestValue", "I"), ("HuntedEye", 304, "HuntedEye$Eye", "bestHeight", "I"), ("HuntedEye$Line", 21, "HuntedEye$Clause", "ALL", "[LHuntedEye$Clause;"), ("HuntedEye$Reader", 82, "HuntedEye$Clause", "ALL", "[LHuntedEye$Clause;"), ("HuntedEye$Reader", 126, "HuntedEye$Step", "ALL", "[LHuntedEye$Step;"), ("HuntedEye$Line", 27, "HuntedEye$Clause", "usual", "I"), ("HuntedEye$Reader", 92, "HuntedEye$Clause", "word", "Ljava/lang/String;"), ("HuntedEye$Reader", 100, "HuntedEye$Clause", "most", "I"), ("HuntedEye$Reader", 103, "HuntedEye$Clause", "low", "I"), ("HuntedEye$Reader", 106, "HuntedEye$Clause", "high", "I"), ("HuntedEye$Reader", 134, "HuntedEye$Step", "word", "Ljava/lang/String;"), ("HuntedEye$Reader", 135, "HuntedEye$Step", "numbers", "I")]
def nwM : List hNM := [("HuntedEye", 9, ⟨"HuntedEye$Reader", "<init>", "()V"⟩), ("HuntedEye$Reader", 21, ⟨"HuntedEye$Line", "<init>", "()V"⟩), ("HuntedEye$Reader", 28, ⟨"HuntedEye$Script", "<init>", "()V"⟩), ("HuntedEye", 18, ⟨"HuntedEye$Line", "<init>", "()V"⟩), ("HuntedEye", 31, ⟨"HuntedEye$State", "<init>", "()V"⟩), ("HuntedEye$State", 29, ⟨"HuntedEye$Tally", "<init>", "()V"⟩), ("HuntedEye", 57, ⟨"HuntedEye$Eye", "<init>", "()V"⟩), ("HuntedEye", 64, ⟨"HuntedEye$Burst", "<init>", "()V"⟩), ("HuntedEye$Ahead", 21, ⟨"HuntedEye$State", "<init>", "()V"⟩), ("HuntedEye", 84, ⟨"HuntedEye$Script", "<init>", "()V"⟩), ("HuntedEye$Reader", 45, ⟨"HuntedEye", "within", "(III)Z"⟩), ("HuntedEye$Line", 31, ⟨"HuntedEye", "within", "(III)Z"⟩), ("HuntedEye$Script", 25, ⟨"HuntedEye", "within", "(III)Z"⟩), ("HuntedEye$State", 124, ⟨"HuntedEye", "within", "(III)Z"⟩), ("HuntedEye$Eye", 30, ⟨"HuntedEye", "bitSign", "(II)I"⟩), ("HuntedEye$Eye", 57, ⟨"HuntedEye", "truthOf", "(LHuntedEye$Line;I)I"⟩), ("HuntedEye$Eye", 92, ⟨"HuntedEye", "within", "(III)Z"⟩), ("HuntedEye$State", 147, ⟨"HuntedEye", "push", "([II)V"⟩), ("HuntedEye$State", 157, ⟨"HuntedEye", "turned", "(J)J"⟩), ("HuntedEye$State", 161, ⟨"HuntedEye", "drawn", "(JI)I"⟩), ("HuntedEye$State", 178, ⟨"HuntedEye", "signOf", "(I)I"⟩), ("HuntedEye$State", 184, ⟨"HuntedEye", "sizeOf", "(I)I"⟩), ("HuntedEye$State", 245, ⟨"HuntedEye", "moved", "(IIII)I"⟩), ("HuntedEye$Eye", 102, ⟨"HuntedEye", "sizeOf", "(I)I"⟩), ("HuntedEye$Burst", 65, ⟨"HuntedEye", "bitSign", "(II)I"⟩), ("HuntedEye$Burst", 72, ⟨"HuntedEye", "truthOf", "(LHuntedEye$Line;I)I"⟩), ("HuntedEye$Burst", 85, ⟨"HuntedEye", "within", "(III)Z"⟩), ("HuntedEye$Tally", 77, ⟨"HuntedEye", "bitSign", "(II)I"⟩), ("HuntedEye$Ahead", 61, ⟨"HuntedEye", "within", "(III)Z"⟩), ("HuntedEye$Ahead", 74, ⟨"HuntedEye", "sizeOf", "(I)I"⟩)]
def ck_most : List Int32 := [16, 1, 1, 1, 1, 1, 1, 1, 1, 1, 1, 1, 16]
def ck_low : List Int32 := [(-60), 1, 0, 0, 1, 1, 0, 0, 0, 1, 0, 0, 0]
def ck_high : List Int32 := [60, 3, 3, 2, 99, 9, 60, 4, 99, 127, 1, 9, 1]
def ck_usual : List Int32 := [0, 2, 2, 0, 40, 1, 4, 0, 0, 1, 0, 0, 0]
def ck_len : List Nat := [5, 4, 4, 5, 5, 4, 5, 5, 5, 4, 5, 4, 4]
def ck_byt : List (List Int32) := [[112, 117, 108, 115, 101], [102, 111, 114, 101], [98, 97, 99, 107], [100, 101, 108, 97, 121], [108, 101, 118, 101, 108], [103, 101, 97, 114], [102, 108, 111, 111, 114], [110, 111, 105, 115, 101], [116, 114, 97, 105, 110], [115, 101, 101, 100], [116, 114, 97, 99, 107], [108, 111, 99, 107], [119, 111, 114, 100]]
def sk_numbers : List Int32 := [1, 1, 1, 2, 0, 1, 1, 0]
def sk_low : List Int32 := [1, 0, 0, 0, 0, 0, 0, 0]
def sk_high : List Int32 := [60, 3, 1, 5, 0, 4, 99, 0]
def sk_len : List Nat := [4, 5, 4, 3, 4, 5, 5, 4]
def sk_byt : List (List Int32) := [[115, 101, 110, 100], [112, 104, 97, 115, 101], [104, 111, 108, 100], [116, 97, 112], [100, 114, 111, 112], [110, 111, 105, 115, 101], [116, 114, 97, 105, 110], [115, 101, 101, 107]]
/-- constant objects of a class: an array of them in a static field, their ints and their words -/
def hZe (E f d : String) (N k0 k1 k2 k3 : Nat) (ints : List (String × List Int32)) (len : List Nat) (byt : List (List Int32)) (ad : Nat → Nat → Nat) (A : Nat → Prop) (U : State) (H : Heap) : Prop :=
  va_Z E f d (.ref (ad k0 0)) A U H ∧ va_T (.object E) (ad k0 0) N (fun j => .ref (ad k1 j)) A U H ∧ (∀ q ∈ ints, va_Ef N E q.1 "I" (fun i => .int (q.2.getD i 0)) (ad k1) A U H) ∧
  va_Ef N E "word" "Ljava/lang/String;" (fun i => .ref (ad k2 i)) (ad k1) A U H ∧ (∀ i : Nat, i < N → va_O E (ad k1 i) A U H) ∧
  ∀ i : Nat, i < N → va_O "java/lang/String" (ad k2 i) A U H ∧ va_OF "java/lang/String" "coder" "B" (.int 0) (ad k2 i) A U H ∧ va_OF "java/lang/String" "value" "[B" (.ref (ad k3 i)) (ad k2 i) A U H ∧ va_T .byte (ad k3 i) (len.getD i 0) (fun j => .int ((byt.getD i []).getD j 0)) A U H
theorem hZe.moved {E f d : String} {N k0 k1 k2 k3 : Nat} {ints : List (String × List Int32)} {len : List Nat} {byt : List (List Int32)} {ad : Nat → Nat → Nat} {A : Nat → Prop} {u U : State} {H : Heap} (hvm : u.vm.Alike U.vm) (h : hZe E f d N k0 k1 k2 k3 ints len byt ad A u H) : hZe E f d N k0 k1 k2 k3 ints len byt ad A U H :=
  ⟨h.1.moved hvm, h.2.1.moved hvm, fun q hq => (h.2.2.1 q hq).moved hvm, h.2.2.2.1.moved hvm, fun i hi => (h.2.2.2.2.1 i hi).moved hvm, fun i hi => ⟨(h.2.2.2.2.2 i hi).1.moved hvm, (h.2.2.2.2.2 i hi).2.1.moved hvm, (h.2.2.2.2.2 i hi).2.2.1.moved hvm, (h.2.2.2.2.2 i hi).2.2.2.moved hvm⟩⟩
theorem hZe.kept {E f d : String} {N k0 k1 k2 k3 : Nat} {ints : List (String × List Int32)} {len : List Nat} {byt : List (List Int32)} {ad : Nat → Nat → Nat} {A : Nat → Prop} {U : State} {H H1 : Heap} (h : hZe E f d N k0 k1 k2 k3 ints len byt ad A U H) (hq : ∀ a : Nat, a < H.size → ¬ A a → H1[a]? = H[a]?) : hZe E f d N k0 k1 k2 k3 ints len byt ad A U H1 :=
  ⟨h.1.kept hq, h.2.1.kept hq, fun q hp => (h.2.2.1 q hp).kept hq, h.2.2.2.1.kept hq, fun i hi => (h.2.2.2.2.1 i hi).kept hq, fun i hi => ⟨(h.2.2.2.2.2 i hi).1.kept hq, (h.2.2.2.2.2 i hi).2.1.kept hq, (h.2.2.2.2.2 i hi).2.2.1.kept hq, (h.2.2.2.2.2 i hi).2.2.2.kept hq⟩⟩
def hZ (ad : Nat → Nat → Nat) (A : Nat → Prop) (U : State) (H : Heap) : Prop :=
  (hNwF nwF U ∧ hNwM nwM U) ∧
  hZe "HuntedEye$Clause" "ALL" "[LHuntedEye$Clause;" 13 100 101 102 106 [("most", ck_most), ("low", ck_low), ("high", ck_high), ("usual", ck_usual)] ck_len ck_byt ad A U H ∧
  hZe "HuntedEye$Step" "ALL" "[LHuntedEye$Step;" 8 103 104 105 107 [("numbers", sk_numbers), ("low", sk_low), ("high", sk_high)] sk_len sk_byt ad A U H ∧
  va_Z "java/lang/String" "COMPACT_STRINGS" "Z" (.int 1) A U H ∧ va_Zq "jdk/internal/util/Preconditions" "SIOOBE_FORMATTER" "Ljava/util/function/BiFunction;" A U H
theorem hZ_kept {ad : Nat → Nat → Nat} {A : Nat → Prop} {U : State} {H H1 : Heap} (h : hZ ad A U H) (hq : ∀ a : Nat, a < H.size → ¬ A a → H1[a]? = H[a]?) : hZ ad A U H1 :=
  ⟨h.1, h.2.1.kept hq, h.2.2.1.kept hq, h.2.2.2.1.kept hq, h.2.2.2.2.elim (fun z => Or.inl (z.kept hq)) (fun ⟨t, z⟩ => Or.inr ⟨t, z.kept hq⟩)⟩
theorem hZ_warm {ad : Nat → Nat → Nat} {A : Nat → Prop} {s U : State} {H : Heap} (hW : s.WarmedH U.vm) (h : hZ ad A s H) : hZ ad A U H :=
  ⟨⟨h.1.1.warm hW, h.1.2.warm hW⟩, h.2.1.moved hW.alike, h.2.2.1.moved hW.alike, h.2.2.2.1.moved hW.alike, h.2.2.2.2.elim (fun z => Or.inl (z.moved hW.alike)) (fun ⟨t, z⟩ => Or.inr ⟨t, z.moved hW.alike⟩)⟩
theorem hZ_same {ad : Nat → Nat → Nat} {A : Nat → Prop} {s U : State} {H : Heap} (hW : s.vm = U.vm) (h : hZ ad A s H) : hZ ad A U H :=
  ⟨⟨h.1.1.same hW, h.1.2.same hW⟩, h.2.1.moved (by rw [hW]; exact Vm.Alike.refl _), h.2.2.1.moved (by rw [hW]; exact Vm.Alike.refl _), h.2.2.2.1.moved (by rw [hW]; exact Vm.Alike.refl _), h.2.2.2.2.elim (fun z => Or.inl (z.moved (by rw [hW]; exact Vm.Alike.refl _))) (fun ⟨t, z⟩ => Or.inr ⟨t, z.moved (by rw [hW]; exact Vm.Alike.refl _)⟩)⟩
/-- the world at a state -/
def hWd (D : va_G) (ad : Nat → Nat → Nat) (ca : Nat → ClassId) (m : hM) (U : State) : Prop :=
  va_P D vwCl (emb ad ca m) U.heap ∧ va_K D vwCl (hTy ca) U ∧ va_D (hA ad) (emb ad ca m) ∧ hZ ad (hA ad) U U.heap
def hQ (D : va_G) (ad : Nat → Nat → Nat) (ca : Nat → ClassId) (r : Option hV) (m : hM) : Array Value → State → Outcome → State → Prop := fun _ st oc t =>
  oc = .returned (r.map (ev ad)) ∧ va_P D vwCl (emb ad ca m) t.heap ∧ va_F (hA ad) st t
/-- a method's contract at one start: from arguments as and memory m it comes to R (nothing is said where R is none) -/
def Cn (mt : hMt) (d : Nat) (as : List hV) (m : hM) (R : hR) : Prop :=
  ∀ (r : Option hV) (m2 : hM), R = some (r, m2) → (∀ v ∈ as, hVal v) → ∀ (l : Launch) (D : va_G) (ad : Nat → Nat → Nat) (ca : Nat → ClassId),
    Met l mt.1 (hWs mt) (hRm d) (va_Pc (as.map (ev ad)) (hWd D ad ca m)) (hQ D ad ca r m2) 0 0 (hA ad)
def hLs (ad : Nat → Nat → Nat) (L : hL) : List (Nat × Value) := L.map fun q => (q.1, ev ad q.2)
/-- what stands fast within a method -/
def HC (mt : hMt) (D : va_G) (ad : Nat → Nat → Nat) (ca : Nat → ClassId) (p : Program) (s : State) (mi : MethodId) (args : Array Value) (meth : Method) (c : Code) : Prop :=
  CallFix p mi c mt.2.1 mt.2.2.1 s args (hWs mt) mt.1.cls ∧ meth.sig.returnType = mt.2.2.2 ∧ meth.locks = false ∧ va_K D vwCl (hTy ca) s ∧ hZ ad (hA ad) s s.heap
/-- what moves -/
def HS (mt : hMt) (D : va_G) (ad : Nat → Nat → Nat) (ca : Nat → ClassId) (s : State) (m : hM) (L : hL) (S : List hV) (H : Heap) (locs : List Loc) (ls : Array Slot) : Prop :=
  va_P D vwCl (emb ad ca m) H ∧ va_D (hA ad) (emb ad ca m) ∧ va_S (hA ad) s.heap H locs ∧ lv_has ls mt.2.2.1 (hLs ad L) ∧ (∀ q ∈ L, hVal q.2) ∧ ∀ v ∈ S, hVal v
/-- from pc, with locals L, stack S and memory m, the method comes to R -/
def G (mt : hMt) (d pc : Nat) (L : hL) (S : List hV) (m : hM) (R : hR) : Prop :=
  ∀ (r : Option hV) (m2 : hM), R = some (r, m2) → ∀ (l : Launch) (D : va_G) (ad : Nat → Nat → Nat) (ca : Nat → ClassId) (p : Program) (e : Env) (s : State) (mi : MethodId) (args : Array Value) (below : List Frame) (meth : Method) (c : Code) (H : Heap) (locs : List Loc) (ls : Array Slot),
    HC mt D ad ca p s mi args meth c → HS mt D ad ca s m L S H locs ls →
    W p l e (hRm d) s mi args below meth c H locs 0 0 (MQ below (hQ D ad ca r m2) args s 0 0 (hA ad)) (F0 mi pc ls (S.map (ev ad)))
def hAr : Nat → List hV → hL
  | _, [] => []
  | i, v :: vs => (i, v) :: hAr (if vcat v = 2 then i + 2 else i + 1) vs
theorem hAr_ev (ad : Nat → Nat → Nat) : ∀ (as : List hV) (i : Nat), lv_args i (as.map (ev ad)) = hLs ad (hAr i as)
  | [], _ => rfl
  | v :: vs, i => by
    show (i, ev ad v) :: lv_args (if (ev ad v).category = 2 then i + 2 else i + 1) (vs.map (ev ad)) = (i, ev ad v) :: hLs ad (hAr (if vcat v = 2 then i + 2 else i + 1) vs)
    rw [ev_cat, hAr_ev ad vs]
theorem hAr_val {as : List hV} (h : ∀ v ∈ as, hVal v) : ∀ (i : Nat), ∀ q ∈ hAr i as, hVal q.2 := by
  induction as with
  | nil => intro i q hq; cases hq
  | cons v vs ih =>
    intro i q hq
    rcases List.mem_cons.mp hq with rfl | hq
    · exact h v List.mem_cons_self
    · exact ih (fun w hw => h w (List.mem_cons_of_mem _ hw)) _ q hq
theorem lg_sl_len (ad : Nat → Nat → Nat) (as : List hV) : (lg_sl (as.map (ev ad))).length = (as.map vcat).sum := by
  induction as with
  | nil => rfl
  | cons v vs ih =>
    have e : lg_sl ((v :: vs).map (ev ad)) = (if (ev ad v).category = 2 then [Slot.val (ev ad v), Slot.second] else [Slot.val (ev ad v)]) ++ lg_sl (vs.map (ev ad)) := rfl
    rw [e, List.length_append, ih, ev_cat, List.map_cons, List.sum_cons]
    rcases v with x | y | q <;> rfl
/-- the contract out of the walk -/
theorem cn_of {mt : hMt} {d : Nat} {as : List hV} {m : hM} {R : hR} (hy : plainFor mt.1 = true) (hn : (as.map vcat).sum ≤ mt.2.2.1) (h : G mt d 0 (hAr 0 as) [] m R) : Cn mt d as m R := by
  intro r m2 hR hv l D ad ca
  obtain ⟨y, cc, maxL, ret⟩ := mt
  refine va_MetF (cc := cc) (maxL := maxL) (ret := ret) hy rfl ?_
  intro p e s mi args below meth c s₁ B hml hpre
  obtain ⟨rfl, hP, hK, hD, hz⟩ := hpre
  have hts := atoms_spec (ws := hWs (y, cc, maxL, ret)) B.pre
  have hl := lv_entry (as.map (ev ad)) (n := maxL) (by rw [lg_sl_len]; exact hn)
  rw [lg_entry_eq]
  rw [hAr_ev] at hl
  exact h r m2 hR l D ad ca p e s mi _ below meth c s.heap [] _ ⟨⟨B.exec, B.bytes, hml, findClass_of_methodNamed B.named, hts⟩, B.returns, B.notSynchronized, hK, hz⟩ ⟨hP, hD, va_S.rf, hl, hAr_val hv 0, fun v h => by cases h⟩
