/-! what the Statement gives of the constant objects -/
section
variable {args : Array Value} {s : State} {A : Nat → Prop}
theorem ze_ref {t : Term} {nm : String} (hex : (Cond.exactly t nm).before args s = true) : ∃ a : Nat, t.eval args s none [] s = some (.ref a) := by
  obtain ⟨a2, c, cA, kA, q1, -⟩ := Cond.exactly_spec (args := args) (first := s) (o := none) (s := s) (idx := []) (t := t) (cls := nm) hex
  exact ⟨a2, q1⟩
theorem ze_OF {t : Term} {o n d : String} {v : Value} {u : Term} {a : Nat} (ht : t.eval args s none [] s = some (.ref a)) (hf : (Cond.eq (.field t o n d) u).before args s = true) (hu : u.eval args s none [] s = some v) (hA : ∀ a : Nat, a < s.heap.size → ¬ A a) : va_OF o n d v a A s s.heap := by
  have hv := va_eqv hf hu
  cases hfo : s.fieldFound? o n d with
  | none =>
    rw [va_fe ht] at hv
    simp [State.fieldOf?, State.fieldNamed?, hfo] at hv
  | some x =>
    obtain ⟨cf, k, fi, f⟩ := x
    obtain ⟨g1, cell, g2, g3, -, -, g6⟩ := Term.field_spec hfo ht hv
    exact ⟨cf, k, fi, f, cell, hfo, g1, g2, g3, g6, hA _ (Array.getElem?_eq_some_iff.mp g2).1⟩
theorem ze_OFr {t : Term} {o n d : String} {a b : Nat} (ht : t.eval args s none [] s = some (.ref a)) (hv : (Term.field t o n d).eval args s none [] s = some (.ref b)) (hA : ∀ a : Nat, a < s.heap.size → ¬ A a) : va_OF o n d (.ref b) a A s s.heap := by
  cases hfo : s.fieldFound? o n d with
  | none =>
    rw [va_fe ht] at hv
    simp [State.fieldOf?, State.fieldNamed?, hfo] at hv
  | some x =>
    obtain ⟨cf, k, fi, f⟩ := x
    obtain ⟨g1, cell, g2, g3, -, -, g6⟩ := Term.field_spec hfo ht hv
    exact ⟨cf, k, fi, f, cell, hfo, g1, g2, g3, g6, hA _ (Array.getElem?_eq_some_iff.mp g2).1⟩
/-- constant objects of a class, out of the words -/
theorem hZe_of {E f d dE : String} {N k0 k1 k2 k3 : Nat} {ints : List (String × List Int32)} {len : List Nat} {byt : List (List Int32)} {nm : List String} {sx : List Nat} {C : List Cond} (hC : ∀ c ∈ C, c.before args s = true) (hN : N < 1000) (hln : ∀ i, i < N → len.getD i 0 < 1000)
    (hl : (Cond.laysStatic E f d).before args s = true) (hini : (Cond.initialized E).before args s = true)
    (h1 : Cond.arrayOf (.static E f d) (.object E) ∈ C ∧ Cond.eq (.length (.static E f d)) (.int (Int32.ofNat N)) ∈ C)
    (h2 : ∀ i, i < N → Cond.eq (.elem (.static E f d) (.int (Int32.ofNat i))) (.static E (nm.getD i "") dE) ∈ C)
    (h3 : ∀ i, i < N → Cond.exactly (.static E (nm.getD i "") dE) E ∈ C)
    (h4 : ∀ q ∈ ints, ∀ i, i < N → Cond.eq (.field (.static E (nm.getD i "") dE) E q.1 "I") (.int (q.2.getD i 0)) ∈ C)
    (h5 : ∀ i, i < N → Cond.eq (.field (.static E (nm.getD i "") dE) E "word" "Ljava/lang/String;") (.string E (sx.getD i 0)) ∈ C)
    (h6 : ∀ i, i < N → Cond.exactly (.string E (sx.getD i 0)) "java/lang/String" ∈ C)
    (h7 : ∀ i, i < N → Cond.eq (.field (.string E (sx.getD i 0)) "java/lang/String" "coder" "B") (.int 0) ∈ C)
    (h8 : ∀ i, i < N → Cond.arrayOf (.field (.string E (sx.getD i 0)) "java/lang/String" "value" "[B") .byte ∈ C ∧ Cond.eq (.length (.field (.string E (sx.getD i 0)) "java/lang/String" "value" "[B")) (.int (Int32.ofNat (len.getD i 0))) ∈ C)
    (h9 : ∀ i, i < N → ∀ j, j < len.getD i 0 → Cond.eq (.elem (.field (.string E (sx.getD i 0)) "java/lang/String" "value" "[B") (.int (Int32.ofNat j))) (.int ((byt.getD i []).getD j 0)) ∈ C)
    (hA : ∀ a : Nat, a < s.heap.size → ¬ A a) : ∃ (a0 : Nat) (a1 a2 a3 : Nat → Nat), ∀ ad : Nat → Nat → Nat, ad k0 0 = a0 → ad k1 = a1 → ad k2 = a2 → ad k3 = a3 → hZe E f d N k0 k1 k2 k3 ints len byt ad A s s.heap := by
  have e1 : ∀ i : Nat, ∃ a : Nat, i < N → (Term.static E (nm.getD i "") dE).eval args s none [] s = some (.ref a) := fun i => by
    by_cases hi : i < N
    · obtain ⟨a, ha⟩ := ze_ref (hC _ (h3 i hi)); exact ⟨a, fun _ => ha⟩
    · exact ⟨0, fun h => absurd h hi⟩
  have e2 : ∀ i : Nat, ∃ a : Nat, i < N → (Term.string E (sx.getD i 0)).eval args s none [] s = some (.ref a) := fun i => by
    by_cases hi : i < N
    · obtain ⟨a, ha⟩ := ze_ref (hC _ (h6 i hi)); exact ⟨a, fun _ => ha⟩
    · exact ⟨0, fun h => absurd h hi⟩
  obtain ⟨a1, he1⟩ := Classical.axiomOfChoice e1
  obtain ⟨a2, he2⟩ := Classical.axiomOfChoice e2
  have e3 : ∀ i : Nat, ∃ a : Nat, i < N → (Term.field (.string E (sx.getD i 0)) "java/lang/String" "value" "[B").eval args s none [] s = some (.ref a) ∧ va_T .byte a (len.getD i 0) (fun j => .int ((byt.getD i []).getD j 0)) A s s.heap := fun i => by
    by_cases hi : i < N
    · obtain ⟨a, q1, q2⟩ := va_Tof (f := fun j => .int ((byt.getD i []).getD j 0)) (A := A) (N := len.getD i 0) (by have := hln i hi; omega) (hC _ (h8 i hi).1) (va_eqt (hC _ (h8 i hi).2)) (fun j hj => va_eqt (hC _ (h9 i hi j hj))) hA
      exact ⟨a, fun _ => ⟨q1, q2⟩⟩
    · exact ⟨0, fun h => absurd h hi⟩
  obtain ⟨a3, he3⟩ := Classical.axiomOfChoice e3
  obtain ⟨a0, q1, q2⟩ := va_Tof (f := fun j => .ref (a1 j)) (A := A) (N := N) (by omega) (hC _ h1.1) (va_eqt (hC _ h1.2)) (fun j hj => va_eqv (hC _ (h2 j hj)) (he1 j hj)) hA
  refine ⟨a0, a1, a2, a3, fun ad r0 r1 r2 r3 => ?_⟩
  unfold hZe
  rw [r0, r1, r2, r3]
  refine ⟨va_Zref hl hini q1 hA, q2, fun q hq i hi => ze_OF (he1 i hi) (hC _ (h4 q hq i hi)) rfl hA, fun i hi => ze_OF (he1 i hi) (hC _ (h5 i hi)) (he2 i hi) hA, fun i hi => va_Oof (hC _ (h3 i hi)) (he1 i hi) hA, fun i hi => ⟨va_Oof (hC _ (h6 i hi)) (he2 i hi) hA, ze_OF (he2 i hi) (hC _ (h7 i hi)) rfl hA, ze_OFr (he2 i hi) (he3 i hi).1 hA, (he3 i hi).2⟩⟩
end
def nmC : List String := ["C_PULSE", "C_FORE", "C_BACK", "C_DELAY", "C_LEVEL", "C_GEAR", "C_FLOOR", "C_NOISE", "C_TRAIN", "C_SEED", "C_TRACK", "C_LOCK", "C_WORD"]
def nmT : List String := ["S_SEND", "S_PHASE", "S_HOLD", "S_TAP", "S_DROP", "S_NOISE", "S_TRAIN", "S_SEEK"]
def sxC : List Nat := [82, 88, 91, 94, 97, 100, 103, 106, 109, 112, 115, 118, 121]
def sxT : List Nat := [64, 70, 73, 76, 79, 82, 85, 88]
def fC1 : List Cond := flatC (Jvm.Cond.and given_1 narrow_1)
theorem cC1 : Cond.arrayOf (.static "HuntedEye$Clause" "ALL" "[LHuntedEye$Clause;") (.object "HuntedEye$Clause") ∈ fC1 ∧ Cond.eq (.length (.static "HuntedEye$Clause" "ALL" "[LHuntedEye$Clause;")) (.int (Int32.ofNat 13)) ∈ fC1 := by decide +kernel
theorem cC2 : ∀ i, i < 13 → Cond.eq (.elem (.static "HuntedEye$Clause" "ALL" "[LHuntedEye$Clause;") (.int (Int32.ofNat i))) (.static "HuntedEye$Clause" (nmC.getD i "") "LHuntedEye$Clause;") ∈ fC1 := by decide +kernel
theorem cC3 : ∀ i, i < 13 → Cond.exactly (.static "HuntedEye$Clause" (nmC.getD i "") "LHuntedEye$Clause;") "HuntedEye$Clause" ∈ fC1 := by decide +kernel
theorem cC4 : ∀ q ∈ [("most", ck_most), ("low", ck_low), ("high", ck_high), ("usual", ck_usual)], ∀ i, i < 13 → Cond.eq (.field (.static "HuntedEye$Clause" (nmC.getD i "") "LHuntedEye$Clause;") "HuntedEye$Clause" q.1 "I") (.int (q.2.getD i 0)) ∈ fC1 := by decide +kernel
theorem cC5 : ∀ i, i < 13 → Cond.eq (.field (.static "HuntedEye$Clause" (nmC.getD i "") "LHuntedEye$Clause;") "HuntedEye$Clause" "word" "Ljava/lang/String;") (.string "HuntedEye$Clause" (sxC.getD i 0)) ∈ fC1 := by decide +kernel
theorem cC6 : ∀ i, i < 13 → Cond.exactly (.string "HuntedEye$Clause" (sxC.getD i 0)) "java/lang/String" ∈ fC1 := by decide +kernel
theorem cC7 : ∀ i, i < 13 → Cond.eq (.field (.string "HuntedEye$Clause" (sxC.getD i 0)) "java/lang/String" "coder" "B") (.int 0) ∈ fC1 := by decide +kernel
theorem cC8 : ∀ i, i < 13 → Cond.arrayOf (.field (.string "HuntedEye$Clause" (sxC.getD i 0)) "java/lang/String" "value" "[B") .byte ∈ fC1 ∧ Cond.eq (.length (.field (.string "HuntedEye$Clause" (sxC.getD i 0)) "java/lang/String" "value" "[B")) (.int (Int32.ofNat (ck_len.getD i 0))) ∈ fC1 := by decide +kernel
theorem cC9 : ∀ i, i < 13 → ∀ j, j < ck_len.getD i 0 → Cond.eq (.elem (.field (.string "HuntedEye$Clause" (sxC.getD i 0)) "java/lang/String" "value" "[B") (.int (Int32.ofNat j))) (.int ((ck_byt.getD i []).getD j 0)) ∈ fC1 := by decide +kernel
theorem cT1 : Cond.arrayOf (.static "HuntedEye$Step" "ALL" "[LHuntedEye$Step;") (.object "HuntedEye$Step") ∈ fC1 ∧ Cond.eq (.length (.static "HuntedEye$Step" "ALL" "[LHuntedEye$Step;")) (.int (Int32.ofNat 8)) ∈ fC1 := by decide +kernel
theorem cT2 : ∀ i, i < 8 → Cond.eq (.elem (.static "HuntedEye$Step" "ALL" "[LHuntedEye$Step;") (.int (Int32.ofNat i))) (.static "HuntedEye$Step" (nmT.getD i "") "LHuntedEye$Step;") ∈ fC1 := by decide +kernel
theorem cT3 : ∀ i, i < 8 → Cond.exactly (.static "HuntedEye$Step" (nmT.getD i "") "LHuntedEye$Step;") "HuntedEye$Step" ∈ fC1 := by decide +kernel
theorem cT4 : ∀ q ∈ [("numbers", sk_numbers), ("low", sk_low), ("high", sk_high)], ∀ i, i < 8 → Cond.eq (.field (.static "HuntedEye$Step" (nmT.getD i "") "LHuntedEye$Step;") "HuntedEye$Step" q.1 "I") (.int (q.2.getD i 0)) ∈ fC1 := by decide +kernel
theorem cT5 : ∀ i, i < 8 → Cond.eq (.field (.static "HuntedEye$Step" (nmT.getD i "") "LHuntedEye$Step;") "HuntedEye$Step" "word" "Ljava/lang/String;") (.string "HuntedEye$Step" (sxT.getD i 0)) ∈ fC1 := by decide +kernel
theorem cT6 : ∀ i, i < 8 → Cond.exactly (.string "HuntedEye$Step" (sxT.getD i 0)) "java/lang/String" ∈ fC1 := by decide +kernel
theorem cT7 : ∀ i, i < 8 → Cond.eq (.field (.string "HuntedEye$Step" (sxT.getD i 0)) "java/lang/String" "coder" "B") (.int 0) ∈ fC1 := by decide +kernel
theorem cT8 : ∀ i, i < 8 → Cond.arrayOf (.field (.string "HuntedEye$Step" (sxT.getD i 0)) "java/lang/String" "value" "[B") .byte ∈ fC1 ∧ Cond.eq (.length (.field (.string "HuntedEye$Step" (sxT.getD i 0)) "java/lang/String" "value" "[B")) (.int (Int32.ofNat (sk_len.getD i 0))) ∈ fC1 := by decide +kernel
theorem cT9 : ∀ i, i < 8 → ∀ j, j < sk_len.getD i 0 → Cond.eq (.elem (.field (.string "HuntedEye$Step" (sxT.getD i 0)) "java/lang/String" "value" "[B") (.int (Int32.ofNat j))) (.int ((sk_byt.getD i []).getD j 0)) ∈ fC1 := by decide +kernel
theorem cS1 : Cond.eq (.static "java/lang/String" "COMPACT_STRINGS" "Z") (.int 1) ∈ fC1 ∧ Cond.isRef (.static "jdk/internal/util/Preconditions" "SIOOBE_FORMATTER" "Ljava/util/function/BiFunction;") ∈ fC1 := by decide +kernel
theorem tS1 : Cond.laysStatic "HuntedEye$Clause" "ALL" "[LHuntedEye$Clause;" ∈ lw_tbl ∧ Cond.initialized "HuntedEye$Clause" ∈ lw_tbl ∧ Cond.laysStatic "HuntedEye$Step" "ALL" "[LHuntedEye$Step;" ∈ lw_tbl ∧ Cond.initialized "HuntedEye$Step" ∈ lw_tbl ∧ Cond.laysStatic "java/lang/String" "COMPACT_STRINGS" "Z" ∈ lw_tbl ∧ Cond.initialized "java/lang/String" ∈ lw_tbl ∧ Cond.laysStatic "jdk/internal/util/Preconditions" "SIOOBE_FORMATTER" "Ljava/util/function/BiFunction;" ∈ lw_tbl ∧ Cond.initialized "jdk/internal/util/Preconditions" ∈ lw_tbl := by decide +kernel
theorem tF1 : ∀ q ∈ nwF, Cond.fieldLinkNest q.1 q.2.1 q.2.2.1 q.2.2.2.1 q.2.2.2.2 "HuntedEye" ∈ lw_tbl := by decide +kernel
theorem tM1 : ∀ q ∈ nwM, Cond.methodLinkNest q.1 q.2.1 q.2.2 "HuntedEye" ∈ lw_tbl := by decide +kernel
theorem tA1 : Cond.arrayOver (.object "HuntedEye$State") ∈ lw_tbl ∧ Cond.arrayOver (.object "HuntedEye$Script") ∈ lw_tbl := by decide +kernel
/-- the constants and the words of nest mates, at the law's entry -/
theorem hZ_of {args : Array Value} {s : State} {A : Nat → Prop} (hts : ∀ w ∈ lw_tbl, w.before args s = true) (hgv : (Jvm.Cond.and given_1 narrow_1).before args s = true) (hA : ∀ a : Nat, a < s.heap.size → ¬ A a) :
    nZ s ∧ ∃ (a0 b0 : Nat) (a1 a2 a3 b1 b2 b3 : Nat → Nat), ∀ ad : Nat → Nat → Nat, ad 100 0 = a0 → ad 101 = a1 → ad 102 = a2 → ad 106 = a3 → ad 103 0 = b0 → ad 104 = b1 → ad 105 = b2 → ad 107 = b3 → hZ ad A s s.heap := by
  have hs : ∀ c ∈ fC1, c.before args s = true := flat_of_before _ hgv
  obtain ⟨t1, t2, t3, t4, t5, t6, t7, t8⟩ := tS1
  obtain ⟨a0, a1, a2, a3, ha⟩ := hZe_of (args := args) (s := s) (A := A) (E := "HuntedEye$Clause") (f := "ALL") (d := "[LHuntedEye$Clause;") (dE := "LHuntedEye$Clause;") (N := 13) (k0 := 100) (k1 := 101) (k2 := 102) (k3 := 106) (ints := [("most", ck_most), ("low", ck_low), ("high", ck_high), ("usual", ck_usual)]) (len := ck_len) (byt := ck_byt) (nm := nmC) (sx := sxC) hs (by decide) (by decide +kernel) (hts _ t1) (hts _ t2) cC1 cC2 cC3 cC4 cC5 cC6 cC7 cC8 cC9 hA
  obtain ⟨b0, b1, b2, b3, hb⟩ := hZe_of (args := args) (s := s) (A := A) (E := "HuntedEye$Step") (f := "ALL") (d := "[LHuntedEye$Step;") (dE := "LHuntedEye$Step;") (N := 8) (k0 := 103) (k1 := 104) (k2 := 105) (k3 := 107) (ints := [("numbers", sk_numbers), ("low", sk_low), ("high", sk_high)]) (len := sk_len) (byt := sk_byt) (nm := nmT) (sx := sxT) hs (by decide) (by decide +kernel) (hts _ t3) (hts _ t4) cT1 cT2 cT3 cT4 cT5 cT6 cT7 cT8 cT9 hA
  have hF : hNwF nwF s := fun q hq => va_Nw.of rfl (hts _ (tF1 q hq))
  have hM : hNwM nwM s := fun q hq => va_Nw.of rfl (hts _ (tM1 q hq))
  refine ⟨⟨⟨hF, hM⟩, va_AO.of (hts _ tA1.1), va_AO.of (hts _ tA1.2)⟩, a0, b0, a1, a2, a3, b1, b2, b3, fun ad r0 r1 r2 r3 u0 u1 u2 u3 => ⟨⟨hF, hM⟩, ha ad r0 r1 r2 r3, hb ad u0 u1 u2 u3, va_Zof (hts _ t5) (hts _ t6) (va_eqi (hs _ cS1.1)) hA, va_Zqof (hts _ t7) (hts _ t8) (hs _ cS1.2) hA⟩⟩
