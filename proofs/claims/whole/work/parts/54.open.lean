/-! bounds of numbers -/
theorem bm32 {n : Int} (h1 : -2147483648 ≤ n) (h2 : n < 2147483648) : n.bmod (2 ^ 32) = n := by
  rw [Int.bmod_def]
  omega
theorem j_add {x y : Int32} (h1 : -2147483648 ≤ x.toInt + y.toInt) (h2 : x.toInt + y.toInt < 2147483648) : (x + y).toInt = x.toInt + y.toInt := by rw [Int32.toInt_add, bm32 h1 h2]
theorem j_sub {x y : Int32} (h1 : -2147483648 ≤ x.toInt - y.toInt) (h2 : x.toInt - y.toInt < 2147483648) : (x - y).toInt = x.toInt - y.toInt := by rw [Int32.toInt_sub, bm32 h1 h2]
theorem j_mul {x y : Int32} (h1 : -2147483648 ≤ x.toInt * y.toInt) (h2 : x.toInt * y.toInt < 2147483648) : (x * y).toInt = x.toInt * y.toInt := by rw [Int32.toInt_mul, bm32 h1 h2]
theorem j_neg {x : Int32} (h1 : -2147483648 ≤ -x.toInt) (h2 : -x.toInt < 2147483648) : (-x).toInt = -x.toInt := by rw [Int32.toInt_neg, bm32 h1 h2]
def ab (a : Int32) (N : Nat) : Prop := bw a (-(N : Int)) N
section
variable {a b : Int32} {M N : Nat}
theorem ab_w (p : ab a M) (h : M ≤ N) : ab a N := ⟨by have := p.1; omega, by have := p.2; omega⟩
theorem ab_add (p : ab a M) (q : ab b N) (h : M + N < 2147483648) : ab (a + b) (M + N) := by
  have p1 := p.1; have p2 := p.2; have q1 := q.1; have q2 := q.2
  have e := j_add (x := a) (y := b) (by omega) (by omega)
  refine ⟨?_, ?_⟩
  · rw [e]; omega
  · rw [e]; omega
theorem ab_sub (p : ab a M) (q : ab b N) (h : M + N < 2147483648) : ab (a - b) (M + N) := by
  have p1 := p.1; have p2 := p.2; have q1 := q.1; have q2 := q.2
  have e := j_sub (x := a) (y := b) (by omega) (by omega)
  refine ⟨?_, ?_⟩
  · rw [e]; omega
  · rw [e]; omega
theorem ab_neg (p : ab a M) (h : M < 2147483648) : ab (-a) M := by
  have p1 := p.1; have p2 := p.2
  have e := j_neg (x := a) (by omega) (by omega)
  refine ⟨?_, ?_⟩
  · rw [e]; omega
  · rw [e]; omega
theorem mul_abs {x y : Int} {M N : Nat} (h1 : -(M : Int) ≤ x) (h2 : x ≤ M) (h3 : -(N : Int) ≤ y) (h4 : y ≤ N) : -((M * N : Nat) : Int) ≤ x * y ∧ x * y ≤ ((M * N : Nat) : Int) := by
  have e : (x * y).natAbs ≤ M * N := by
    rw [Int.natAbs_mul]
    exact Nat.mul_le_mul (by omega) (by omega)
  generalize x * y = z at *
  generalize M * N = K at *
  omega
theorem ab_mul (p : ab a M) (q : ab b N) (h : M * N < 2147483648) : ab (a * b) (M * N) := by
  have z := mul_abs p.1 p.2 q.1 q.2
  have e := j_mul (x := a) (y := b) (by generalize M * N = K at *; omega) (by generalize M * N = K at *; omega)
  refine ⟨?_, ?_⟩
  · rw [e]; exact z.1
  · rw [e]; exact z.2
theorem ab_0 : ab 0 N := ⟨by show -(N : Int) ≤ (0 : Int32).toInt; rw [Int32.toInt_zero]; omega, by show (0 : Int32).toInt ≤ _; rw [Int32.toInt_zero]; omega⟩
end
theorem ab_sum {t : Nat → Int32} {M : Nat} : ∀ n, n * M < 2147483648 → (∀ i, i < n → ab (t i) M) → ab (sumN t n) (n * M) := by
  intro n
  induction n with
  | zero => intro _ _; exact ab_0
  | succ n ih =>
    intro h1 h2
    have e : (n + 1) * M = n * M + M := Nat.succ_mul n M
    rw [e] at h1 ⊢
    exact ab_add (ih (by omega) (fun i hi => h2 i (by omega))) (h2 n (by omega)) h1
theorem bsg_b (row k : Int32) : ab (bsg row k) 1 := by
  unfold bsg
  split
  · exact ⟨by decide, by decide⟩
  · exact ⟨by decide, by decide⟩
theorem shF_b {p : Nat → Int32} {P ph t : Nat} {row : Int32} (hp : ∀ j, j < P → bw (p j) (-60) 60) (hP : P ≤ 16) : ab (shF p P ph row t) 240 := by
  have hk : Kn P ph ≤ 4 := by unfold Kn; omega
  unfold shF
  refine ab_w (M := Kn P ph * 60) (ab_sum _ (by omega) (fun i hi => ?_)) (by omega)
  have hb : 4 * i + ph < P := by unfold Kn at hi; omega
  exact ab_mul (M := 60) (N := 1) (hp _ hb) (bsg_b _ _) (by decide)
theorem zFo_b {p : Nat → Int32} {P ph F : Nat} {v : Nat → Int32} {row : Int32} (hp : ∀ j, j < P → bw (p j) (-60) 60) (hP : P ≤ 16) (hv : ∀ i, i < 6 → bw (v i) (-255) 255) (hF : F ≤ 3) : ab (zFo p P ph v row F) 183600 := by
  unfold zFo
  refine ab_w (M := F * (255 * 240)) (ab_sum _ (by omega) (fun i hi => ?_)) (by omega)
  exact ab_mul (M := 255) (N := 240) (hv i (by omega)) (shF_b hp hP) (by decide)
theorem zRw_b {p : Nat → Int32} {P ph F B D : Nat} {v : Nat → Int32} {row wr : Int32} (hp : ∀ j, j < P → bw (p j) (-60) 60) (hP : P ≤ 16) (hv : ∀ i, i < 6 → bw (v i) (-255) 255) (hF : F ≤ 3) (hB : B ≤ 3) : ab (zRw p F B D P ph v row wr) 232560 := by
  have e : ∀ n, n ≤ B → ab (fr (zBk F D v row wr) (zFo p P ph v row F) n) (183600 + n * 16320) := by
    intro n
    induction n with
    | zero => intro _; exact zFo_b hp hP hv hF
    | succ n ih =>
      intro hn
      have q : ab (64 * (if (if hbt row (nI (D + 1 + n)) = 1 then (1 : Int32) else 0) = (if hbt wr (nI n) = 1 then 1 else 0) then -(v (F + n)) else v (F + n))) (64 * 255) := by
        refine ab_mul (M := 64) (N := 255) ⟨by decide, by decide⟩ ?_ (by omega)
        have q2 : ab (v (F + n)) 255 := hv _ (by omega)
        by_cases cc : (if hbt row (nI (D + 1 + n)) = 1 then (1 : Int32) else 0) = (if hbt wr (nI n) = 1 then 1 else 0)
        · rw [if_pos cc]; exact ab_neg (M := 255) q2 (by omega)
        · rw [if_neg cc]; exact q2
      exact ab_w (ab_sub (ih (by omega)) q (by omega)) (by omega)
  exact ab_w (e B (Nat.le_refl _)) (by omega)
theorem zRw_c {p p2 : Nat → Int32} {P ph F B D : Nat} {v v2 : Nat → Int32} {row wr : Int32} (hF : F ≤ 3) (hB : B ≤ 3) (hp : p = p2) (hv : ∀ i, i < 6 → v i = v2 i) : zRw p F B D P ph v row wr = zRw p2 F B D P ph v2 row wr := by
  subst hp
  unfold zRw
  have e1 : zFo p P ph v row F = zFo p P ph v2 row F := by
    unfold zFo
    exact sumN_congr _ (fun i hi => by rw [hv i (by omega)])
  rw [e1]
  have e : ∀ n, n ≤ B → fr (zBk F D v row wr) (zFo p P ph v2 row F) n = fr (zBk F D v2 row wr) (zFo p P ph v2 row F) n := by
    intro n
    induction n with
    | zero => intro _; rfl
    | succ n ih =>
      intro hn
      show zBk F D v row wr n _ = zBk F D v2 row wr n _
      rw [ih (by omega)]
      unfold zBk
      rw [hv (F + n) (by omega)]
  exact e B (Nat.le_refl _)
/-! the least and the greatest -/
def hiF (D : Nat) (z : Nat → Int32) : Nat → Int32 → Int32 := fun r x => if hbt (nI r) (nI D) = 1 then hmn x (z r) else x
def loF (D : Nat) (z : Nat → Int32) : Nat → Int32 → Int32 := fun r x => if hbt (nI r) (nI D) = 1 then x else hmx x (z r)
def hiR (D : Nat) (z : Nat → Int32) : Int32 := fr (hiF D z) 2147483647 64
def loR (D : Nat) (z : Nat → Int32) : Int32 := fr (loF D z) (-2147483648) 64
def hgt (D : Nat) (z : Nat → Int32) : Int32 := hiR D z - loR D z
theorem hmn_r {a z : Int32} (h : z.toInt ≤ a.toInt) : hmn a z = z := by
  unfold hmn
  by_cases c : z < a
  · rw [if_pos c]
  · rw [if_neg c]
    rw [Int32.lt_iff_toInt_lt] at c
    exact Int32.toInt_inj.mp (by omega)
theorem hmx_r {a z : Int32} (h : a.toInt ≤ z.toInt) : hmx a z = z := by
  unfold hmx
  by_cases c : a < z
  · rw [if_pos c]
  · rw [if_neg c]
    rw [Int32.lt_iff_toInt_lt] at c
    exact Int32.toInt_inj.mp (by omega)
theorem hmn_b {a z : Int32} {N : Nat} (h1 : ab a N) (h2 : ab z N) : ab (hmn a z) N := by
  unfold hmn
  split
  · exact h2
  · exact h1
theorem hmx_b {a z : Int32} {N : Nat} (h1 : ab a N) (h2 : ab z N) : ab (hmx a z) N := by
  unfold hmx
  split
  · exact h2
  · exact h1
theorem hi_two {D N : Nat} {z : Nat → Int32} {a b : Int32} (hz : ∀ r, r < 64 → ab (z r) N) (ha : (N : Int) ≤ a.toInt) (hb : (N : Int) ≤ b.toInt) : ∀ n, n ≤ 64 → ((∀ r, r < n → ¬ hbt (nI r) (nI D) = 1) ∧ fr (hiF D z) a n = a ∧ fr (hiF D z) b n = b) ∨ (fr (hiF D z) a n = fr (hiF D z) b n ∧ ab (fr (hiF D z) b n) N) := by
  intro n
  induction n with
  | zero => intro _; exact Or.inl ⟨fun r hr => absurd hr (by omega), rfl, rfl⟩
  | succ n ih =>
    intro hn
    have q := hz n (by omega)
    show ((∀ r, r < n + 1 → ¬ hbt (nI r) (nI D) = 1) ∧ hiF D z n (fr (hiF D z) a n) = a ∧ hiF D z n (fr (hiF D z) b n) = b) ∨ (hiF D z n (fr (hiF D z) a n) = hiF D z n (fr (hiF D z) b n) ∧ ab (hiF D z n (fr (hiF D z) b n)) N)
    unfold hiF
    by_cases c : hbt (nI n) (nI D) = 1
    · simp only [if_pos c]
      right
      rcases ih (by omega) with ⟨_, e1, e2⟩ | ⟨e1, e2⟩
      · have e1' : fr (fun r x => if hbt (nI r) (nI D) = 1 then hmn x (z r) else x) a n = a := e1
        have e2' : fr (fun r x => if hbt (nI r) (nI D) = 1 then hmn x (z r) else x) b n = b := e2
        rw [e1', e2', hmn_r (by have := q.2; omega), hmn_r (by have := q.2; omega)]
        exact ⟨rfl, q⟩
      · have e1' : fr (fun r x => if hbt (nI r) (nI D) = 1 then hmn x (z r) else x) a n = fr (fun r x => if hbt (nI r) (nI D) = 1 then hmn x (z r) else x) b n := e1
        rw [e1']
        exact ⟨rfl, hmn_b e2 q⟩
    · simp only [if_neg c]
      rcases ih (by omega) with ⟨e0, e1, e2⟩ | e
      · left
        refine ⟨fun r hr => ?_, e1, e2⟩
        by_cases e : r = n
        · rw [e]; exact c
        · exact e0 r (by omega)
      · exact Or.inr e
theorem lo_two {D N : Nat} {z : Nat → Int32} {a b : Int32} (hz : ∀ r, r < 64 → ab (z r) N) (ha : a.toInt ≤ -(N : Int)) (hb : b.toInt ≤ -(N : Int)) : ∀ n, n ≤ 64 → ((∀ r, r < n → hbt (nI r) (nI D) = 1) ∧ fr (loF D z) a n = a ∧ fr (loF D z) b n = b) ∨ (fr (loF D z) a n = fr (loF D z) b n ∧ ab (fr (loF D z) b n) N) := by
  intro n
  induction n with
  | zero => intro _; exact Or.inl ⟨fun r hr => absurd hr (by omega), rfl, rfl⟩
  | succ n ih =>
    intro hn
    have q := hz n (by omega)
    show ((∀ r, r < n + 1 → hbt (nI r) (nI D) = 1) ∧ loF D z n (fr (loF D z) a n) = a ∧ loF D z n (fr (loF D z) b n) = b) ∨ (loF D z n (fr (loF D z) a n) = loF D z n (fr (loF D z) b n) ∧ ab (loF D z n (fr (loF D z) b n)) N)
    unfold loF
    by_cases c : hbt (nI n) (nI D) = 1
    · simp only [if_pos c]
      rcases ih (by omega) with ⟨e0, e1, e2⟩ | e
      · left
        refine ⟨fun r hr => ?_, e1, e2⟩
        by_cases e : r = n
        · rw [e]; exact c
        · exact e0 r (by omega)
      · exact Or.inr e
    · simp only [if_neg c]
      right
      rcases ih (by omega) with ⟨_, e1, e2⟩ | ⟨e1, e2⟩
      · have e1' : fr (fun r x => if hbt (nI r) (nI D) = 1 then x else hmx x (z r)) a n = a := e1
        have e2' : fr (fun r x => if hbt (nI r) (nI D) = 1 then x else hmx x (z r)) b n = b := e2
        rw [e1', e2', hmx_r (by have := q.1; omega), hmx_r (by have := q.1; omega)]
        exact ⟨rfl, q⟩
      · have e1' : fr (fun r x => if hbt (nI r) (nI D) = 1 then x else hmx x (z r)) a n = fr (fun r x => if hbt (nI r) (nI D) = 1 then x else hmx x (z r)) b n := e1
        rw [e1']
        exact ⟨rfl, hmx_b e2 q⟩
theorem hbt_2 : ∀ D, D < 3 → hbt (nI (2 ^ D)) (nI D) = 1 := by decide +kernel
theorem hi_eq {D : Nat} {z : Nat → Int32} (hz : ∀ r, r < 64 → ab (z r) 1000000) (hD : D ≤ 2) : fr (hiF D z) 1000000000 64 = hiR D z ∧ ab (hiR D z) 1000000 := by
  rcases hi_two (D := D) hz (a := 1000000000) (b := 2147483647) (by decide) (by decide) 64 (Nat.le_refl _) with ⟨e, _⟩ | e
  · exact absurd (hbt_2 D (by omega)) (e (2 ^ D) (by have : 2 ^ D ≤ 2 ^ 2 := Nat.pow_le_pow_right (by decide) hD; omega))
  · exact e
theorem lo_eq {D : Nat} {z : Nat → Int32} (hz : ∀ r, r < 64 → ab (z r) 1000000) (hD : D ≤ 2) : fr (loF D z) (-1000000000) 64 = loR D z ∧ ab (loR D z) 1000000 := by
  rcases lo_two (D := D) hz (a := -1000000000) (b := -2147483648) (by decide) (by decide) 64 (Nat.le_refl _) with ⟨e, _⟩ | e
  · exact absurd (e 0 (by decide)) (hbt_0 D (by omega))
  · exact e
theorem hiF_c {D : Nat} {a : Int32} {z y : Nat → Int32} {N : Nat} (h : ∀ r, r < N → z r = y r) : ∀ n, n ≤ N → fr (hiF D z) a n = fr (hiF D y) a n := by
  intro n
  induction n with
  | zero =>
    intro _
    show a = a
    rfl
  | succ n ih =>
    intro hn
    show hiF D z n _ = hiF D y n _
    rw [ih (by omega)]
    unfold hiF
    rw [h n (by omega)]
theorem loF_c {D : Nat} {a : Int32} {z y : Nat → Int32} {N : Nat} (h : ∀ r, r < N → z r = y r) : ∀ n, n ≤ N → fr (loF D z) a n = fr (loF D y) a n := by
  intro n
  induction n with
  | zero =>
    intro _
    show a = a
    rfl
  | succ n ih =>
    intro hn
    show loF D z n _ = loF D y n _
    rw [ih (by omega)]
    unfold loF
    rw [h n (by omega)]
theorem hiR_c {D : Nat} {z y : Nat → Int32} (h : ∀ r, r < 64 → z r = y r) : hiR D z = hiR D y := by
  unfold hiR
  rw [hiF_c h 64 (Nat.le_refl _)]
theorem loR_c {D : Nat} {z y : Nat → Int32} (h : ∀ r, r < 64 → z r = y r) : loR D z = loR D y := by
  unfold loR
  rw [loF_c h 64 (Nat.le_refl _)]
theorem hgt_c {D : Nat} {z y : Nat → Int32} (h : ∀ r, r < 64 → z r = y r) : hgt D z = hgt D y := by
  unfold hgt
  rw [hiR_c h, loR_c h]
/-! the class looks -/
theorem Ln_w {m m2 : hM} {F B D P W : Nat} (h : ∀ c, m2.1 5 0 c = m.1 5 0 c) (hl : Ln m 0 F B D P W) : Ln m2 0 F B D P W := by
  unfold Ln
  rw [h, h, h, h, h]
  exact hl
theorem n64 {i : Nat} (h : i < 64) : ¬ (64 : Int32) ≤ nI i := nI_ge (a := i) (b := 64) h (by decide)
section
variable {m : hM} {n F B D P W ph : Nat}
theorem bsg_1 (row k : Int32) : (bsg row k = 1) ↔ hbt row k = 1 := by
  unfold bsg
  by_cases c : hbt row k = 1
  · rw [if_pos c]; exact ⟨fun _ => c, fun _ => rfl⟩
  · rw [if_neg c]; exact ⟨fun e => absurd e (by decide), fun e => absurd e c⟩
theorem bsg_m (row k : Int32) : (bsg row k = -1) ↔ ¬ hbt row k = 1 := by
  unfold bsg
  by_cases c : hbt row k = 1
  · rw [if_pos c]; exact ⟨fun e => absurd e (by decide), fun e => absurd c e⟩
  · rw [if_neg c]; exact ⟨fun _ => c, fun _ => rfl⟩
theorem c_look {v : Nat → Int32} (hl : Ln m 0 F B D P W) (hp : ph ≤ 3) (hv : ∀ i, i < 6 → m.1 13 n i = v i) : JX3_look 0 n (nI ph) m = some (none, rst m 25 0 (fun r => zRw (m.1 6 0) F B D P ph v (nI r) 0) 0 64) := by
  unfold JX3_look
  refine Eq.trans ((congrArg (fun z => JX3_look_3 (fun m4 => some (none, m4)) 0 n (nI ph) FU 0 z) (rst_0 (m := m) (t := 25) (n := 0) (lo := 0) (u := fun r => zRw (m.1 6 0) F B D P ph v (nI r) 0)).symm).trans (lpF (fun f (a : Int32 × hM) => JX3_look_3 (fun m4 => some (none, m4)) 0 n (nI ph) f a.1 a.2) (fun i => (nI i, rst m 25 0 (fun r => zRw (m.1 6 0) F B D P ph v (nI r) 0) 0 i)) 64 (by omega) (by
    intro i f hi
    show bJX3_look_3 _ _ _ _ _ (nI i) _ = _
    unfold bJX3_look_3
    have e6 : (rst m 25 0 (fun r => zRw (m.1 6 0) F B D P ph v (nI r) 0) 0 i).1 6 0 = m.1 6 0 := by funext c; exact rst_o (by decide)
    rw [if_neg (n64 hi), c_rowZ (v := v) (Ln_w (fun c => rst_o (by decide)) hl) hp (fun i hi => by rw [rst_o (Or.inl (by decide))]; exact hv i hi), calI_s, e6, ast_n (t := 25) (n := 0) i rfl (by decide) (show i < 64 from hi)]
    have e := rst_s (m := m) (t := 25) (n := 0) (lo := 0) (N := i) (u := fun r => zRw (m.1 6 0) F B D P ph v (nI r) 0)
    rw [Nat.zero_add] at e
    rw [e]
    show JX3_look_3 _ _ _ _ f (nI i + 1) _ = JX3_look_3 _ _ _ _ f _ _
    rw [← nI_succ]))) ?_
  show bJX3_look_3 _ _ _ _ _ (nI 64) _ = _
  unfold bJX3_look_3
  rw [if_pos (by decide)]
theorem c_high {z : Nat → Int32} (hl : Ln m 0 F B D P W) (hz : ∀ r, r < 64 → m.1 25 0 r = z r) (hb : ∀ r, r < 64 → ab (z r) 1000000) : JX3_high 0 m = some (some (.inl (hiR D z)), m) := by
  have d2 : D ≤ 2 := hl.2.2.2.2.2.2.2.2.1
  unfold JX3_high
  rw [← (hi_eq hb d2).1]
  refine Eq.trans (lpF (fun f (a : Int32 × Int32) => JX3_high_5 (fun v2 m6 => some (some (.inl v2), m6)) 0 f a.1 a.2 m) (fun i => (fr (hiF D z) 1000000000 i, nI i)) 64 (by omega) (by
    intro i f hi
    show bJX3_high_5 _ _ _ _ (nI i) _ = _
    unfold bJX3_high_5 JX3_high_31
    rw [if_neg (n64 hi), g_truth hl, calI_s]
    show _ = JX3_high_5 _ _ f (hiF D z i (fr (hiF D z) 1000000000 i)) (nI (i + 1)) m
    rw [nI_succ]
    unfold hiF
    by_cases c : hbt (nI i) (nI D) = 1
    · rw [if_pos ((bsg_1 _ _).mpr c), if_pos c, ald_n (t := 25) (n := 0) i rfl (by decide) (show i < 64 from hi), hz i hi, e_min, calI_s]
    · rw [if_neg (fun e => c ((bsg_1 _ _).mp e)), if_neg c])) ?_
  show bJX3_high_5 _ _ _ _ (nI 64) _ = _
  unfold bJX3_high_5
  rw [if_pos (by decide)]
theorem c_low {z : Nat → Int32} (hl : Ln m 0 F B D P W) (hz : ∀ r, r < 64 → m.1 25 0 r = z r) (hb : ∀ r, r < 64 → ab (z r) 1000000) : JX3_low 0 m = some (some (.inl (loR D z)), m) := by
  have d2 : D ≤ 2 := hl.2.2.2.2.2.2.2.2.1
  unfold JX3_low
  rw [← (lo_eq hb d2).1]
  refine Eq.trans (lpF (fun f (a : Int32 × Int32) => JX3_low_5 (fun v2 m6 => some (some (.inl v2), m6)) 0 f a.1 a.2 m) (fun i => (fr (loF D z) (-1000000000) i, nI i)) 64 (by omega) (by
    intro i f hi
    show bJX3_low_5 _ _ _ _ (nI i) _ = _
    unfold bJX3_low_5 JX3_low_31
    rw [if_neg (n64 hi), g_truth hl, calI_s]
    show _ = JX3_low_5 _ _ f (loF D z i (fr (loF D z) (-1000000000) i)) (nI (i + 1)) m
    rw [nI_succ]
    unfold loF
    by_cases c : hbt (nI i) (nI D) = 1
    · rw [if_neg (fun e => (bsg_m _ _).mp e c), if_pos c]
    · rw [if_pos ((bsg_m _ _).mpr c), if_neg c, ald_n (t := 25) (n := 0) i rfl (by decide) (show i < 64 from hi), hz i hi, e_max, calI_s])) ?_
  show bJX3_low_5 _ _ _ _ (nI 64) _ = _
  unfold bJX3_low_5
  rw [if_pos (by decide)]
theorem c_height {z : Nat → Int32} (hl : Ln m 0 F B D P W) (hz : ∀ r, r < 64 → m.1 25 0 r = z r) (hb : ∀ r, r < 64 → ab (z r) 1000000) : JX3_height 0 m = some (some (.inl (hgt D z)), m) := by
  unfold JX3_height
  rw [c_high hl hz hb, calI_s, c_low hl hz hb, calI_s]
  rfl
end
/-! the reference lays its opening -/
def HL (m : hM) (h l : Int32) : hM := uI (uI m 40 0 25 h) 40 0 26 l
section
variable {m : hM} {h l x : Int32}
theorem HL_25 : (HL m h l).1 40 0 25 = h := by
  unfold HL
  rw [uI_n (by decide), uI_s]
theorem HL_26 : (HL m h l).1 40 0 26 = l := uI_s
theorem HL_o {a b c : Nat} (q : a ≠ 40 ∨ (c ≠ 25 ∧ c ≠ 26)) : (HL m h l).1 a b c = m.1 a b c := by
  unfold HL
  rw [uI_n (by omega), uI_n (by omega)]
theorem uI_2 {t n k : Nat} {y : Int32} : uI (uI m t n k x) t n k y = uI m t n k y := by
  apply Prod.ext
  · funext a b c
    show (if a = t ∧ b = n ∧ c = k then y else if a = t ∧ b = n ∧ c = k then x else m.1 a b c) = if a = t ∧ b = n ∧ c = k then y else m.1 a b c
    by_cases q : a = t ∧ b = n ∧ c = k
    · rw [if_pos q, if_pos q]
    · rw [if_neg q, if_neg q, if_neg q]
  · rfl
theorem uI_cm {t n k t2 n2 k2 : Nat} {y : Int32} (q : t ≠ t2 ∨ n ≠ n2 ∨ k ≠ k2) : uI (uI m t n k x) t2 n2 k2 y = uI (uI m t2 n2 k2 y) t n k x := by
  apply Prod.ext
  · funext a b c
    show (if a = t2 ∧ b = n2 ∧ c = k2 then y else if a = t ∧ b = n ∧ c = k then x else m.1 a b c) = if a = t ∧ b = n ∧ c = k then x else if a = t2 ∧ b = n2 ∧ c = k2 then y else m.1 a b c
    by_cases q1 : a = t2 ∧ b = n2 ∧ c = k2
    · rw [if_pos q1, if_neg (by omega), if_pos q1]
    · rw [if_neg q1, if_neg q1]
  · rfl
theorem HL_u25 : uI (HL m h l) 40 0 25 x = HL m x l := by
  unfold HL
  rw [uI_cm (by decide), uI_2]
theorem HL_u26 : uI (HL m h l) 40 0 26 x = HL m h x := uI_2
theorem HL_HL {h2 l2 : Int32} : HL (HL m h l) h2 l2 = HL m h2 l2 := by
  show uI (uI (HL m h l) 40 0 25 h2) 40 0 26 l2 = _
  rw [HL_u25, HL_u26]
end
section
variable {m : hM} {F B D P W ph : Nat}
/-- all rows of the reference -/
def zR (m : hM) (F B D P ph : Nat) : Nat → Int32 := fun r => zRw (m.1 6 0) F B D P ph (m.1 50 0) (nI r) 0
theorem LL_HL {h l : Int32} (hl : LL m F B D P W) : LL (HL m h l) F B D P W := LL_w (fun a c q => HL_o (by omega)) hl
theorem m_lay (hl : LL m F B D P W) (hp : ph ≤ 3) : JX12_layOpening (nI ph) m = some (none, HL m (hiR D (zR m F B D P ph)) (loR D (zR m F B D P ph))) := by
  unfold JX12_layOpening
  rw [stI_s, stI_s]
  refine Eq.trans (lpF (fun f (a : Int32 × hM) => JX12_layOpening_16 (fun m14 => some (none, m14)) (nI ph) f a.1 a.2) (fun i => (nI i, HL m (fr (hiF D (zR m F B D P ph)) 2147483647 i) (fr (loF D (zR m F B D P ph)) (-2147483648) i))) 64 (by omega) (by
    intro i f hi
    show bJX12_layOpening_16 _ _ _ (nI i) (HL m _ _) = JX12_layOpening_16 _ _ f (nI (i + 1)) (HL m (hiF D (zR m F B D P ph) i (fr (hiF D (zR m F B D P ph)) 2147483647 i)) (loF D (zR m F B D P ph) i (fr (loF D (zR m F B D P ph)) (-2147483648) i)))
    generalize fr (hiF D (zR m F B D P ph)) 2147483647 i = h
    generalize fr (loF D (zR m F B D P ph)) (-2147483648) i = l
    unfold bJX12_layOpening_16 JX12_layOpening_70
    have e6 : (HL m h l).1 6 0 = m.1 6 0 := by funext c; exact HL_o (Or.inl (by decide))
    have e50 : (HL m h l).1 50 0 = m.1 50 0 := by funext c; exact HL_o (Or.inl (by decide))
    have hl2 := LL_HL (h := h) (l := l) hl
    rw [if_neg (n64 hi), m_weighRow hl2 hp, calI_s, e6, e50, ald_n (i := 3) (t := 45) (n := 0) 3 rfl (by decide) (by decide), hl2.2.1.1 3 (by decide), hl2.1.2.2.2.1, e_has, calI_s, nI_succ i]
    unfold hiF loF
    by_cases c : hbt (nI i) (nI D) = 1
    · rw [if_pos c, if_neg (by decide), if_pos c, if_pos c, HL_25, e_min, calI_s, stI_s, HL_u25]
      rfl
    · rw [if_neg c, if_pos rfl, if_neg c, if_neg c, HL_26, e_max, calI_s, stI_s, HL_u26]
      rfl)) ?_
  show bJX12_layOpening_16 _ _ _ (nI 64) _ = _
  unfold bJX12_layOpening_16
  rw [if_pos (by decide)]
  rfl
theorem m_heightOf (hl : LL m F B D P W) (hp : ph ≤ 3) : JX12_heightOf (nI ph) m = some (some (.inl (hgt D (zR m F B D P ph))), HL m (hiR D (zR m F B D P ph)) (loR D (zR m F B D P ph))) := by
  unfold JX12_heightOf
  rw [m_lay hl hp, calV_s, HL_25, HL_26]
  rfl
end
