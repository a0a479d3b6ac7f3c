section
variable {m : hM} {n ln F B D P W : Nat} {w : Nat → Int32} {x : Int64}
/-- the line's answer, when the row was sent -/
def pav (m : hM) (ln P : Nat) (j : Nat) : Int32 := if j < P then m.1 6 ln j else 0
theorem c_pulseAt (j : Nat) {a : Int32} (ha : a = nI j) (hj : j < 1000) (hl : Ln m ln F B D P W) : JX4_pulseAt ln a (Sm m n w x) = some (some (.inl (pav m ln P j)), Sm m n w x) := by
  obtain ⟨l0, l1, l2, l3, l4, f1, f2, b2, d2, p2, w2⟩ := hl
  subst ha
  unfold JX4_pulseAt pav
  rw [if_neg (nI_pos (by omega)), SL0, l0]
  by_cases h : j < P
  · rw [if_neg (nI_ge h (by omega)), if_neg (show ¬ (16 : Int32) ≤ nI j from nI_ge (a := j) (b := 16) (by omega) (by decide)), Spul j rfl (by omega), if_pos h]
  · rw [if_pos (nI_le (by omega) (by omega)), if_neg h]
def smv (m : hM) (ln P ph : Nat) (w : Nat → Int32) : Int32 := sumN (fun k => pav m ln P (4 * k + ph) * w (31 + k)) 6
theorem c_sampleWith {a : Int32} {ph : Nat} (hp : w 14 = nI ph) (hp2 : ph ≤ 3) (hl : Ln m ln F B D P W) : JX8_sampleWith n ln a (Sm m n w x) = some (some (.inl (if w 22 = 0 then a + smv m ln P ph w else 0)), Sm m n w x) := by
  unfold JX8_sampleWith
  rw [Sm_r (by decide), show ix 12 16 = 22 from rfl]
  by_cases c : w 22 = 0
  · rw [if_pos c, if_pos c]
    have e := lpF (fun f (a : Int32 × Int32) => JX8_sampleWith_14 (fun v3 m8 => some (some (.inl v3), m8)) n ln f a.1 a.2 (Sm m n w x)) (fun i => (a + sumN (fun k => pav m ln P (4 * k + ph) * w (31 + k)) i, nI i)) 6 (by omega) (by
      intro i f hi
      show bJX8_sampleWith_14 _ _ n ln _ (nI i) _ = _
      unfold bJX8_sampleWith_14
      rw [if_neg (n6 hi), Sm_r (by decide), show ix 12 7 = 14 from rfl, hp, show (4 : Int32) * nI i + nI ph = nI (4 * i + ph) from by rw [show (4 : Int32) = nI 4 from rfl, pk_mul, nI_add], c_pulseAt (4 * i + ph) rfl (by omega) hl, calI_s, R15 i rfl (by omega), lt_s9]
      show JX8_sampleWith_14 _ n ln f _ (nI i + 1) _ = JX8_sampleWith_14 _ n ln f _ _ _
      rw [← nI_succ, Int32.add_assoc]
      rfl)
    rw [show a = a + sumN (fun k => pav m ln P (4 * k + ph) * w (31 + k)) 0 from (Int32.add_zero a).symm]
    refine Eq.trans e ?_
    rw [Int32.add_assoc, show sumN (fun k => pav m ln P (4 * k + ph) * w (31 + k)) 0 = 0 from rfl, Int32.zero_add]
    show bJX8_sampleWith_14 _ _ n ln _ (nI 6) _ = _
    unfold bJX8_sampleWith_14
    rw [if_pos (by decide)]
    rfl
  · rw [if_neg c, if_neg c]
theorem c_truthNow (hl : Ln m ln F B D P W) : JX8_truthNow n ln (Sm m n w x) = some (some (.inl (w (31 + D))), Sm m n w x) := by
  obtain ⟨l0, l1, l2, l3, l4, f1, f2, b2, d2, p2, w2⟩ := hl
  unfold JX8_truthNow
  have e : hwi (nI D) 0 5 = 1 := by
    unfold hwi
    rw [if_neg (nI_pos (by omega)), if_neg (show ¬ (5 : Int32) < nI D from nI_nlt (a := 5) (b := D) (by omega) (by omega))]
  rw [c_delay, calI_s, l3, e_within, calI_s, e, if_neg (by decide), R15 D rfl (by omega)]
/-! the next bit -/
def rgv (r : Int32) : Int32 := (r >>> ((1 : Int32) &&& 31)) ||| (((r &&& 1) ^^^ ((r >>> ((1 : Int32) &&& 31)) &&& 1)) <<< ((6 : Int32) &&& 31))
theorem i32_xa (a b c : Int32) : (a ^^^ b) &&& c = (a &&& c) ^^^ (b &&& c) := by
  apply Int32.toBitVec_inj.mp
  show (a.toBitVec ^^^ b.toBitVec) &&& c.toBitVec = (a.toBitVec &&& c.toBitVec) ^^^ (b.toBitVec &&& c.toBitVec)
  apply BitVec.eq_of_getLsbD_eq
  intro i hi
  simp only [BitVec.getLsbD_and, BitVec.getLsbD_xor]
  cases a.toBitVec.getLsbD i <;> cases b.toBitVec.getLsbD i <;> cases c.toBitVec.getLsbD i <;> rfl
theorem rg_eq (r : Int32) : (r >>> ((1 : Int32) &&& 31)) ||| (((r ^^^ (r >>> ((1 : Int32) &&& 31))) &&& 1) <<< ((6 : Int32) &&& 31)) = rgv r := by
  unfold rgv
  rw [i32_xa]
/-- the bit, and the row behind it -/
def nbv (m : hM) (ln W : Nat) (w : Nat → Int32) : Int32 := if W = 0 then w 21 &&& 1 else m.1 7 ln ((w 18).toNatClampNeg % W)
def nbw (W : Nat) (w : Nat → Int32) : Nat → Int32 := if W = 0 then upd w 21 (rgv (w 21)) else w
theorem c_nextBit {t : Nat} (ht : w 18 = nI t) (ht2 : t < 2 ^ 31) (hl : Ln m ln F B D P W) : JX8_nextBit n ln (Sm m n w x) = some (some (.inl (nbv m ln W w)), Sm m n (nbw W w) x) := by
  obtain ⟨l0, l1, l2, l3, l4, f1, f2, b2, d2, p2, w2⟩ := hl
  unfold JX8_nextBit nbv nbw
  rw [c_wlen, calI_s, l4]
  by_cases h : W = 0
  · subst h
    rw [if_pos (by decide), if_pos rfl, if_pos rfl, lt_s9, lt_s9, stI_s, Sm_u (by decide), Sm_r (by decide), show ix 12 14 = 21 from rfl, rg_eq]
  · rw [if_neg (nI_nle (by omega) (by omega)), if_neg h, if_neg h, Sm_r (by decide), show ix 12 6 = 18 from rfl, ht]
    unfold jirem
    rw [if_neg (nI_ne0 (by omega) (by omega)), pk_rem ht2 (by omega) (by omega), nI_clamp ht2]
    have hj : t % W < W := Nat.mod_lt _ (by omega)
    show calI (JX4_wordAt ln (nI (t % W)) _) _ = _
    unfold JX4_wordAt
    rw [if_neg (nI_pos (by omega)), SL12, l4, if_neg (nI_ge hj (by omega)), if_neg (show ¬ (16 : Int32) ≤ nI (t % W) from nI_ge (a := t % W) (b := 16) (by omega) (by decide)), Swrd (t % W) rfl (by omega), calI_s]
def sbv (b : Int32) (w : Nat → Int32) : Nat → Int32 := shv w 31 6 (if b = 1 then 1 else -1)
theorem c_sendBit {t : Nat} (ht : w 18 = nI t) (ht2 : t < 2 ^ 31) (hl : Ln m ln F B D P W) : JX8_sendBit n ln (Sm m n w x) = some (none, Sm m n (sbv (nbv m ln W w) (nbw W w)) x) := by
  unfold JX8_sendBit
  rw [c_nextBit ht ht2 hl, calI_s]
  unfold JX8_sendBit_18 sbv
  rw [c_pushS, c_pushS, calV_s, calV_s]
  split <;> rfl
/-! learning -/
def lfv (err g : Int32) : Nat → (Nat → Int32) → Nat → Int32 := fun i w => vtv w (6 + i) ((-(hsg (w (40 + i)))) * err) g i (-255) 255
def lbv (F : Nat) (err g : Int32) : Nat → (Nat → Int32) → Nat → Int32 := fun j w => vtv w (6 + (F + j)) (w (37 + j) * err) g (F + j) (-255) 255
def ltv (tr kp err g : Int32) (w : Nat → Int32) : Nat → Int32 := if tr = 1 then vtv w 13 (kp * err) g 12 1 99 else w
def lkv (lk kp err : Int32) (w : Nat → Int32) : Nat → Int32 := if lk ≤ 0 then w else vtv w 15 (err * w 37 - w 43 * kp) lk 14 0 3
def lev (F B : Nat) (tr lk kp err g : Int32) (w : Nat → Int32) : Nat → Int32 := lkv lk kp err (ltv tr kp err g (fr (lbv F err g) (fr (lfv err g) w F) B))
theorem vtv_g {w : Nat → Int32} {vi ai : Nat} {b en lo hi : Int32} {k : Nat} (h1 : k ≠ vi) (h2 : k ≠ ai) : vtv w vi b en ai lo hi k = w k := by
  unfold vtv
  split
  · rw [pk_un h1]
  · rw [pk_un h1, pk_un h2, pk_un h1]
theorem lfv_g {err g : Int32} {k : Nat} (hk : 12 ≤ k) : ∀ N, N ≤ 3 → ∀ w, fr (lfv err g) w N k = w k := by
  intro N
  induction N with
  | zero => intro _ w; rfl
  | succ N ih =>
    intro h w
    show lfv err g N _ k = _
    unfold lfv
    rw [vtv_g (by omega) (by omega)]
    exact ih (by omega) w
theorem lbv_g {F : Nat} {err g : Int32} {k : Nat} (hF : F ≤ 3) (hk : 12 ≤ k) : ∀ N, N ≤ 3 → ∀ w, fr (lbv F err g) w N k = w k := by
  intro N
  induction N with
  | zero => intro _ w; rfl
  | succ N ih =>
    intro h w
    show lbv F err g N _ k = _
    unfold lbv
    rw [vtv_g (by omega) (by omega)]
    exact ih (by omega) w
theorem ltv_g {tr kp err g : Int32} {w : Nat → Int32} {k : Nat} (h1 : k ≠ 13) (h2 : k ≠ 12) : ltv tr kp err g w k = w k := by
  unfold ltv
  split
  · rw [vtv_g h1 h2]
  · rfl
theorem c_learn {kp err : Int32} (hl : Ln m ln F B D P W) : JX8_learn n ln kp err (Sm m n w x) = some (none, Sm m n (lev F B (m.1 5 ln 10) (m.1 5 ln 11) kp err (w 1088) w) x) := by
  obtain ⟨l0, l1, l2, l3, l4, f1, f2, b2, d2, p2, w2⟩ := hl
  unfold JX8_learn
  rw [c_fore, calI_s, l1]
  refine Eq.trans (lpF (fun f (a : Int32 × hM) => JX8_learn_9 (fun m7 => JX8_learn_47 n ln kp err (nI F) m7) n ln kp err (nI F) f a.1 a.2) (fun i => (nI i, Sm m n (fr (lfv err (w 1088)) w i) x)) F (by omega) (by
    intro i f hi
    show bJX8_learn_9 _ _ n ln _ _ _ (nI i) _ = _
    unfold bJX8_learn_9
    rw [if_neg (nI_ge (by omega) (by omega)), if_neg (n3 (by omega)), R17 i rfl (by omega), e_signOf, calI_s, c_vote rfl (by omega), calV_s, lfv_g (k := 1088) (by omega) i (by omega)]
    show JX8_learn_9 _ n ln _ _ _ f (nI i + 1) _ = JX8_learn_9 _ n ln _ _ _ f _ _
    rw [← nI_succ]
    rfl)) ?_
  show bJX8_learn_9 _ _ n ln _ _ _ (nI F) _ = _
  unfold bJX8_learn_9
  rw [if_pos (nI_le (by omega) (by omega))]
  unfold JX8_learn_47
  refine Eq.trans (lpF (fun f (a : Int32 × hM) => JX8_learn_50 (fun m12 => JX8_learn_99 n ln kp err m12) n ln kp err (nI F) f a.1 a.2) (fun i => (nI i, Sm m n (fr (lbv F err (w 1088)) (fr (lfv err (w 1088)) w F) i) x)) B (by omega) (by
    intro i f hi
    show bJX8_learn_50 _ _ n ln _ _ _ (nI i) _ = _
    unfold bJX8_learn_50
    rw [c_back, calI_s, l2, if_neg (nI_ge (by omega) (by omega)), if_neg (n3 (by omega)), nI_add, if_neg (n6 (by omega)), R16 i rfl (by omega), c_vote rfl (by omega), calV_s, lbv_g (k := 1088) (by omega) (by omega) i (by omega), lfv_g (k := 1088) (by omega) F (by omega)]
    show JX8_learn_50 _ n ln _ _ _ f (nI i + 1) _ = JX8_learn_50 _ n ln _ _ _ f _ _
    rw [← nI_succ]
    rfl)) ?_
  show bJX8_learn_50 _ _ n ln _ _ _ (nI B) _ = _
  unfold bJX8_learn_50
  rw [c_back, calI_s, l2, if_pos (nI_le (by omega) (by omega))]
  show JX8_learn_99 n ln kp err _ = _
  unfold JX8_learn_99
  rw [c_rule10, calI_s]
  have eg : fr (lbv F err (w 1088)) (fr (lfv err (w 1088)) w F) B 1088 = w 1088 := by rw [lbv_g (k := 1088) (by omega) (by omega) B (by omega), lfv_g (k := 1088) (by omega) F (by omega)]
  unfold lev
  generalize fr (lbv F err (w 1088)) (fr (lfv err (w 1088)) w F) B = v at eg
  have last : ∀ v : Nat → Int32, JX8_learn_116 n ln kp err (Sm m n v x) = some (none, Sm m n (lkv (m.1 5 ln 11) kp err v) x) := by
    intro v
    unfold JX8_learn_116 lkv
    rw [c_rule11, calI_s]
    by_cases c : m.1 5 ln 11 ≤ 0
    · rw [if_pos c, if_pos c]
    · rw [if_neg c, if_neg c, R16 (i := 0) 0 rfl (by decide), Sm_r (by decide), c_votePhase, calV_s, show ix 18 12 = 43 from rfl]
  unfold ltv
  by_cases c : m.1 5 ln 10 = 1
  · rw [if_pos c, if_pos c, c_voteLevel, calV_s, last, eg]
  · rw [if_neg c, if_neg c, last]
/-! runs -/
def jgv (wr : Int32) (bk : Int32) (w : Nat → Int32) : Nat → Int32 :=
  if wr = 0 then (if w 29 ≤ 0 then w else if w 30 + 1 < hmx bk 1 then upd (upd w 29 (w 29 + 1)) 30 (w 30 + 1)
    else upd (upd (upd (upd w 27 (w 27 + 1)) 28 (hmx (w 28) ((w 29 + 1) - (w 30 + 1)))) 29 0) 30 0)
  else upd (upd (upd w 25 (w 25 + 1)) 29 (w 29 + 1)) 30 0
theorem upd_o {w : Nat → Int32} {a b : Nat} {u v : Int32} (h : a ≠ b) : upd (upd w a u) b v = upd (upd w b v) a u := by
  funext k
  unfold upd
  by_cases h1 : k = b
  · rw [if_pos h1, if_neg (fun e => h (e.symm.trans h1)), if_pos h1]
  · rw [if_neg h1, if_neg h1]
theorem upd_2 {w : Nat → Int32} {a : Nat} {u v : Int32} : upd (upd w a u) a v = upd w a v := by
  funext k
  unfold upd
  by_cases h1 : k = a
  · rw [if_pos h1, if_pos h1]
  · rw [if_neg h1, if_neg h1, if_neg h1]
theorem c_judge {wr bk : Int32} : JX10_judge n wr bk (Sm m n w x) = some (none, Sm m n (jgv wr bk w) x) := by
  unfold JX10_judge jgv JX10_closeRun
  simp only [e_within, e_in, e_signOf, e_sign, e_sizeOf, e_size, e_moved, e_held, e_max, e_min, e_bitSign, e_has, e_turned, calI_s, calL_s, calV_s, lt_s9, stI_s, stL_s, stZ_0, stZ_1, jretZ_0, jretZ_1, Sm_r (show 12 ≤ 18 ∧ 18 ≤ 19 by decide), Sm_u (show 12 ≤ 18 ∧ 18 ≤ 19 by decide), show ix 18 3 = 25 from rfl, show ix 18 5 = 27 from rfl, show ix 18 6 = 28 from rfl, show ix 18 7 = 29 from rfl, show ix 18 8 = 30 from rfl, upd_a, Nat.reduceEqDiff, if_true, if_false]
  split
  · split
    · rfl
    · split
      · rfl
      · congr 3
        funext k
        simp only [upd_a]
        repeat' split
        all_goals first | rfl | omega
  · rfl
end
