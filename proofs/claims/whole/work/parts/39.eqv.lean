/-! the draw, in two halves -/
def jn (h l : Int32) : Int64 := (h.toInt64 <<< ((32 : Int32).toInt64 &&& 63)) ||| (l.toInt64 &&& 4294967295)
def hi32 (y : Int64) : Int32 := (y >>> ((32 : Int32).toInt64 &&& 63)).toInt32
theorem c32 : ((32 : Int32).toInt64 &&& 63).toBitVec.smod 64 = 32#64 := by decide
theorem jn_eq (y : Int64) : jn (hi32 y) y.toInt32 = y := by
  apply Int64.toBitVec_inj.mp
  unfold jn hi32
  rw [Int64.toBitVec_or, Int64.toBitVec_and, Int64.toBitVec_shiftLeft, Int32.toBitVec_toInt64, Int32.toBitVec_toInt64, Int64.toBitVec_toInt32, Int64.toBitVec_toInt32, Int64.toBitVec_shiftRight, c32]
  apply BitVec.eq_of_getLsbD_eq
  intro i hi
  have e : ∀ j, j < 64 → (Int64.toBitVec 4294967295).getLsbD j = decide (j < 32) := by decide +kernel
  simp only [BitVec.getLsbD_or, BitVec.getLsbD_and, BitVec.shiftLeft_eq', BitVec.sshiftRight_eq', BitVec.getLsbD_shiftLeft, BitVec.getLsbD_signExtend, BitVec.getLsbD_setWidth, BitVec.getLsbD_sshiftRight, e i hi, show (32#64).toNat = 32 from rfl]
  by_cases c : i < 32
  · simp [c, hi]
  · have h3 : i - 32 < 32 := by omega
    have h4 : i - 32 < 64 := by omega
    have h5 : 32 + (i - 32) = i := by omega
    simp [c, hi, h3, h4, h5]
section
variable {m : hM} {w : Nat → Int32} {k : Nat}
theorem m_noiseT (ht : m.1 40 0 23 ≠ -1000000000) : JX12_noise (Nm m w) = some (some (.inl (if w 20 = 0 then 0 else m.1 40 0 23)), Nm m w) := by
  unfold JX12_noise
  rw [NR20]
  by_cases c : w 20 = 0
  · rw [if_pos c, if_pos c]
  · rw [if_neg c, if_neg c, Nm_o (by decide), if_neg ht]
def nxv (x : Int64) (w : Nat → Int32) : Nat → Int32 := if w 20 = 0 then w else upd (upd w 49 (hi32 (trn x))) 50 (trn x).toInt32
theorem m_noiseD (ht : m.1 40 0 23 = -1000000000) (hk : w 20 = nI k) (hk2 : k ≤ 4) : JX12_noise (Nm m w) = some (some (.inl (dnv (jn (w 49) (w 50)) (w 20))), Nm m (nxv (jn (w 49) (w 50)) w)) := by
  unfold JX12_noise dnv nxv
  rw [NR20]
  by_cases c : w 20 = 0
  · rw [if_pos c, if_pos c, if_pos c]
  · rw [if_neg c, if_neg c, if_neg c, Nm_o (by decide), if_pos ht, NR20]
    unfold JX12_drawNoise jlrem
    have e := k_noise k (by omega)
    rw [← hk] at e
    rw [NR49, NR50, lt_s9, lt_s9, NW49, NW50, if_neg e.2, calI_s, NR20, pk_un (by decide), pk_un (by decide)]
    rfl
theorem nxv_x {x : Int64} (h : jn (w 49) (w 50) = x) : jn (nxv x w 49) (nxv x w 50) = dnx x (w 20) := by
  unfold nxv dnx
  by_cases c : w 20 = 0
  · rw [if_pos c, if_pos c, h]
  · rw [if_neg c, if_neg c, pk_us, pk_un (by decide), pk_us, jn_eq]
theorem nxv_g {x : Int64} {j : Nat} (h : j ≠ 49) (h2 : j ≠ 50) : nxv x w j = w j := by
  unfold nxv
  split
  · rfl
  · rw [pk_un h2, pk_un h]
end
/-! rows that agree in what lives -/
def Eq9 (w v : Nat → Int32) : Prop := ∀ k, k < 49 → w k = v k
section
variable {w v : Nat → Int32}
theorem q_upd {k : Nat} {a b : Int32} (h : Eq9 w v) (e : a = b) : Eq9 (upd w k a) (upd v k b) := by
  intro j hj
  unfold upd
  rw [e, h j hj]
theorem q_updL {k : Nat} {a : Int32} (h : Eq9 w v) (hk : 49 ≤ k) : Eq9 (upd w k a) v := by
  intro j hj
  rw [pk_un (by omega), h j hj]
theorem q_shv {f n : Nat} {a b : Int32} (h : Eq9 w v) (e : a = b) (hf : f + n ≤ 49) : Eq9 (shv w f n a) (shv v f n b) := by
  intro j hj
  unfold shv
  rw [e, h j hj]
  by_cases c : f < j ∧ j < f + n
  · rw [if_pos c, if_pos c, h (j - 1) (by omega)]
  · rw [if_neg c, if_neg c]
theorem q_tbv {F B : Nat} (h : Eq9 w v) (hF : F + B ≤ 6) : Eq9 (tbv w F B) (tbv v F B) := by
  intro j hj
  rw [tbv_e hF, tbv_e hF, h j hj]
  by_cases c : 46 ≤ j ∧ j < 46 + B
  · rw [if_pos c, if_pos c, h _ (by omega)]
  · rw [if_neg c, if_neg c]
theorem q_hrv {q : Int32} (h : Eq9 w v) : Eq9 (hrv w q) (hrv v q) := by
  unfold hrv
  rw [h 23 (by decide), h 24 (by decide)]
  split
  · split
    · exact q_upd (q_upd (q_upd h rfl) rfl) rfl
    · exact q_upd (q_upd h rfl) rfl
  · split
    · exact q_upd (q_upd (q_upd h rfl) rfl) rfl
    · exact q_upd (q_upd h rfl) rfl
theorem q_vtv {vi ai : Nat} {b b2 en lo hi : Int32} (h : Eq9 w v) (e : b = b2) (h1 : vi < 49) (h2 : ai < 49) : Eq9 (vtv w vi b en ai lo hi) (vtv v vi b2 en ai lo hi) := by
  unfold vtv
  rw [e, h vi h1, h ai h2]
  split
  · exact q_upd h rfl
  · exact q_upd (q_upd (q_upd h rfl) rfl) rfl
theorem q_lfv {err g : Int32} (h : Eq9 w v) : ∀ N, N ≤ 3 → Eq9 (fr (lfv err g) w N) (fr (lfv err g) v N) := by
  intro N
  induction N with
  | zero => intro _; exact h
  | succ N ih =>
    intro hN
    show Eq9 (lfv err g N (fr (lfv err g) w N)) (lfv err g N (fr (lfv err g) v N))
    unfold lfv
    have e := ih (by omega)
    unfold lfv at e
    exact q_vtv e (by rw [e (40 + N) (by omega)]) (by omega) (by omega)
theorem q_lbv {F : Nat} {err g : Int32} (hF : F ≤ 3) (h : Eq9 w v) : ∀ N, N ≤ 3 → Eq9 (fr (lbv F err g) w N) (fr (lbv F err g) v N) := by
  intro N
  induction N with
  | zero => intro _; exact h
  | succ N ih =>
    intro hN
    show Eq9 (lbv F err g N (fr (lbv F err g) w N)) (lbv F err g N (fr (lbv F err g) v N))
    unfold lbv
    have e := ih (by omega)
    unfold lbv at e
    exact q_vtv e (by rw [e (37 + N) (by omega)]) (by omega) (by omega)
theorem q_lev {F B : Nat} {tr lk kp err g : Int32} (hF : F ≤ 3) (hB : B ≤ 3) (h : Eq9 w v) : Eq9 (lev F B tr lk kp err g w) (lev F B tr lk kp err g v) := by
  unfold lev
  have e := q_lbv (err := err) (g := g) hF (q_lfv (err := err) (g := g) h F hF) B hB
  have e2 : Eq9 (ltv tr kp err g (fr (lbv F err g) (fr (lfv err g) w F) B)) (ltv tr kp err g (fr (lbv F err g) (fr (lfv err g) v F) B)) := by
    unfold ltv
    split
    · exact q_vtv e rfl (by decide) (by decide)
    · exact e
  unfold lkv
  split
  · exact e2
  · exact q_vtv e2 (by rw [e2 37 (by decide), e2 43 (by decide)]) (by decide) (by decide)
theorem q_jgv {wr bk : Int32} (h : Eq9 w v) : Eq9 (jgv wr bk w) (jgv wr bk v) := by
  unfold jgv
  rw [h 29 (by decide), h 30 (by decide), h 25 (by decide), h 27 (by decide), h 28 (by decide)]
  split
  · split
    · exact h
    · split
      · exact q_upd (q_upd h rfl) rfl
      · exact q_upd (q_upd (q_upd (q_upd h rfl) rfl) rfl) rfl
  · exact q_upd (q_upd (q_upd h rfl) rfl) rfl
end
/-- lines alike -/
def Lsm (m m2 : hM) : Prop := ∀ a c, 5 ≤ a → a ≤ 7 → m.1 a 0 c = m2.1 a 0 c
section
variable {m m2 : hM} {F B D P ph : Nat} {w v : Nat → Int32} {nz g : Int32}
theorem q_smv (h : Eq9 w v) (hm : Lsm m m2) : smv m 0 P ph w = smv m2 0 P ph v := by
  unfold smv
  apply sumN_congr
  intro i hi
  unfold pav
  rw [h _ (by omega), hm 6 _ (by decide) (by decide)]
theorem q_Rsm (h : Eq9 w v) (hm : Lsm m m2) : Rsm m 0 P ph nz w = Rsm m2 0 P ph nz v := by
  unfold Rsm
  rw [q_smv h hm, h 22 (by decide)]
theorem q_fsv {a : Int32} (h : Eq9 w v) (hF : F ≤ 3) : fsv w a F = fsv v a F := by
  unfold fsv
  apply sumN_congr
  intro i hi
  rw [h i (by omega), h (39 + i) (by omega)]
theorem q_bsv (h : Eq9 w v) (hF : F ≤ 3) (hB : B ≤ 3) : bsv w F B = bsv v F B := by
  unfold bsv
  apply sumN_congr
  intro i hi
  rw [h (F + i) (by omega), h (37 + i) (by omega)]
theorem q_Tz (h : Eq9 w v) (hm : Lsm m m2) (hF : F ≤ 3) (hB : B ≤ 3) : Tz m 0 F B P ph nz w = Tz m2 0 F B P ph nz v := by
  unfold Tz
  rw [q_Rsm h hm, q_fsv h hF, q_bsv h hF hB]
theorem q_Tdec (h : Eq9 w v) (hm : Lsm m m2) (hF : F ≤ 3) (hB : B ≤ 3) : Tdec m 0 F B P ph nz w = Tdec m2 0 F B P ph nz v := by
  unfold Tdec
  rw [q_Tz h hm hF hB]
theorem q_Twr (h : Eq9 w v) (hm : Lsm m m2) (hF : F ≤ 3) (hB : B ≤ 3) (hD : D ≤ 2) : Twr m 0 F B D P ph nz w = Twr m2 0 F B D P ph nz v := by
  unfold Twr
  rw [q_Tdec h hm hF hB, h _ (by omega)]
theorem q_Ttr (h : Eq9 w v) (hD : D ≤ 2) : Ttr D w = Ttr D v := by
  unfold Ttr
  rw [h 19 (by decide), h _ (by omega)]
theorem q_Tkp (h : Eq9 w v) (hm : Lsm m m2) (hF : F ≤ 3) (hB : B ≤ 3) (hD : D ≤ 2) : Tkp m 0 F B D P ph nz w = Tkp m2 0 F B D P ph nz v := by
  unfold Tkp
  rw [q_Tdec h hm hF hB, q_Ttr h hD, h _ (by omega)]
theorem q_Ter (h : Eq9 w v) (hm : Lsm m m2) (hF : F ≤ 3) (hB : B ≤ 3) (hD : D ≤ 2) : Ter m 0 F B D P ph nz w = Ter m2 0 F B D P ph nz v := by
  unfold Ter
  rw [q_Tz h hm hF hB, q_Tkp h hm hF hB hD, h 12 (by decide)]
theorem q_TA (h : Eq9 w v) (hm : Lsm m m2) (hF : F ≤ 3) (hB : B ≤ 3) : Eq9 (TA m 0 F B P ph nz w) (TA m2 0 F B P ph nz v) := by
  unfold TA RA
  rw [q_Rsm h hm, q_fsv h hF, h 22 (by decide), hm 5 6 (by decide) (by decide)]
  exact q_hrv (q_shv (q_tbv (q_upd h rfl) (by omega)) rfl (by decide))
theorem q_Tls (h : Eq9 w v) (hm : Lsm m m2) (hF : F ≤ 3) (hB : B ≤ 3) : Tls m 0 F B P ph nz w = Tls m2 0 F B P ph nz v := by
  unfold Tls
  have e := q_TA (P := P) (ph := ph) (nz := nz) h hm hF hB
  rw [e 16 (by decide), e 17 (by decide), h 22 (by decide)]
theorem q_TC (h : Eq9 w v) (hm : Lsm m m2) (hF : F ≤ 3) (hB : B ≤ 3) (hD : D ≤ 2) : Eq9 (TC m 0 F B D P ph nz g w) (TC m2 0 F B D P ph nz g v) := by
  unfold TC RC RB
  have e := q_TA (P := P) (ph := ph) (nz := nz) h hm hF hB
  rw [q_Twr h hm hF hB hD, q_Tkp h hm hF hB hD, q_Tls h hm hF hB, q_Ter h hm hF hB hD, hm 5 10 (by decide) (by decide), hm 5 11 (by decide) (by decide)]
  apply q_jgv
  apply q_shv _ rfl (by decide)
  split
  · exact e
  · exact q_lev hF hB (q_upd e (by rw [e 26 (by decide)]))
theorem TC_g {k : Nat} (hF : F ≤ 3) (hB : B ≤ 3) (h1 : 16 ≤ k) (h2 : k < 37 ∨ 49 ≤ k) (h3 : k ≠ 17) (h4 : k < 23 ∨ 31 ≤ k) : TC m 0 F B D P ph nz g w k = w k := by
  unfold TC
  rw [RC_g (by omega) (by omega) (by omega), RB_g hF hB h1 (by omega)]
  unfold TA
  rw [RA_g hB (by omega) (by omega) (by omega) h3]
/-- the class's row and the reference's, behind a symbol -/
theorem q_sym (h : Eq9 w v) (hm : Lsm m m2) (hF : F ≤ 3) (hB : B ≤ 3) (hD : D ≤ 2) : Eq9 (TD m 0 F B D P ph nz g w) (TM m2 F B D P ph nz g v) := by
  have e := q_TC (P := P) (ph := ph) (nz := nz) (g := g) h hm hF hB hD
  have e19 : TC m 0 F B D P ph nz g w 19 = v 19 := by rw [TC_g hF hB (by decide) (by decide) (by decide) (by decide), h 19 (by decide)]
  have e18 : TC m 0 F B D P ph nz g w 18 = v 18 := by rw [TC_g hF hB (by decide) (by decide) (by decide) (by decide), h 18 (by decide)]
  intro k hk
  unfold TD RD TM
  rw [q_Tz h hm hF hB, q_Ter h hm hF hB hD, e19, e18]
  have ek := e k hk
  simp only [upd_a]
  repeat' split
  all_goals first | rfl | omega | exact ek
end
