/-! what a SYMBOL is: its values, one by one -/
def Rsm (m : hM) (ln P ph : Nat) (nz : Int32) (w : Nat → Int32) : Int32 := if w 22 = 0 then nz + smv m ln P ph w else 0
def Rdec (z : Int32) : Int32 := if z < 0 then -1 else 1
def Rwr (tru dec : Int32) : Int32 := if tru = 0 then 0 else if dec = tru then 0 else 1
def Rtr (tn tru : Int32) : Int32 := if tn ≤ 0 then 0 else if tru = 0 then 0 else 1
def Rkp (trd dec tru : Int32) : Int32 := if trd = 0 then dec else tru
def Rqt (ms fl sm : Int32) : Int32 := if ms = 0 then (if fl ≤ hsz sm then 0 else 1) else 1
def Rls (ms hd dk : Int32) : Int32 := if hd = 0 then (if dk = 0 then (if ms = 0 then 1 else 0) else 0) else 0
def Rmk (b dec wr dk ls trd : Int32) : Int32 := (((((b + (if dec = 1 then 2 else 0)) + (if wr = 0 then 0 else 4)) + (if dk = 0 then 0 else 8)) + (if ls = 0 then 0 else 16)) + (if trd = 0 then 0 else 32))
/-- the row when samples, sums and quiet were told -/
def RA (F B : Nat) (sm fs qt : Int32) (w : Nat → Int32) : Nat → Int32 := hrv (shv (tbv (upd w 45 fs) F B) 40 3 sm) qt
def RB (F B : Nat) (tr lk g ls kp err : Int32) (w : Nat → Int32) : Nat → Int32 := if ls = 0 then w else lev F B tr lk kp err g (upd w 26 (w 26 + 1))
def RC (B : Nat) (wr kp : Int32) (w : Nat → Int32) : Nat → Int32 := jgv wr (nI B) (shv w 37 3 kp)
def RD (s z err mk : Int32) (w : Nat → Int32) : Nat → Int32 := upd (upd (upd (upd (upd (upd (upd w 1078 s) 44 z) 43 err) 1110 mk) 19 (hmx (w 19 - 1) 0)) 22 0) 18 (w 18 + 1)
section
variable {m : hM} {n ln F B D P W : Nat} {w : Nat → Int32} {x : Int64}
theorem c_r362 {u v : Int32} : JX8_receive_362 n u v n (Sm m n w x) = some (none, Sm m n (upd (upd (upd (upd w 1110 (v + u)) 19 (hmx (w 19 - 1) 0)) 22 0) 18 (w 18 + 1)) x) := by
  unfold JX8_receive_362
  simp only [e_within, e_in, e_signOf, e_sign, e_sizeOf, e_size, e_moved, e_held, e_max, e_min, e_bitSign, e_has, e_turned, calI_s, calL_s, calV_s, lt_s9, stI_s, stL_s, stZ_0, stZ_1, jretZ_0, jretZ_1, Sm_r (show 12 ≤ 18 ∧ 18 ≤ 19 by decide), Sm_u (show 12 ≤ 18 ∧ 18 ≤ 19 by decide), Sm_r (show 12 ≤ 12 ∧ 12 ≤ 19 by decide), Sm_u (show 12 ≤ 12 ∧ 12 ≤ 19 by decide), show ix 18 13 = 1110 from rfl, show ix 12 13 = 19 from rfl, show ix 12 16 = 22 from rfl, show ix 12 6 = 18 from rfl, upd_a, Nat.reduceEqDiff, if_true, if_false]
theorem c_r299 {dec wr trd ls b : Int32} : JX8_receive_299 n dec wr trd ls b n (Sm m n w x) = some (none, Sm m n (upd (upd (upd (upd w 1110 (Rmk b dec wr (w 17) ls trd)) 19 (hmx (w 19 - 1) 0)) 22 0) 18 (w 18 + 1)) x) := by
  unfold JX8_receive_299 JX8_receive_310 JX8_receive_321 JX8_receive_338 JX8_receive_350 Rmk
  rw [Sm_r (by decide), show ix 18 2 = 17 from rfl]
  by_cases c1 : dec = 1 <;> by_cases c2 : wr = 0 <;> by_cases c3 : w 17 = 0 <;> by_cases c4 : ls = 0 <;> by_cases c5 : trd = 0 <;> simp only [c1, c2, c3, c4, c5, if_true, if_false, c_r362]
theorem c_r259 {z dec wr trd err ls s : Int32} : JX8_receive_259 n z dec wr trd err ls s n (Sm m n w x) = some (none, Sm m n (RD s z err (Rmk (if w 31 = 1 then 1 else 0) dec wr (w 17) ls trd) w) x) := by
  unfold JX8_receive_259
  rw [stI_s, Sm_u (by decide), stI_s, Sm_u (by decide), stI_s, Sm_u (by decide), R15 (i := 0) 0 rfl (by decide), show ix 18 9 = 1078 from rfl, show ix 18 10 = 44 from rfl, show ix 18 12 = 43 from rfl, c_r299, c_r299]
  have e1 : ∀ j, j < 43 → upd (upd (upd w 1078 s) 44 z) 43 err j = w j := fun j hj => by rw [pk_un (by omega), pk_un (by omega), pk_un (by omega)]
  rw [e1 (31 + 0) (by decide), e1 17 (by decide), e1 18 (by decide), e1 19 (by decide)]
  unfold RD
  by_cases c : w 31 = 1
  · rw [if_pos c, if_pos c]
  · rw [if_neg c, if_neg c]
theorem c_r222 {ms sm z dec wr trd kp err ls : Int32} (hl : Ln m ln F B D P W) : JX8_receive_222 n ln ms sm z dec wr trd kp err ls (Sm m n w x) = some (none, Sm m n (RD (if ms = 0 then sm else -1000000000) z err (Rmk (if (RC B wr kp w) 31 = 1 then 1 else 0) dec wr ((RC B wr kp w) 17) ls trd) (RC B wr kp w)) x) := by
  obtain ⟨l0, l1, l2, l3, l4, f1, f2, b2, d2, p2, w2⟩ := hl
  unfold JX8_receive_222
  rw [c_pushK, calV_s, c_back, calI_s, l2, c_judge, calV_s]
  show (if ms = 0 then JX8_receive_259 n z dec wr trd err ls sm n (Sm m n (RC B wr kp w) x) else JX8_receive_259 n z dec wr trd err ls (-1000000000) n (Sm m n (RC B wr kp w) x)) = _
  rw [c_r259, c_r259]
  by_cases c : ms = 0
  · rw [if_pos c, if_pos c]
  · rw [if_neg c, if_neg c]
theorem c_r193 {ms sm z dec wr trd kp err ls : Int32} (hl : Ln m ln F B D P W) : JX8_receive_193 n ln ms sm z dec wr trd kp err ls (Sm m n w x) = some (none, Sm m n (RD (if ms = 0 then sm else -1000000000) z err (Rmk (if (RC B wr kp (RB F B (m.1 5 ln 10) (m.1 5 ln 11) (w 1088) ls kp err w)) 31 = 1 then 1 else 0) dec wr ((RC B wr kp (RB F B (m.1 5 ln 10) (m.1 5 ln 11) (w 1088) ls kp err w)) 17) ls trd) (RC B wr kp (RB F B (m.1 5 ln 10) (m.1 5 ln 11) (w 1088) ls kp err w))) x) := by
  unfold JX8_receive_193 RB
  by_cases c : ls = 0
  · rw [if_pos c, if_pos c, c_r222 hl]
  · rw [if_neg c, if_neg c, stI_s, Sm_u (by decide), Sm_r (by decide), show ix 18 4 = 26 from rfl, c_learn hl, calV_s, c_r222 hl, pk_un (show 1088 ≠ 26 by decide)]
theorem c_r164 {ms sm z dec wr trd kp err qt : Int32} (hl : Ln m ln F B D P W) : JX8_receive_164 n ln ms sm z dec wr trd kp err qt n (Sm m n w x) = JX8_receive_193 n ln ms sm z dec wr trd kp err (Rls ms (hrv w qt 16) (hrv w qt 17)) (Sm m n (hrv w qt) x) := by
  unfold JX8_receive_164 JX8_receive_192 Rls
  rw [c_hear, calV_s, Sm_r (by decide), Sm_r (by decide), show ix 12 15 = 16 from rfl, show ix 18 2 = 17 from rfl]
  by_cases c1 : hrv w qt 16 = 0 <;> by_cases c2 : hrv w qt 17 = 0 <;> by_cases c3 : ms = 0 <;> simp only [c1, c2, c3, if_true, if_false]
theorem c_r101 {ms sm fs z dec wr trd kp : Int32} (hl : Ln m ln F B D P W) : JX8_receive_101 n ln ms sm fs z dec wr trd kp (Sm m n w x) = JX8_receive_164 n ln ms sm z dec wr trd kp (hsg (z - 64 * w 12 * kp)) (Rqt ms (m.1 5 ln 6) sm) n (Sm m n (shv (tbv (upd w 45 fs) F B) 40 3 sm) x) := by
  unfold JX8_receive_101 JX8_receive_159 Rqt
  rw [Sm_r (by decide), show ix 12 9 = 12 from rfl, e_signOf, calI_s, c_keepFor hl, calV_s, c_pushZ, calV_s, e_sizeOf, calI_s, c_rule6, calI_s]
  by_cases c1 : ms = 0 <;> by_cases c2 : m.1 5 ln 6 ≤ hsz sm <;> simp only [c1, c2, if_true, if_false]
theorem c_r87 {ms sm fs z dec tru wr trd : Int32} : JX8_receive_87 n ln ms sm fs z dec tru wr trd (Sm m n w x) = JX8_receive_101 n ln ms sm fs z dec wr trd (Rkp trd dec tru) (Sm m n w x) := by
  unfold JX8_receive_87 Rkp
  by_cases c : trd = 0
  · rw [if_pos c, if_pos c]
  · rw [if_neg c, if_neg c]
theorem c_r68 {ms sm fs z dec tru wr : Int32} : JX8_receive_68 n ln ms sm fs z dec tru wr (Sm m n w x) = JX8_receive_87 n ln ms sm fs z dec tru wr (Rtr (w 19) tru) (Sm m n w x) := by
  unfold JX8_receive_68 JX8_receive_86 Rtr
  rw [Sm_r (by decide), show ix 12 13 = 19 from rfl]
  by_cases c1 : w 19 ≤ 0 <;> by_cases c2 : tru = 0 <;> simp only [c1, c2, if_true, if_false]
theorem c_r42 {ms sm fs z dec : Int32} (hl : Ln m ln F B D P W) : JX8_receive_42 n ln ms sm fs z dec (Sm m n w x) = JX8_receive_68 n ln ms sm fs z dec (w (31 + D)) (Rwr (w (31 + D)) dec) (Sm m n w x) := by
  unfold JX8_receive_42 JX8_receive_67 Rwr
  rw [c_truthNow hl, calI_s]
  by_cases c1 : w (31 + D) = 0 <;> by_cases c2 : dec = w (31 + D) <;> simp only [c1, c2, if_true, if_false]
end
/-! all of it -/
def Tz (m : hM) (ln F B P ph : Nat) (nz : Int32) (w : Nat → Int32) : Int32 := fsv w (Rsm m ln P ph nz w) F - bsv w F B
def Tdec (m : hM) (ln F B P ph : Nat) (nz : Int32) (w : Nat → Int32) : Int32 := Rdec (Tz m ln F B P ph nz w)
def Twr (m : hM) (ln F B D P ph : Nat) (nz : Int32) (w : Nat → Int32) : Int32 := Rwr (w (31 + D)) (Tdec m ln F B P ph nz w)
def Ttr (D : Nat) (w : Nat → Int32) : Int32 := Rtr (w 19) (w (31 + D))
def Tkp (m : hM) (ln F B D P ph : Nat) (nz : Int32) (w : Nat → Int32) : Int32 := Rkp (Ttr D w) (Tdec m ln F B P ph nz w) (w (31 + D))
def Ter (m : hM) (ln F B D P ph : Nat) (nz : Int32) (w : Nat → Int32) : Int32 := hsg (Tz m ln F B P ph nz w - 64 * w 12 * Tkp m ln F B D P ph nz w)
def TA (m : hM) (ln F B P ph : Nat) (nz : Int32) (w : Nat → Int32) : Nat → Int32 := RA F B (Rsm m ln P ph nz w) (fsv w (Rsm m ln P ph nz w) F) (Rqt (w 22) (m.1 5 ln 6) (Rsm m ln P ph nz w)) w
def Tls (m : hM) (ln F B P ph : Nat) (nz : Int32) (w : Nat → Int32) : Int32 := Rls (w 22) (TA m ln F B P ph nz w 16) (TA m ln F B P ph nz w 17)
def TC (m : hM) (ln F B D P ph : Nat) (nz g : Int32) (w : Nat → Int32) : Nat → Int32 := RC B (Twr m ln F B D P ph nz w) (Tkp m ln F B D P ph nz w) (RB F B (m.1 5 ln 10) (m.1 5 ln 11) g (Tls m ln F B P ph nz w) (Tkp m ln F B D P ph nz w) (Ter m ln F B D P ph nz w) (TA m ln F B P ph nz w))
def Tmk (m : hM) (ln F B D P ph : Nat) (nz g : Int32) (w : Nat → Int32) : Int32 := Rmk (if TC m ln F B D P ph nz g w 31 = 1 then 1 else 0) (Tdec m ln F B P ph nz w) (Twr m ln F B D P ph nz w) (TC m ln F B D P ph nz g w 17) (Tls m ln F B P ph nz w) (Ttr D w)
def TD (m : hM) (ln F B D P ph : Nat) (nz g : Int32) (w : Nat → Int32) : Nat → Int32 := RD (if w 22 = 0 then Rsm m ln P ph nz w else -1000000000) (Tz m ln F B P ph nz w) (Ter m ln F B D P ph nz w) (Tmk m ln F B D P ph nz g w) (TC m ln F B D P ph nz g w)
theorem tbv_g {F B k : Nat} (hk : k < 46 ∨ 49 ≤ k) (hB : B ≤ 3) (w : Nat → Int32) : tbv w F B k = w k := by
  unfold tbv
  induction B with
  | zero => rfl
  | succ B ih =>
    show upd _ (46 + B) _ k = _
    rw [pk_un (by omega)]
    exact ih (by omega)
theorem hrv_g {k : Nat} {q : Int32} {w : Nat → Int32} (h1 : k ≠ 23) (h2 : k ≠ 24) (h3 : k ≠ 17) : hrv w q k = w k := by
  unfold hrv
  repeat' split
  all_goals simp only [upd_a, h1, h2, h3, if_false]
theorem shv_g {w : Nat → Int32} {fr mn k : Nat} {x : Int32} (h : k < fr ∨ fr + mn ≤ k) (h2 : k ≠ fr) : shv w fr mn x k = w k := by
  unfold shv
  rw [if_neg h2, if_neg (by omega)]
theorem c_receive {m : hM} {n ln F B D P W ph : Nat} {nz : Int32} {w : Nat → Int32} {x : Int64} (hp : w 14 = nI ph) (hp2 : ph ≤ 3) (hl : Ln m ln F B D P W) : JX8_receive n ln nz (Sm m n w x) = some (none, Sm m n (TD m ln F B D P ph nz (w 1088) w) x) := by
  unfold JX8_receive
  rw [lt_s9, Sm_r (by decide), show ix 12 16 = 22 from rfl, c_sampleWith hp hp2 hl, calI_s]
  show calI (JX8_foreSum n ln (Rsm m ln P ph nz w) (Sm m n w x)) _ = _
  rw [c_foreSum hl, calI_s, c_backSum hl, calI_s, lt_s9]
  have e : (if fsv w (Rsm m ln P ph nz w) F - bsv w F B < 0 then JX8_receive_42 n ln (w 22) (Rsm m ln P ph nz w) (fsv w (Rsm m ln P ph nz w) F) (fsv w (Rsm m ln P ph nz w) F - bsv w F B) (-1) (Sm m n w x) else JX8_receive_42 n ln (w 22) (Rsm m ln P ph nz w) (fsv w (Rsm m ln P ph nz w) F) (fsv w (Rsm m ln P ph nz w) F - bsv w F B) 1 (Sm m n w x)) = JX8_receive_42 n ln (w 22) (Rsm m ln P ph nz w) (fsv w (Rsm m ln P ph nz w) F) (Tz m ln F B P ph nz w) (Tdec m ln F B P ph nz w) (Sm m n w x) := by
    unfold Tdec Rdec Tz
    split <;> rfl
  refine Eq.trans e ?_
  have eg : TA m ln F B P ph nz w 1088 = w 1088 := by
    obtain ⟨l0, l1, l2, l3, l4, f1, f2, b2, d2, p2, w2⟩ := hl
    unfold TA RA
    rw [hrv_g (by decide) (by decide) (by decide), shv_g (by decide) (by decide), tbv_g (by decide) b2, pk_un (by decide)]
  rw [c_r42 hl, c_r68, c_r87, c_r101 hl, c_r164 hl]
  show JX8_receive_193 n ln (w 22) (Rsm m ln P ph nz w) (Tz m ln F B P ph nz w) (Tdec m ln F B P ph nz w) (Twr m ln F B D P ph nz w) (Ttr D w) (Tkp m ln F B D P ph nz w) (Ter m ln F B D P ph nz w) (Tls m ln F B P ph nz w) (Sm m n (TA m ln F B P ph nz w) x) = _
  rw [c_r193 hl, eg]
  rfl
