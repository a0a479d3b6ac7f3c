/-! what may change places -/
theorem tbv_e {F B : Nat} (h : F + B ≤ 6) (w : Nat → Int32) (k : Nat) : tbv w F B k = if 46 ≤ k ∧ k < 46 + B then w (F + (k - 46)) else w k := by
  unfold tbv
  induction B generalizing k with
  | zero => rw [if_neg (by omega)]; rfl
  | succ B ih =>
    show (if k = 46 + B then fr (fun j w => upd w (46 + j) (w (F + j))) w B (F + B) else fr (fun j w => upd w (46 + j) (w (F + j))) w B k) = _
    by_cases e : k = 46 + B
    · rw [if_pos e, if_pos (by omega), ih (by omega), if_neg (by omega), e, show F + (46 + B - 46) = F + B from by omega]
    · rw [if_neg e, ih (by omega)]
      by_cases e2 : 46 ≤ k ∧ k < 46 + B
      · rw [if_pos e2, if_pos (by omega)]
      · rw [if_neg e2, if_neg (by omega)]
theorem shv_upd {w : Nat → Int32} {f n k : Nat} {x v : Int32} (h : k < f ∨ f + n ≤ k) (hn : k ≠ f) : shv (upd w k v) f n x = upd (shv w f n x) k v := by
  funext c
  show (if c = f then x else if f < c ∧ c < f + n then (if c - 1 = k then v else w (c - 1)) else (if c = k then v else w c)) = if c = k then v else (if c = f then x else if f < c ∧ c < f + n then w (c - 1) else w c)
  by_cases e : c = f
  · rw [if_pos e, if_neg (by omega), if_pos e]
  · rw [if_neg e, if_neg e]
    by_cases e2 : f < c ∧ c < f + n
    · rw [if_pos e2, if_neg (by omega), if_neg (by omega), if_pos e2]
    · rw [if_neg e2, if_neg e2]
theorem tbv_upd {w : Nat → Int32} {F B k : Nat} {v : Int32} (h : F + B ≤ 6) (hB : B ≤ 3) (hk : 6 ≤ k) (hk2 : k < 46 ∨ 49 ≤ k) : tbv (upd w k v) F B = upd (tbv w F B) k v := by
  funext c
  rw [tbv_e h]
  show _ = if c = k then v else tbv w F B c
  rw [tbv_e h]
  unfold upd
  by_cases e : 46 ≤ c ∧ c < 46 + B
  · rw [if_pos e, if_neg (by omega), if_neg (by omega), if_pos e]
  · rw [if_neg e, if_neg e]
theorem tbv_shv {w : Nat → Int32} {F B : Nat} {x : Int32} (h : F + B ≤ 6) (hB : B ≤ 3) : tbv (shv w 40 3 x) F B = shv (tbv w F B) 40 3 x := by
  funext c
  rw [tbv_e h]
  show _ = if c = 40 then x else if 40 < c ∧ c < 40 + 3 then tbv w F B (c - 1) else tbv w F B c
  rw [tbv_e h, tbv_e h]
  unfold shv
  by_cases e : 46 ≤ c ∧ c < 46 + B
  · rw [if_pos e, if_neg (by omega), if_neg (by omega), if_neg (by omega), if_neg (by omega), if_pos e]
  · rw [if_neg e]
    by_cases e2 : c = 40
    · rw [if_pos e2, if_pos e2]
    · rw [if_neg e2, if_neg e2]
      by_cases e3 : 40 < c ∧ c < 40 + 3
      · rw [if_pos e3, if_pos e3, if_neg (by omega)]
      · rw [if_neg e3, if_neg e3, if_neg e]
theorem hrv_upd {w : Nat → Int32} {q : Int32} {k : Nat} {v : Int32} (h1 : k ≠ 23) (h2 : k ≠ 24) (h3 : k ≠ 17) : hrv (upd w k v) q = upd (hrv w q) k v := by
  unfold hrv
  rw [pk_un (Ne.symm h1), pk_un (Ne.symm h2)]
  by_cases c : q = 0
  · rw [if_pos c, if_pos c]
    by_cases c2 : hmn (w 24 + 1) 4 = 4
    · rw [if_pos c2, if_pos c2, upd_o h1, upd_o h2, upd_o h3]
    · rw [if_neg c2, if_neg c2, upd_o h1, upd_o h2]
  · rw [if_neg c, if_neg c]
    by_cases c2 : hmn (w 23 + 1) 4 = 4
    · rw [if_pos c2, if_pos c2, upd_o h1, upd_o h2, upd_o h3]
    · rw [if_neg c2, if_neg c2, upd_o h1, upd_o h2]
theorem vtv_upd {w : Nat → Int32} {vi ai k : Nat} {b en lo hi v : Int32} (h1 : k ≠ vi) (h2 : k ≠ ai) : vtv (upd w k v) vi b en ai lo hi = upd (vtv w vi b en ai lo hi) k v := by
  unfold vtv
  rw [pk_un (Ne.symm h1), pk_un (Ne.symm h2)]
  by_cases c : hsz (w vi + b) < en
  · rw [if_pos c, if_pos c, upd_o h1]
  · rw [if_neg c, if_neg c, upd_o h1, upd_o h2, upd_o h1]
theorem lfv_upd {err g v : Int32} {k : Nat} (h1 : 12 ≤ k) (h2 : k < 40 ∨ 43 ≤ k) {w : Nat → Int32} : ∀ N, N ≤ 3 → fr (lfv err g) (upd w k v) N = upd (fr (lfv err g) w N) k v := by
  intro N
  induction N with
  | zero => intro _; rfl
  | succ N ih =>
    intro h
    show lfv err g N (fr (lfv err g) (upd w k v) N) = upd (lfv err g N (fr (lfv err g) w N)) k v
    rw [ih (by omega)]
    unfold lfv
    rw [pk_un (show 40 + N ≠ k by omega), vtv_upd (by omega) (by omega)]
theorem lbv_upd {F : Nat} {err g v : Int32} {k : Nat} (hF : F ≤ 3) (h1 : 12 ≤ k) (h2 : k < 37 ∨ 40 ≤ k) {w : Nat → Int32} : ∀ N, N ≤ 3 → fr (lbv F err g) (upd w k v) N = upd (fr (lbv F err g) w N) k v := by
  intro N
  induction N with
  | zero => intro _; rfl
  | succ N ih =>
    intro h
    show lbv F err g N (fr (lbv F err g) (upd w k v) N) = upd (lbv F err g N (fr (lbv F err g) w N)) k v
    rw [ih (by omega)]
    unfold lbv
    rw [pk_un (show 37 + N ≠ k by omega), vtv_upd (by omega) (by omega)]
theorem lev_upd {F B k : Nat} {tr lk kp err g v : Int32} {w : Nat → Int32} (hF : F ≤ 3) (hB : B ≤ 3) (h1 : 16 ≤ k) (h2 : k < 37 ∨ 44 ≤ k) : lev F B tr lk kp err g (upd w k v) = upd (lev F B tr lk kp err g w) k v := by
  unfold lev
  rw [lfv_upd (by omega) (by omega) F hF, lbv_upd hF (by omega) (by omega) B hB]
  generalize fr (lbv F err g) (fr (lfv err g) w F) B = u
  have e : ltv tr kp err g (upd u k v) = upd (ltv tr kp err g u) k v := by
    unfold ltv
    by_cases c : tr = 1
    · rw [if_pos c, if_pos c, vtv_upd (by omega) (by omega)]
    · rw [if_neg c, if_neg c]
  rw [e]
  generalize ltv tr kp err g u = u2
  unfold lkv
  by_cases c : lk ≤ 0
  · rw [if_pos c, if_pos c]
  · rw [if_neg c, if_neg c, pk_un (show 37 ≠ k by omega), pk_un (show 43 ≠ k by omega), vtv_upd (by omega) (by omega)]
theorem lev_g {F B k : Nat} {tr lk kp err g : Int32} {w : Nat → Int32} (hF : F ≤ 3) (hB : B ≤ 3) (h1 : 16 ≤ k) : lev F B tr lk kp err g w k = w k := by
  unfold lev lkv
  have e : ∀ u, ltv tr kp err g u k = u k := fun u => ltv_g (by omega) (by omega)
  split
  · rw [e, lbv_g hF (by omega) B hB, lfv_g (by omega) F hF]
  · rw [vtv_g (by omega) (by omega), e, lbv_g hF (by omega) B hB, lfv_g (by omega) F hF]
theorem RB_upd {F B k : Nat} {tr lk g ls kp err v : Int32} {w : Nat → Int32} (hF : F ≤ 3) (hB : B ≤ 3) (h1 : 16 ≤ k) (h2 : k < 37 ∨ 44 ≤ k) (h3 : k ≠ 26) : RB F B tr lk g ls kp err (upd w k v) = upd (RB F B tr lk g ls kp err w) k v := by
  unfold RB
  by_cases c : ls = 0
  · rw [if_pos c, if_pos c]
  · rw [if_neg c, if_neg c, pk_un (Ne.symm h3), upd_o h3, lev_upd hF hB h1 h2]
theorem RB_g {F B k : Nat} {tr lk g ls kp err : Int32} {w : Nat → Int32} (hF : F ≤ 3) (hB : B ≤ 3) (h1 : 16 ≤ k) (h3 : k ≠ 26) : RB F B tr lk g ls kp err w k = w k := by
  unfold RB
  split
  · rfl
  · rw [lev_g hF hB h1, pk_un h3]
theorem jgv_upd {wr bk v : Int32} {w : Nat → Int32} {k : Nat} (h1 : k ≠ 25) (h2 : k < 27 ∨ 31 ≤ k) : jgv wr bk (upd w k v) = upd (jgv wr bk w) k v := by
  unfold jgv
  rw [pk_un (show 29 ≠ k by omega), pk_un (show 30 ≠ k by omega), pk_un (show 27 ≠ k by omega), pk_un (show 28 ≠ k by omega), pk_un (show 25 ≠ k by omega)]
  by_cases c : wr = 0
  · rw [if_pos c, if_pos c]
    by_cases c2 : w 29 ≤ 0
    · rw [if_pos c2, if_pos c2]
    · rw [if_neg c2, if_neg c2]
      by_cases c3 : w 30 + 1 < hmx bk 1
      · rw [if_pos c3, if_pos c3, upd_o (show k ≠ 29 by omega), upd_o (show k ≠ 30 by omega)]
      · rw [if_neg c3, if_neg c3, upd_o (show k ≠ 27 by omega), upd_o (show k ≠ 28 by omega), upd_o (show k ≠ 29 by omega), upd_o (show k ≠ 30 by omega)]
  · rw [if_neg c, if_neg c, upd_o h1, upd_o (show k ≠ 29 by omega), upd_o (show k ≠ 30 by omega)]
theorem jgv_g {wr bk : Int32} {w : Nat → Int32} {k : Nat} (h1 : k ≠ 25) (h2 : k < 27 ∨ 31 ≤ k) : jgv wr bk w k = w k := by
  unfold jgv
  repeat' split
  · rfl
  · rw [pk_un (by omega), pk_un (by omega)]
  · rw [pk_un (by omega), pk_un (by omega), pk_un (by omega), pk_un (by omega)]
  · rw [pk_un (by omega), pk_un (by omega), pk_un (by omega)]
theorem RC_upd {B k : Nat} {wr kp v : Int32} {w : Nat → Int32} (h1 : k ≠ 25) (h2 : k < 27 ∨ 31 ≤ k) (h3 : k < 37 ∨ 40 ≤ k) : RC B wr kp (upd w k v) = upd (RC B wr kp w) k v := by
  unfold RC
  rw [shv_upd (by omega) (by omega), jgv_upd h1 h2]
theorem RC_g {B k : Nat} {wr kp : Int32} {w : Nat → Int32} (h1 : k ≠ 25) (h2 : k < 27 ∨ 31 ≤ k) (h3 : k < 37 ∨ 40 ≤ k) : RC B wr kp w k = w k := by
  unfold RC
  rw [jgv_g h1 h2, shv_g (by omega) (by omega)]
theorem RA_g {F B k : Nat} {sm fs qt : Int32} {w : Nat → Int32} (hB : B ≤ 3) (h1 : k < 40 ∨ 49 ≤ k) (h2 : k ≠ 23) (h3 : k ≠ 24) (h4 : k ≠ 17) : RA F B sm fs qt w k = w k := by
  unfold RA
  rw [hrv_g h2 h3 h4, shv_g (by omega) (by omega), tbv_g (by omega) hB, pk_un (by omega)]
/-! the reference's symbol, from its end -/
def HIDN : Int32 := -1000000000
theorem hmx_c (a b : Int32) : hmx a b = hmx b a := by
  unfold hmx
  simp only [Int32.lt_iff_toInt_lt]
  by_cases h1 : a.toInt < b.toInt
  · rw [if_pos h1, if_neg (by omega)]
  · rw [if_neg h1]
    by_cases h2 : b.toInt < a.toInt
    · rw [if_pos h2]
    · rw [if_neg h2]
      exact Int32.toInt_inj.mp (by omega)
def nte (s mk wr : Int32) (m : hM) : hR := calV (JX12_note s mk m) fun m34 => jretZ wr m34
section
variable {m : hM} {F B D P W : Nat} {w : Nat → Int32}
theorem m_331 {b dec trd wr ls s : Int32} (hd : w 17 = 0 ∨ w 17 = 1) : JX12_symbol_331 b dec trd wr ls s (Nm m w) = nte s (Rmk b dec wr (w 17) ls trd) wr (Nm m w) := by
  unfold JX12_symbol_331 JX12_symbol_343 JX12_symbol_354 JX12_symbol_377 JX12_symbol_389 nte Rmk
  have e : (8 : Int32) * w 17 = if w 17 = 0 then 0 else 8 := by
    rcases hd with h | h <;> rw [h] <;> decide
  by_cases c1 : dec = 1 <;> by_cases c2 : wr = 0 <;> by_cases c4 : ls = 0 <;> by_cases c5 : trd = 0 <;> simp only [c1, c2, c4, c5, if_true, if_false, NR17, e]
/-- the row's count of right ones fits -/
def gdv (B : Nat) (a : Int32) : Prop := a + 1 < hmx (nI B) 1 ∨ a + 1 = hmx (nI B) 1
theorem m_285 {b v2 ms dec trd kp wr err ls : Int32} (hg : gdv B (w 30)) (hd : w 17 = 0 ∨ w 17 = 1) (hl : Ln m 0 F B D P W) (hm : Lm m P W) : JX12_symbol_285 b v2 ms dec trd kp wr err ls (Nm m w) = nte (if ms = 0 then v2 else -1000000000) (Rmk b dec wr (w 17) ls trd) wr (Nm m (upd (upd (RC B wr kp w) 43 err) 18 (w 18 + 1))) := by
  unfold JX12_symbol_285
  obtain ⟨r, hr⟩ : ∃ r, w 30 = nI r := ⟨(w 30).toBitVec.toNat, by
    apply Int32.toBitVec_inj.mp
    show _ = BitVec.ofNat 32 _
    rw [BitVec.ofNat_toNat, BitVec.setWidth_eq]⟩
  rw [show (37 : Int32) = nI 37 from rfl, show (3 : Int32) = nI (2 + 1) from rfl, e_shift (by decide), calV_s, NW43, m_runOn (r := r) (by rw [pk_un (by decide), shv_g (by decide) (by decide), hr]) (by rw [← hr]; exact hg) (hmx_c _ _) hl hm, calV_s, NR18, NW18, jgv_upd (by decide) (by decide)]
  have e : upd (jgv wr (nI B) (shv w 37 (2 + 1) kp)) 43 err = upd (RC B wr kp w) 43 err := rfl
  rw [e]
  have e17 : upd (upd (RC B wr kp w) 43 err) 18 (w 18 + 1) 17 = w 17 := by rw [pk_un (by decide), pk_un (by decide), RC_g (by decide) (by decide) (by decide)]
  have e18 : upd (RC B wr kp w) 43 err 18 = w 18 := by rw [pk_un (by decide), RC_g (by decide) (by decide) (by decide)]
  rw [e18, m_331 (by rw [e17]; exact hd), m_331 (by rw [e17]; exact hd), e17]
  by_cases c : ms = 0
  · rw [if_pos c, if_pos c]
  · rw [if_neg c, if_neg c]
theorem m_270 {b v2 ms dec trd kp wr err ls : Int32} (hg : gdv B (w 30)) (hd : w 17 = 0 ∨ w 17 = 1) (hl : Ln m 0 F B D P W) (hm : Lm m P W) : JX12_symbol_270 b v2 ms dec trd kp wr err ls (Nm m w) = nte (if ms = 0 then v2 else -1000000000) (Rmk b dec wr (w 17) ls trd) wr (Nm m (upd (upd (RC B wr kp (RB F B (m.1 5 0 10) (m.1 5 0 11) (m.1 40 0 22) ls kp err w)) 43 err) 18 (w 18 + 1))) := by
  have hl2 := hl
  obtain ⟨l0, l1, l2, l3, l4, f1, f2, b2, d2, p2, w2⟩ := hl
  unfold JX12_symbol_270
  by_cases c : ls = 0
  · rw [if_pos c, m_285 hg hd hl2 hm]
    unfold RB
    rw [if_pos c]
  · rw [if_neg c, m_learn hl2 hm, calV_s]
    have g17 := lev_g (tr := m.1 5 0 10) (lk := m.1 5 0 11) (kp := kp) (err := err) (g := m.1 40 0 22) (w := upd w 26 (w 26 + 1)) f2 b2 (show 16 ≤ 17 by decide)
    have g18 := lev_g (tr := m.1 5 0 10) (lk := m.1 5 0 11) (kp := kp) (err := err) (g := m.1 40 0 22) (w := upd w 26 (w 26 + 1)) f2 b2 (show 16 ≤ 18 by decide)
    have g30 := lev_g (tr := m.1 5 0 10) (lk := m.1 5 0 11) (kp := kp) (err := err) (g := m.1 40 0 22) (w := upd w 26 (w 26 + 1)) f2 b2 (show 16 ≤ 30 by decide)
    rw [pk_un (by decide)] at g17 g18 g30
    rw [m_285 (by rw [g30]; exact hg) (by rw [g17]; exact hd) hl2 hm, g17, g18]
    unfold RB
    rw [if_neg c]
theorem m_238 {b v2 ms dec trd kp wr err qt : Int32} : JX12_symbol_238 b v2 ms dec trd kp wr err qt (Nm m w) = JX12_symbol_270 b v2 ms dec trd kp wr err (Rls ms (hrv w qt 16) (hrv w qt 17)) (Nm m (hrv w qt)) := by
  unfold JX12_symbol_238 JX12_symbol_269 Rls
  rw [m_hush, calV_s, NR16, NR17]
  by_cases c1 : hrv w qt 16 = 0 <;> by_cases c2 : hrv w qt 17 = 0 <;> by_cases c3 : ms = 0 <;> simp only [c1, c2, c3, if_true, if_false]
theorem m_186 {b v2 ms dec trd kp wr : Int32} (hm : Lm m P W) : JX12_symbol_186 b v2 ms dec trd kp wr (Nm m w) = JX12_symbol_238 b v2 ms dec trd kp wr (hsg (w 44 - 64 * w 12 * kp)) (Rqt ms (m.1 5 0 6) v2) (Nm m w) := by
  unfold JX12_symbol_186 JX12_symbol_233 Rqt
  rw [NR44, NR12, e_sign, calI_s, e_size, calI_s, NL6, hm.1 6 (by decide)]
  by_cases c1 : ms = 0 <;> by_cases c2 : m.1 5 0 6 ≤ hsz v2 <;> simp only [c1, c2, if_true, if_false]
theorem m_147 {b v2 ms dec tru trd kp : Int32} : JX12_symbol_147 b v2 ms dec tru trd kp (Nm m w) = JX12_symbol_186 b v2 ms dec trd kp (Rwr tru dec) (Nm m (upd w 19 (hmx (w 19 - 1) 0))) := by
  unfold JX12_symbol_147 JX12_symbol_185 Rwr
  rw [NR19, e_max, calI_s, NW19, hmx_c]
  by_cases c1 : tru = 0 <;> by_cases c2 : dec = tru <;> simp only [c1, c2, if_true, if_false]
theorem m_95 {b v2 ms dec : Int32} (hl : Ln m 0 F B D P W) (hm : Lm m P W) : JX12_symbol_95 b v2 ms dec (Nm m w) = JX12_symbol_147 b v2 ms dec (w (31 + D)) (Rtr (w 19) (w (31 + D))) (Rkp (Rtr (w 19) (w (31 + D))) dec (w (31 + D))) (Nm m w) := by
  obtain ⟨l0, l1, l2, l3, l4, f1, f2, b2, d2, p2, w2⟩ := hl
  unfold JX12_symbol_95 JX12_symbol_132 JX12_symbol_133 Rkp Rtr
  rw [NL3, hm.1 3 (by decide), l3, show (31 : Int32) + nI D = nI (31 + D) from by rw [show (31 : Int32) = nI 31 from rfl, nI_add], Nald (31 + D) rfl (by omega), NR19]
  by_cases c1 : w 19 ≤ 0 <;> by_cases c2 : w (31 + D) = 0 <;> simp only [c1, c2, if_true, if_false]
  rfl
end
