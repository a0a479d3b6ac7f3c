/-! what a row becomes, told by the line alone -/
section
variable {m m2 : hM} {F B D P W ph : Nat} {w v : Nat → Int32} {nz g : Int32}
theorem nbv_m (hm : Lsm m m2) : nbv m 0 W w = nbv m2 0 W w := by
  unfold nbv
  rw [hm 7 _ (by decide) (by decide)]
theorem Tw_m (hm : Lsm m m2) : Tw m 0 W w = Tw m2 0 W w := by
  unfold Tw
  rw [nbv_m hm]
theorem wM_m (hm : Lsm m m2) : wM m W v = wM m2 W v := by
  unfold wM
  rw [Tw_m hm]
theorem TA_m (hm : Lsm m m2) : TA m 0 F B P ph nz w = TA m2 0 F B P ph nz w := by
  unfold TA
  rw [q_Rsm (m := m) (m2 := m2) (w := w) (v := w) (fun _ _ => rfl) hm, hm 5 6 (by decide) (by decide)]
theorem TC_m (hm : Lsm m m2) (hF : F ≤ 3) (hB : B ≤ 3) (hD : D ≤ 2) : TC m 0 F B D P ph nz g w = TC m2 0 F B D P ph nz g w := by
  unfold TC
  rw [q_Twr (m := m) (m2 := m2) (w := w) (v := w) (fun _ _ => rfl) hm hF hB hD, q_Tkp (m := m) (m2 := m2) (w := w) (v := w) (fun _ _ => rfl) hm hF hB hD, q_Tls (m := m) (m2 := m2) (w := w) (v := w) (fun _ _ => rfl) hm hF hB, q_Ter (m := m) (m2 := m2) (w := w) (v := w) (fun _ _ => rfl) hm hF hB hD, TA_m hm, hm 5 10 (by decide) (by decide), hm 5 11 (by decide) (by decide)]
theorem stM_m (hm : Lsm m m2) (hF : F ≤ 3) (hB : B ≤ 3) (hD : D ≤ 2) : stM m F B D P W g v = stM m2 F B D P W g v := by
  unfold stM TM
  rw [wM_m hm, TC_m hm hF hB hD, q_Tz (m := m) (m2 := m2) (w := wM m2 W v) (v := wM m2 W v) (fun _ _ => rfl) hm hF hB, q_Ter (m := m) (m2 := m2) (w := wM m2 W v) (v := wM m2 W v) (fun _ _ => rfl) hm hF hB hD]
theorem wrM_m (hm : Lsm m m2) (hF : F ≤ 3) (hB : B ≤ 3) (hD : D ≤ 2) : wrM m F B D P W v = wrM m2 F B D P W v := by
  unfold wrM
  rw [wM_m hm, q_Twr (m := m) (m2 := m2) (w := wM m2 W v) (v := wM m2 W v) (fun _ _ => rfl) hm hF hB hD]
/-- what the log is told -/
def nS (m : hM) (P W : Nat) (v : Nat → Int32) : Int32 := if wM m W v 22 = 0 then Rsm m 0 P (phN v) (nM v) (wM m W v) else -1000000000
def nK (m : hM) (F B D P W : Nat) (v : Nat → Int32) : Int32 := Rmk (nbv m 0 W v) (Tdec m 0 F B P (phN v) (nM v) (wM m W v)) (wrM m F B D P W v) (TA m 0 F B P (phN v) (nM v) (wM m W v) 17) (Tls m 0 F B P (phN v) (nM v) (wM m W v)) (Ttr D (wM m W v))
theorem nS_m (hm : Lsm m m2) : nS m P W v = nS m2 P W v := by
  unfold nS
  rw [wM_m hm, q_Rsm (m := m) (m2 := m2) (w := wM m2 W v) (v := wM m2 W v) (fun _ _ => rfl) hm]
theorem nK_m (hm : Lsm m m2) (hF : F ≤ 3) (hB : B ≤ 3) (hD : D ≤ 2) : nK m F B D P W v = nK m2 F B D P W v := by
  unfold nK
  rw [wM_m hm, nbv_m hm, wrM_m hm hF hB hD, TA_m hm, q_Tdec (m := m) (m2 := m2) (w := wM m2 W v) (v := wM m2 W v) (fun _ _ => rfl) hm hF hB, q_Tls (m := m) (m2 := m2) (w := wM m2 W v) (v := wM m2 W v) (fun _ _ => rfl) hm hF hB]
end
/-- a row, when its log is told -/
def ntv (a mk : Int32) (v : Nat → Int32) : Nat → Int32 := if v 51 = 60 then (fun i => if i = 229 then a else if i = 230 then v 44 else if i = 231 then mk else if 52 ≤ i ∧ i < 229 then v (i + 3) else v i) else (fun i => if i = 52 + 3 * (v 51).toNatClampNeg then a else if i = 53 + 3 * (v 51).toNatClampNeg then v 44 else if i = 54 + 3 * (v 51).toNatClampNeg then mk else if i = 51 then v 51 + 1 else v i)
theorem ntv_lo {a mk : Int32} {v : Nat → Int32} {k : Nat} (h : k < 51) : ntv a mk v k = v k := by
  unfold ntv
  by_cases c : v 51 = 60
  · rw [if_pos c]
    show (if k = 229 then a else if k = 230 then v 44 else if k = 231 then mk else if 52 ≤ k ∧ k < 229 then v (k + 3) else v k) = v k
    rw [if_neg (by omega), if_neg (by omega), if_neg (by omega), if_neg (by omega)]
  · rw [if_neg c]
    show (if k = 52 + 3 * (v 51).toNatClampNeg then a else if k = 53 + 3 * (v 51).toNatClampNeg then v 44 else if k = 54 + 3 * (v 51).toNatClampNeg then mk else if k = 51 then v 51 + 1 else v k) = v k
    rw [if_neg (by omega), if_neg (by omega), if_neg (by omega), if_neg (by omega)]
def stN (m : hM) (F B D P W : Nat) (g : Int32) (v : Nat → Int32) : Nat → Int32 := ntv (nS m P W v) (nK m F B D P W v) (stM m F B D P W g v)
def itN (m : hM) (F B D P W : Nat) (g : Int32) (v : Nat → Int32) (N : Nat) : Nat → Int32 := fr (fun _ v => stN m F B D P W g v) v N
def wrN (m : hM) (F B D P W : Nat) (g : Int32) (v : Nat → Int32) (N : Nat) : Int32 := sumN (fun i => wrM m F B D P W (itN m F B D P W g v i)) N
section
variable {m m2 : hM} {F B D P W t : Nat} {g : Int32} {w v : Nat → Int32} {x : Int64}
theorem stN_m (hm : Lsm m m2) (hF : F ≤ 3) (hB : B ≤ 3) (hD : D ≤ 2) : stN m F B D P W g v = stN m2 F B D P W g v := by
  unfold stN
  rw [nS_m hm, nK_m hm hF hB hD, stM_m hm hF hB hD]
theorem itN_m (hm : Lsm m m2) (hF : F ≤ 3) (hB : B ≤ 3) (hD : D ≤ 2) : ∀ N, itN m F B D P W g v N = itN m2 F B D P W g v N := by
  intro N
  induction N with
  | zero =>
    show v = v
    rfl
  | succ N ih =>
    show stN m F B D P W g (itN m F B D P W g v N) = stN m2 F B D P W g (itN m2 F B D P W g v N)
    rw [ih, stN_m hm hF hB hD]
theorem wrN_m (hm : Lsm m m2) (hF : F ≤ 3) (hB : B ≤ 3) (hD : D ≤ 2) (N : Nat) : wrN m F B D P W g v N = wrN m2 F B D P W g v N := by
  unfold wrN
  exact sumN_congr _ (fun i _ => by rw [itN_m hm hF hB hD, wrM_m hm hF hB hD])
theorem VW_stN (h : VW B v t) (hF : F ≤ 3) (hB : B ≤ 3) : VW B (stN m F B D P W g v) (t + 1) := VW_q (v := stM m F B D P W g v) (fun k hk => ntv_lo (by omega)) (VW_TM hF hB (VW_wM h))
theorem VW_itN (h : VW B v t) (hF : F ≤ 3) (hB : B ≤ 3) : ∀ N, VW B (itN m F B D P W g v N) (t + N) := by
  intro N
  induction N with
  | zero => exact h
  | succ N ih => exact VW_stN ih hF hB
theorem c60 {t : Nat} : (nI (min t 60) = 60) ↔ 60 ≤ t := by
  constructor
  · intro e
    have := (nI_eq (a := min t 60) (b := 60) (by omega) (by decide)).mp e
    omega
  · intro h
    rw [show min t 60 = 60 from by omega]
    rfl
theorem stN_51 (h : v 51 = nI (min t 60)) (hF : F ≤ 3) (hB : B ≤ 3) : stN m F B D P W g v 51 = nI (min (t + 1) 60) := by
  have s51 : stM m F B D P W g v 51 = nI (min t 60) := by rw [stM_g hF hB (Nat.le_refl _)]; exact h
  unfold stN
  generalize stM m F B D P W g v = u at s51
  unfold ntv
  by_cases c : 60 ≤ t
  · rw [s51, if_pos (c60.mpr c)]
    show u 51 = _
    rw [s51, show min (t + 1) 60 = min t 60 from by omega]
  · rw [s51, if_neg (fun e => c (c60.mp e))]
    show (if 51 = 52 + 3 * (nI (min t 60)).toNatClampNeg then _ else if 51 = 53 + 3 * (nI (min t 60)).toNatClampNeg then _ else if 51 = 54 + 3 * (nI (min t 60)).toNatClampNeg then _ else if 51 = 51 then nI (min t 60) + 1 else u 51) = _
    rw [if_neg (by omega), if_neg (by omega), if_neg (by omega), if_pos rfl, ← nI_succ, show min (t + 1) 60 = min t 60 + 1 from by omega]
theorem itN_51 (h : v 51 = nI (min t 60)) (hF : F ≤ 3) (hB : B ≤ 3) : ∀ N, itN m F B D P W g v N 51 = nI (min (t + N) 60) := by
  intro N
  induction N with
  | zero => exact h
  | succ N ih => exact stN_51 ih hF hB
/-! the reference notes -/
theorem m_note66 {a mk : Int32} {L : Nat} (hL : L < 60) (h : v 51 = nI L) : JX12_note_66 a mk (Nm m v) = some (none, Nm m (fun i => if i = 52 + 3 * L then a else if i = 53 + 3 * L then v 44 else if i = 54 + 3 * L then mk else if i = 51 then v 51 + 1 else v i)) := by
  unfold JX12_note_66
  have e0 : (52 : Int32) + 3 * nI L = nI (52 + 3 * L) := by rw [show (52 : Int32) = nI 52 from rfl, show (3 : Int32) = nI 3 from rfl, pk_mul, nI_add]
  have e1 : nI (52 + 3 * L) + 1 = nI (53 + 3 * L) := by rw [← nI_succ]; congr 1; omega
  have e2 : nI (52 + 3 * L) + 2 = nI (54 + 3 * L) := by rw [show (2 : Int32) = nI 2 from rfl, nI_add]; congr 1; omega
  rw [NR51, h, lt_s9, e0, Nast (52 + 3 * L) rfl (by omega), NR44, e1, Nast (53 + 3 * L) rfl (by omega), e2, Nast (54 + 3 * L) rfl (by omega), NR51, NW51]
  congr 3
  funext i
  rw [pk_un (by omega : 44 ≠ 52 + 3 * L), pk_un (by omega : 51 ≠ 54 + 3 * L), pk_un (by omega : 51 ≠ 53 + 3 * L), pk_un (by omega : 51 ≠ 52 + 3 * L), h]
  simp only [upd_a]
  by_cases c1 : i = 51
  · rw [if_pos c1, if_neg (by omega), if_neg (by omega), if_neg (by omega), if_pos c1]
  · rw [if_neg c1]
    by_cases c2 : i = 54 + 3 * L
    · rw [if_pos c2, if_neg (by omega), if_neg (by omega), if_pos c2]
    · rw [if_neg c2]
      by_cases c3 : i = 53 + 3 * L
      · rw [if_pos c3, if_neg (by omega), if_pos c3]
      · rw [if_neg c3]
        by_cases c4 : i = 52 + 3 * L
        · rw [if_pos c4, if_pos c4]
        · rw [if_neg c4, if_neg c4, if_neg c3, if_neg c2, if_neg c1]
theorem m_note {a mk : Int32} (h24 : m.1 40 0 24 = 0) (h : v 51 = nI (min t 60)) : JX12_note a mk (Nm m v) = some (none, Nm m (ntv a mk v)) := by
  unfold JX12_note ntv
  rw [Nm_o (by decide), h24, if_pos rfl, NR51]
  by_cases c : v 51 = 60
  · rw [if_pos c, if_pos c]
    have e0 : (fun k => if 52 ≤ k ∧ k < 52 + 0 then v (k + 3) else v k) = v := by
      funext k
      rw [if_neg (by omega)]
    refine Eq.trans (congrArg (fun z => JX12_note_22 (fun m12 => ald m12 50 0 51 fun x13 => ast m12 50 0 51 (x13 - 1) fun m14 => JX12_note_66 a mk m14) a mk FU 3 (Nm m z)) e0.symm) ?_
    refine Eq.trans (lpF (fun f (x : Int32 × hM) => JX12_note_22 (fun m12 => ald m12 50 0 51 fun x13 => ast m12 50 0 51 (x13 - 1) fun m14 => JX12_note_66 a mk m14) a mk f x.1 x.2) (fun i => (nI (3 + i), Nm m (fun k => if 52 ≤ k ∧ k < 52 + i then v (k + 3) else v k))) 177 (by omega) (by
      intro i f hi
      show bJX12_note_22 _ _ _ _ (nI (3 + i)) _ = _
      unfold bJX12_note_22
      have e0 : (52 : Int32) + nI (3 + i) = nI (52 + i + 3) := by rw [show (52 : Int32) = nI 52 from rfl, nI_add]; congr 1; omega
      have e1 : nI (52 + i + 3) - 3 = nI (52 + i) := by rw [show (3 : Int32) = nI 3 from rfl, pk_sub (by omega), Nat.add_sub_cancel]
      rw [if_neg (show ¬ (180 : Int32) ≤ nI (3 + i) from nI_ge (b := 180) (by omega) (by decide)), e0, Nald (52 + i + 3) rfl (by omega), e1, Nast (52 + i) rfl (by omega)]
      show JX12_note_22 _ _ _ f (nI (3 + i) + 1) _ = JX12_note_22 _ _ _ f (nI (3 + (i + 1))) _
      rw [← nI_succ]
      congr 2
      funext k
      rw [if_neg (by omega)]
      simp only [upd_a]
      by_cases c2 : k = 52 + i
      · rw [if_pos c2, if_pos (by omega), c2]
      · rw [if_neg c2]
        by_cases c3 : 52 ≤ k ∧ k < 52 + i
        · rw [if_pos c3, if_pos (by omega)]
        · rw [if_neg c3, if_neg (by omega)])) ?_
    · show bJX12_note_22 _ _ _ _ (nI (3 + 177)) _ = _
      unfold bJX12_note_22
      rw [if_pos (by decide)]
      show ald (Nm m _) 50 0 51 _ = _
      rw [NR51, NW51, if_neg (by decide), c, m_note66 (L := 59) (by decide) (by rw [pk_us]; decide)]
      congr 3
      funext i
      rw [pk_us, pk_un (by decide : 44 ≠ 51), if_neg (by decide : ¬ (52 ≤ 44 ∧ 44 < 52 + 177))]
      by_cases c1 : i = 229
      · rw [if_pos (show i = 52 + 3 * 59 by omega), if_pos c1]
      · rw [if_neg (show ¬ i = 52 + 3 * 59 by omega), if_neg c1]
        by_cases c2 : i = 230
        · rw [if_pos (show i = 53 + 3 * 59 by omega), if_pos c2]
        · rw [if_neg (show ¬ i = 53 + 3 * 59 by omega), if_neg c2]
          by_cases c3 : i = 231
          · rw [if_pos (show i = 54 + 3 * 59 by omega), if_pos c3]
          · rw [if_neg (show ¬ i = 54 + 3 * 59 by omega), if_neg c3]
            by_cases c4 : i = 51
            · rw [if_pos c4, if_neg (by omega), c4, c]
              decide
            · rw [if_neg c4, pk_un c4]
  · rw [if_neg c, if_neg c]
    have hL : min t 60 < 60 := by
      have : ¬ 60 ≤ t := fun e => c (by rw [h]; exact c60.mpr e)
      omega
    rw [m_note66 hL h, h, nI_clamp (by omega)]
theorem m_symN (h : VW B v t) (ht : t < 2 ^ 30) (hn : m.1 40 0 23 = -1000000000) (hi : m.1 40 0 24 = 0) (h51 : v 51 = nI (min t 60)) (hl : LL m F B D P W) : JX12_symbol (Nm m v) = some (some (.inl (wrM m F B D P W v)), Nm m (stN m F B D P W (m.1 40 0 22) v)) := by
  have hF : F ≤ 3 := hl.1.2.2.2.2.2.2.1
  have hB : B ≤ 3 := hl.1.2.2.2.2.2.2.2.1
  rw [m_sym0 h ht hn hl]
  unfold nte
  rw [m_note (t := t) hi (by rw [stM_g hF hB (Nat.le_refl _)]; exact h51), calV_s]
  exact jretZ_b (Rwr_b _ _)
theorem m_symbolsN {N : Nat} (h : VW B v t) (hn : m.1 40 0 23 = -1000000000) (hi : m.1 40 0 24 = 0) (h51 : v 51 = nI (min t 60)) (hl : LL m F B D P W) (hN : N < 10000) (ht : t < 100000) : JX12_symbols (nI N) (Nm m v) = some (some (.inl (wrN m F B D P W (m.1 40 0 22) v N)), Nm m (itN m F B D P W (m.1 40 0 22) v N)) := by
  unfold JX12_symbols
  have hF : F ≤ 3 := hl.1.2.2.2.2.2.2.1
  have hB : B ≤ 3 := hl.1.2.2.2.2.2.2.2.1
  refine Eq.trans (lpF (fun f (a : Int32 × Int32 × hM) => JX12_symbols_4 (fun v2 m4 => some (some (.inl v2), m4)) (nI N) f a.1 a.2.1 a.2.2) (fun i => (wrN m F B D P W (m.1 40 0 22) v i, nI i, Nm m (itN m F B D P W (m.1 40 0 22) v i))) N (by omega) (by
    intro i f hi2
    show bJX12_symbols_4 _ _ _ _ (nI i) _ = _
    unfold bJX12_symbols_4 JX12_symbols_22
    rw [if_neg (nI_ge hi2 (by omega)), m_symN (VW_itN h hF hB i) (by omega) hn hi (itN_51 h51 hF hB i) hl, calI_s]
    show (if wrM m F B D P W (itN m F B D P W (m.1 40 0 22) v i) = 0 then JX12_symbols_4 _ _ f (_ + 0) (nI i + 1) _ else JX12_symbols_4 _ _ f (_ + 1) (nI i + 1) _) = JX12_symbols_4 _ _ f (wrN m F B D P W (m.1 40 0 22) v i + wrM m F B D P W (itN m F B D P W (m.1 40 0 22) v i)) (nI (i + 1)) _
    rw [← nI_succ]
    have hb : wrM m F B D P W (itN m F B D P W (m.1 40 0 22) v i) = 0 ∨ wrM m F B D P W (itN m F B D P W (m.1 40 0 22) v i) = 1 := Rwr_b _ _
    rcases hb with h | h
    · rw [h, if_pos rfl]; rfl
    · rw [h, if_neg (by decide)]; rfl)) ?_
  show bJX12_symbols_4 _ _ _ _ (nI N) _ = _
  unfold bJX12_symbols_4
  rw [if_pos (nI_le (by omega) (by omega))]
/-! the class's log -/
theorem Rmk_4 (b dec wr dk ls trd : Int32) (hb : b = 0 ∨ b = 1) (hw : wr = 0 ∨ wr = 1) : ((Rmk b dec wr dk ls trd &&& 4) = 0) ↔ wr = 0 := by
  unfold Rmk
  rcases hb with hb | hb <;> rcases hw with hw | hw <;> subst hb <;> subst hw <;> (by_cases c1 : dec = 1 <;> by_cases c2 : dk = 0 <;> by_cases c3 : ls = 0 <;> by_cases c4 : trd = 0 <;> simp only [c1, c2, c3, c4, if_true, if_false] <;> decide)
theorem stC_at (m : hM) (F B D P W : Nat) (w : Nat → Int32) (x : Int64) : (stC m F B D P W (w, x)).1 = RD (if Tw m 0 W w 22 = 0 then Rsm m 0 P (phN w) (dnv x (w 20)) (Tw m 0 W w) else -1000000000) (Tz m 0 F B P (phN w) (dnv x (w 20)) (Tw m 0 W w)) (Ter m 0 F B D P (phN w) (dnv x (w 20)) (Tw m 0 W w)) (Tmk m 0 F B D P (phN w) (dnv x (w 20)) (w 1088) (Tw m 0 W w)) (TC m 0 F B D P (phN w) (dnv x (w 20)) (w 1088) (Tw m 0 W w)) := rfl
theorem Tw_31 : Tw m 0 W w 31 = if nbv m 0 W w = 1 then 1 else -1 := by
  unfold Tw sbv shv
  rw [if_pos rfl]
theorem stC_log (h : RS B g w x v t) (hl : LL m F B D P W) : (stC m F B D P W (w, x)).1 1078 = nS m P W v ∧ (stC m F B D P W (w, x)).1 1110 = nK m F B D P W v := by
  have hp := RS_ph h
  have hq := wM_q (m := m) (m2 := m) (W := W) h (fun _ _ _ _ => rfl)
  obtain ⟨⟨l0, l1, l2, l3, l4, f1, f2, b2, d2, p2, w2⟩, hlm, hlw⟩ := hl
  rw [stC_at, hp.1, hp.2, h.2.2.2.1]
  unfold RD
  refine ⟨?_, ?_⟩
  · rw [pk_un (by decide), pk_un (by decide), pk_un (by decide), pk_un (by decide), pk_un (by decide), pk_un (by decide), pk_us]
    unfold nS
    rw [hq 22 (by decide), q_Rsm hq (fun _ _ _ _ => rfl)]
  · rw [pk_un (by decide), pk_un (by decide), pk_un (by decide), pk_us]
    unfold Tmk nK
    have e17 : TC m 0 F B D P (phN v) (nM v) g (Tw m 0 W w) 17 = TA m 0 F B P (phN v) (nM v) (wM m W v) 17 := by
      unfold TC
      rw [RC_g (by decide) (by decide) (by decide), RB_g f2 b2 (by decide) (by decide), q_TA hq (fun _ _ _ _ => rfl) f2 b2 17 (by decide)]
    have e31 : (if TC m 0 F B D P (phN v) (nM v) g (Tw m 0 W w) 31 = 1 then (1 : Int32) else 0) = nbv m 0 W v := by
      rw [TC_g f2 b2 (by decide) (by decide) (by decide) (by decide), Tw_31]
      have en : nbv m 0 W w = nbv m 0 W v := by
        unfold nbv
        rw [h.1 21 (by decide), h.1 18 (by decide)]
      rw [en]
      rcases nbv_b (w := v) hlw with q | q <;> rw [q] <;> decide
    rw [e17, e31, q_Tdec hq (fun _ _ _ _ => rfl) f2 b2, q_Twr hq (fun _ _ _ _ => rfl) f2 b2 d2, q_Tls hq (fun _ _ _ _ => rfl) f2 b2, q_Ttr hq d2]
    rfl
end
