/-! the past, told apart for class and reference -/
def KC (m : hM) (B : Nat) (g : Int32) (c : Nat) (kr : Nat → Nat → Int32) (tt : Nat → Nat) : Prop := ∃ s, m.1 0 0 16 = nI c ∧ m.1 0 0 15 = nI s ∧ c ≤ 40 ∧ s < 40 ∧ ∀ j, j < c → ST m B g ((s + j) % 40) 0 2460 (kr j) (tt j)
def KT (c : Nat) (tt : Nat → Nat) (T e : Nat) : Prop := (∀ i j, i ≤ j → j < c → tt i ≤ tt j ∧ tt j ≤ tt i + 60 * (j - i)) ∧ ∀ j, j < c → tt j ≤ T ∧ T ≤ tt j + 60 * (c - 1 - j) + e
def KM (m : hM) (c : Nat) (kr : Nat → Nat → Int32) : Prop := m.1 40 0 28 = nI c ∧ ∀ j i, j < c → i < 232 → krow m j i = kr j i
def pc (c : Nat) : Nat := if c < 40 then c + 1 else 40
def pk {α : Type} (c : Nat) (kr : Nat → α) (v : α) : Nat → α := fun j => if c < 40 then (if j = c then v else kr j) else (if j = 39 then v else kr (j + 1))
/-- what acts leave alone, class -/
def Ca (m m2 : hM) : Prop := (∀ a b k, ¬ (12 ≤ a ∧ a ≤ 19 ∧ b ≠ 41) → ¬ (21 ≤ a ∧ a ≤ 23 ∧ b = 0) → (a < 24 ∨ 27 < a) → ¬ (a = 0 ∧ (k = 15 ∨ k = 16)) → m2.1 a b k = m.1 a b k) ∧ m2.2 12 41 17 = m.2 12 41 17 ∧ ∀ a b k, a ≠ 12 → m2.2 a b k = m.2 a b k
theorem Ca_r (m : hM) : Ca m m := ⟨fun _ _ _ _ _ _ _ => rfl, rfl, fun _ _ _ _ => rfl⟩
theorem Ca_t {a b c : hM} (h : Ca a b) (h2 : Ca b c) : Ca a c := ⟨fun x y z q1 q2 q3 q4 => (h2.1 x y z q1 q2 q3 q4).trans (h.1 x y z q1 q2 q3 q4), h2.2.1.trans h.2.1, fun x y z q => (h2.2.2 x y z q).trans (h.2.2 x y z q)⟩
theorem Ca_Ex {m m2 : hM} (h : Ex m m2) : Ca m m2 := ⟨fun a b k _ _ q _ => h.1 a b k q, by rw [h.2], fun a b k _ => by rw [h.2]⟩
theorem Ca_Sm {m : hM} {n : Nat} {w : Nat → Int32} {x : Int64} (hn : n ≠ 41) : Ca m (Sm m n w x) := ⟨fun a b k q1 _ _ _ => if_neg (by omega), if_neg (by omega), fun a b k q => if_neg (by omega)⟩
theorem Ca_L {m m2 : hM} (h : Ca m m2) : ∀ a c, (5 ≤ a ∧ a ≤ 7) ∨ (45 ≤ a ∧ a ≤ 47) → m2.1 a 0 c = m.1 a 0 c := fun a c q => h.1 a 0 c (by omega) (by omega) (by omega) (by omega)
theorem Ca_LL {m m2 : hM} {F B D P W : Nat} (h : Ca m m2) (q : LL m F B D P W) : LL m2 F B D P W := LL_w (Ca_L h) q
theorem Ca_Ls {m m2 : hM} (h : Ca m m2) : Lsm m2 m := fun a c q1 q2 => Ca_L h a c (Or.inl ⟨q1, q2⟩)
theorem ST_Ex {m m2 : hM} {B n nl sz t : Nat} {g : Int32} {v : Nat → Int32} (h : Ex m m2) (q : ST m B g n nl sz v t) : ST m2 B g n nl sz v t := ST_w (fun a c h1 h2 => h.1 a n c (by omega)) (by rw [h.2]) (fun a b c h1 h2 => h.1 a b c (by omega)) q
theorem KC_w {m m2 : hM} {B c : Nat} {g : Int32} {kr : Nat → Nat → Int32} {tt : Nat → Nat} (h0 : m2.1 0 0 16 = m.1 0 0 16) (h1 : m2.1 0 0 15 = m.1 0 0 15) (h2 : ∀ a b k, b < 40 → 12 ≤ a → a ≤ 19 → m2.1 a b k = m.1 a b k) (h3 : ∀ b, b < 40 → m2.2 12 b 17 = m.2 12 b 17) (h4 : ∀ a b k, 21 ≤ a → a ≤ 23 → m2.1 a b k = m.1 a b k) (q : KC m B g c kr tt) : KC m2 B g c kr tt := by
  obtain ⟨s, q1, q2, q3, q4, q5⟩ := q
  exact ⟨s, by rw [h0]; exact q1, by rw [h1]; exact q2, q3, q4, fun j hj => ST_w (fun a k x y => h2 a _ k (Nat.mod_lt _ (by decide)) x y) (h3 _ (Nat.mod_lt _ (by decide))) h4 (q5 j hj)⟩
theorem KC_Ex {m m2 : hM} {B c : Nat} {g : Int32} {kr : Nat → Nat → Int32} {tt : Nat → Nat} (h : Ex m m2) (q : KC m B g c kr tt) : KC m2 B g c kr tt := KC_w (h.1 _ _ _ (by decide)) (h.1 _ _ _ (by decide)) (fun a b k _ x y => h.1 a b k (by omega)) (fun b _ => by rw [h.2]) (fun a b k x y => h.1 a b k (by omega)) q
theorem KC_Sm {m : hM} {B c n : Nat} {g : Int32} {kr : Nat → Nat → Int32} {tt : Nat → Nat} {w : Nat → Int32} {x : Int64} (hn : 40 ≤ n) (q : KC m B g c kr tt) : KC (Sm m n w x) B g c kr tt := KC_w (if_neg (by omega)) (if_neg (by omega)) (fun a b k h1 _ _ => if_neg (by omega)) (fun b h1 => if_neg (by omega)) (fun a b k h1 h2 => if_neg (by omega)) q
theorem KT_0 {c e e2 T : Nat} {tt : Nat → Nat} (h : KT c tt T e) (he : e ≤ e2) : KT c tt T e2 := ⟨h.1, fun j hj => ⟨(h.2 j hj).1, by have := (h.2 j hj).2; omega⟩⟩
theorem KT_up {c e T n : Nat} {tt : Nat → Nat} (h : KT c tt T e) : KT c tt (T + n) (e + n) := ⟨h.1, fun j hj => by have := h.2 j hj; omega⟩
theorem KT_push {c T : Nat} {tt : Nat → Nat} (hc : c ≤ 40) (h : KT c tt T 60) : KT (pc c) (pk c tt T) T 0 := by
  unfold pc pk
  by_cases q : c < 40
  · rw [if_pos q]
    refine ⟨fun i j h1 h2 => ?_, fun j hj => ?_⟩
    · show (if c < 40 then (if i = c then T else tt i) else (if i = 39 then T else tt (i + 1))) ≤ (if c < 40 then (if j = c then T else tt j) else (if j = 39 then T else tt (j + 1))) ∧ (if c < 40 then (if j = c then T else tt j) else (if j = 39 then T else tt (j + 1))) ≤ (if c < 40 then (if i = c then T else tt i) else (if i = 39 then T else tt (i + 1))) + 60 * (j - i)
      rw [if_pos q, if_pos q]
      by_cases ci : i = c
      · rw [if_pos ci, if_pos (by omega)]; omega
      · rw [if_neg ci]
        by_cases cj : j = c
        · rw [if_pos cj]
          have := h.2 i (by omega)
          omega
        · rw [if_neg cj]
          exact h.1 i j h1 (by omega)
    · show (if c < 40 then (if j = c then T else tt j) else (if j = 39 then T else tt (j + 1))) ≤ T ∧ T ≤ (if c < 40 then (if j = c then T else tt j) else (if j = 39 then T else tt (j + 1))) + 60 * (c + 1 - 1 - j) + 0
      rw [if_pos q]
      by_cases cj : j = c
      · rw [if_pos cj]; omega
      · rw [if_neg cj]
        have := h.2 j (by omega)
        omega
  · rw [if_neg q]
    have e : c = 40 := by omega
    subst e
    refine ⟨fun i j h1 h2 => ?_, fun j hj => ?_⟩
    · show (if 40 < 40 then (if i = 40 then T else tt i) else (if i = 39 then T else tt (i + 1))) ≤ (if 40 < 40 then (if j = 40 then T else tt j) else (if j = 39 then T else tt (j + 1))) ∧ (if 40 < 40 then (if j = 40 then T else tt j) else (if j = 39 then T else tt (j + 1))) ≤ (if 40 < 40 then (if i = 40 then T else tt i) else (if i = 39 then T else tt (i + 1))) + 60 * (j - i)
      simp only [Nat.lt_irrefl, if_false]
      by_cases ci : i = 39
      · rw [if_pos ci, if_pos (by omega)]; omega
      · rw [if_neg ci]
        by_cases cj : j = 39
        · rw [if_pos cj]
          have := h.2 (i + 1) (by omega)
          omega
        · rw [if_neg cj]
          have := h.1 (i + 1) (j + 1) (by omega) (by omega)
          omega
    · show (if 40 < 40 then (if j = 40 then T else tt j) else (if j = 39 then T else tt (j + 1))) ≤ T ∧ T ≤ (if 40 < 40 then (if j = 40 then T else tt j) else (if j = 39 then T else tt (j + 1))) + 60 * (40 - 1 - j) + 0
      rw [if_neg (by decide)]
      by_cases cj : j = 39
      · rw [if_pos cj]; omega
      · rw [if_neg cj]
        have := h.2 (j + 1) (by omega)
        omega
/-- the reference keeps -/
theorem m_keepG {m : hM} {c : Nat} {kr : Nat → Nat → Int32} (hc : c ≤ 40) (h : KM m c kr) : ∃ m2, JX12_keep m = some (none, m2) ∧ Kp m m2 ∧ KM m2 (pc c) (pk c kr (m.1 50 0)) := by
  obtain ⟨m2, a1, a2, a3⟩ := m_keep hc h.1
  refine ⟨m2, a1, a2, ?_⟩
  unfold pc pk
  rcases a3 with ⟨c1, c2, c3, c4⟩ | ⟨c1, c2, c3, c4⟩
  · rw [if_pos c1]
    refine ⟨c2, fun j i hj hi => ?_⟩
    show _ = (if c < 40 then (if j = c then m.1 50 0 else kr j) else _) i
    rw [if_pos c1]
    by_cases e : j = c
    · rw [if_pos e, e]; exact c4 i hi
    · rw [if_neg e, c3 j i (by omega) hi]; exact h.2 j i (by omega) hi
  · subst c1
    rw [if_neg (by decide)]
    refine ⟨c2, fun j i hj hi => ?_⟩
    show _ = (if 40 < 40 then (if j = 40 then m.1 50 0 else kr j) else (if j = 39 then m.1 50 0 else kr (j + 1))) i
    rw [if_neg (by decide)]
    by_cases e : j = 39
    · rw [if_pos e, e]; exact c4 i hi
    · rw [if_neg e, c3 j i (by omega) hi]; exact h.2 (j + 1) i (by omega) hi
/-- the class remembers -/
theorem c_rem {m : hM} {B c t : Nat} {g : Int32} {kr : Nat → Nat → Int32} {tt : Nat → Nat} {v : Nat → Int32} (h : KC m B g c kr tt) (hs : ST m B g 40 0 2460 v t) : ∃ m1, JX11_remember m = some (none, m1) ∧ Rb m m1 ∧ KC m1 B g (pc c) (pk c kr v) (pk c tt t) ∧ (∀ a b k, a ≠ 12 → m1.2 a b k = m.2 a b k) := by
  obtain ⟨s, a1, a3, a4, a5, a7⟩ := h
  have hv := VW_q hs.1.1 hs.1.2.2.1
  have hp : (s + c) % 40 < 40 := Nat.mod_lt _ (by decide)
  obtain ⟨w, e1, e2, e3, _⟩ := c_copy (m := m) (n := (s + c) % 40) (n1 := 40) (by omega) (bw_01 hv.2.2.2.2.1) (bw_01 hv.2.2.2.1) (bw_01 hv.2.2.2.2.2.2.1)
  have hr := RS_g hs.1 e2 e3
  generalize hq : (s + c) % 40 = p at *
  generalize hm3 : Sm m p w (m.2 12 40 17) = m3 at *
  have o3 : ∀ a b k, (a < 12 ∨ 19 < a ∨ b ≠ p) → m3.1 a b k = m.1 a b k := fun a b k z => by
    rw [← hm3]
    exact if_neg (by omega)
  have x3 : ∀ a n k, (a ≠ 12 ∨ n ≠ p) → m3.2 a n k = m.2 a n k := fun a n k z => by
    rw [← hm3]
    exact if_neg (by omega)
  have new3 : ST m3 B g p 0 2460 v t := by
    refine ⟨?_, ⟨hs.2.1.1, fun j hj k hk => ?_⟩, hs.2.2⟩
    · have ev : Eq9 (vec m3 p) w := fun i hi => by
        have ei : ∀ i, i < 49 → ix (lc i).1 (lc i).2 = i := by decide +kernel
        have q := lc_k i
        unfold vec
        rw [← hm3, Sm_r q, ei i hi]
      have ex : m3.2 12 p 17 = m.2 12 40 17 := by rw [← hm3]; exact Sm_x
      have eg : vec m3 p 1088 = w 1088 := by
        unfold vec
        rw [← hm3]
        show (Sm m p w (m.2 12 40 17)).1 12 p 11 = w 1088
        rw [Sm_r (by decide)]
        rfl
      rw [ex]
      exact RS_g hr ev eg
    · rw [o3 _ _ _ (by omega)]
      exact hs.2.1.2 j hj k hk
  unfold JX11_remember
  rw [a1, o_past a3 (by omega), calI_s, hq, show (40 : Int32) = nI 40 from rfl]
  show ∃ m1, aal 39 (nI p) _ = _ ∧ _
  unfold aal
  rw [if_pos ⟨by decide, inb_nI (show p < sLen 39 0 from hp) (sLen_le _ _)⟩, nI_clamp (by omega)]
  show ∃ m1, calV (JX8_copy p 40 m) _ = _ ∧ _
  rw [e1, calV_s, o3 0 0 16 (by omega), a1]
  unfold pc pk
  by_cases q : c = 40
  · subst q
    rw [if_pos (nI_le (by decide) (by decide)), o_past1 (m := m3) (s := s) (by rw [o3 0 0 15 (by omega)]; exact a3) (by omega), calI_s, if_neg (by decide)]
    refine ⟨uI m3 0 0 15 (nI ((s + 1) % 40)), rfl, ⟨fun a b k h1 h2 => ?_, fun n hn => x3 _ n _ (by omega)⟩, ⟨(s + 1) % 40, ?_, uI_s, by decide, Nat.mod_lt _ (by decide), fun j hj => ?_⟩, fun a b k hk => x3 a b k (by omega)⟩
    · rw [uI_n (by omega), o3 a b k (by omega)]
    · rw [uI_n (by decide), o3 0 0 16 (by omega)]; exact a1
    · have ei : ((s + 1) % 40 + j) % 40 = (s + (j + 1)) % 40 := by omega
      rw [ei]
      show ST _ B g ((s + (j + 1)) % 40) 0 2460 (if 40 < 40 then (if j = 40 then v else kr j) else (if j = 39 then v else kr (j + 1))) (if 40 < 40 then (if j = 40 then t else tt j) else (if j = 39 then t else tt (j + 1)))
      simp only [Nat.lt_irrefl, if_false]
      by_cases e : j = 39
      · rw [if_pos e, if_pos e, e, show s + (39 + 1) = s + 40 from by omega, hq]
        exact ST_w (m := m3) (fun a k h1 h2 => by rw [uI_n (by omega)]) rfl (fun a b k h1 h2 => by rw [uI_n (by omega)]) new3
      · rw [if_neg e, if_neg e]
        have hne : (s + (j + 1)) % 40 ≠ p := by omega
        exact ST_w (fun a k h1 h2 => by rw [uI_n (by omega), o3 a _ k (Or.inr (Or.inr hne))]) (x3 _ _ _ (Or.inr hne)) (fun a b k h1 h2 => by rw [uI_n (by omega), o3 a b k (by omega)]) (a7 (j + 1) (by omega))
  · rw [if_neg (nI_ge (by omega) (by decide)), ← nI_succ, if_pos (by omega)]
    refine ⟨uI m3 0 0 16 (nI (c + 1)), rfl, ⟨fun a b k h1 h2 => ?_, fun n hn => x3 _ n _ (by omega)⟩, ⟨s, uI_s, ?_, by omega, a5, fun j hj => ?_⟩, fun a b k hk => x3 a b k (by omega)⟩
    · rw [uI_n (by omega), o3 a b k (by omega)]
    · rw [uI_n (by decide), o3 0 0 15 (by omega)]; exact a3
    · show ST _ B g ((s + j) % 40) 0 2460 (if c < 40 then (if j = c then v else kr j) else (if j = 39 then v else kr (j + 1))) (if c < 40 then (if j = c then t else tt j) else (if j = 39 then t else tt (j + 1)))
      have c4 : c < 40 := by omega
      rw [if_pos c4, if_pos c4]
      by_cases e : j = c
      · rw [if_pos e, if_pos e, e, hq]
        exact ST_w (m := m3) (fun a k h1 h2 => by rw [uI_n (by omega)]) rfl (fun a b k h1 h2 => by rw [uI_n (by omega)]) new3
      · rw [if_neg e, if_neg e]
        have hne : (s + j) % 40 ≠ p := by omega
        exact ST_w (fun a k h1 h2 => by rw [uI_n (by omega), o3 a _ k (Or.inr (Or.inr hne))]) (x3 _ _ _ (Or.inr hne)) (fun a b k h1 h2 => by rw [uI_n (by omega), o3 a b k (by omega)]) (a7 j (by omega))
theorem Ca_Rb {m m1 : hM} (h : Rb m m1) (h3 : ∀ a b k, a ≠ 12 → m1.2 a b k = m.2 a b k) : Ca m m1 := ⟨fun a b k q1 q2 q3 q4 => h.1 a b k (by omega) (by omega), h.2 41 (by decide), h3⟩
theorem ST_Rb {m m1 : hM} {B nl sz t : Nat} {g : Int32} {v : Nat → Int32} (h : Rb m m1) (q : ST m B g 40 nl sz v t) : ST m1 B g 40 nl sz v t := ST_w (fun a k h1 h2 => h.1 a 40 k (by omega) (by omega)) (h.2 40 (by decide)) (fun a b k h1 h2 => h.1 a b k (by omega) (by omega)) q
/-! a symbol that is logged -/
def Cs (q : Nat) (m m2 : hM) : Prop := (∀ a b c, ¬ (12 ≤ a ∧ a ≤ 19 ∧ b = 40) → ¬ (21 ≤ a ∧ a ≤ 23 ∧ b = 0 ∧ c = q) → m2.1 a b c = m.1 a b c) ∧ ∀ a b c, ¬ (a = 12 ∧ b = 40 ∧ c = 17) → m2.2 a b c = m.2 a b c
theorem vec_Sm {m : hM} {n : Nat} {w : Nat → Int32} {x : Int64} : Eq9 (vec (Sm m n w x) n) w ∧ vec (Sm m n w x) n 1088 = w 1088 := by
  refine ⟨fun i hi => ?_, ?_⟩
  · have ei : ∀ i, i < 49 → ix (lc i).1 (lc i).2 = i := by decide +kernel
    unfold vec
    rw [Sm_r (lc_k i), ei i hi]
  · unfold vec
    show (Sm m n w x).1 12 n 11 = w 1088
    rw [Sm_r (by decide)]
    rfl
theorem ntv60 {a mk : Int32} {u : Nat → Int32} (h : u 51 = 60) (i : Nat) : ntv a mk u i = if i = 229 then a else if i = 230 then u 44 else if i = 231 then mk else if 52 ≤ i ∧ i < 229 then u (i + 3) else u i := by
  unfold ntv
  rw [if_pos h]
theorem ntvL {a mk : Int32} {u : Nat → Int32} {L : Nat} (h : u 51 = nI L) (hL : L < 60) (i : Nat) : ntv a mk u i = if i = 52 + 3 * L then a else if i = 53 + 3 * L then u 44 else if i = 54 + 3 * L then mk else if i = 51 then u 51 + 1 else u i := by
  unfold ntv
  have hn : ¬ u 51 = 60 := fun e => by
    rw [h] at e
    have := (nI_eq (a := L) (b := 60) (by omega) (by decide)).mp e
    omega
  rw [if_neg hn, h, nI_clamp (by omega)]
theorem LG_step {m m2 : hM} {u : Nat → Int32} {t : Nat} {a mk : Int32} (g1 : u 51 = nI (min t 60)) (g2 : ∀ j, j < min t 60 → ∀ c, c < 3 → u (52 + 3 * j + c) = m.1 (21 + c) 0 ((t - min t 60 + j) % 2460)) (hold : ∀ c x, c < 3 → x % 2460 ≠ t % 2460 → m2.1 (21 + c) 0 (x % 2460) = m.1 (21 + c) 0 (x % 2460)) (h0 : m2.1 21 0 (t % 2460) = a) (h1 : m2.1 22 0 (t % 2460) = u 44) (h2 : m2.1 23 0 (t % 2460) = mk) : ∀ j, j < min (t + 1) 60 → ∀ c, c < 3 → ntv a mk u (52 + 3 * j + c) = m2.1 (21 + c) 0 ((t + 1 - min (t + 1) 60 + j) % 2460) := by
  intro j hj c hc
  by_cases c6 : 60 ≤ t
  · rw [ntv60 (by rw [g1]; exact c60.mpr c6)]
    by_cases cj : j = 59
    · subst cj
      rw [show t + 1 - min (t + 1) 60 + 59 = t from by omega]
      rcases (by omega : c = 0 ∨ c = 1 ∨ c = 2) with e | e | e <;> subst e
      · rw [if_pos (by decide)]; exact h0.symm
      · rw [if_neg (by decide), if_pos (by decide)]; exact h1.symm
      · rw [if_neg (by decide), if_neg (by decide), if_pos (by decide)]; exact h2.symm
    · rw [if_neg (by omega), if_neg (by omega), if_neg (by omega), if_pos (by omega), hold c _ hc (by omega), show 52 + 3 * j + c + 3 = 52 + 3 * (j + 1) + c from by omega, g2 (j + 1) (by omega) c hc, show t - min t 60 + (j + 1) = t + 1 - min (t + 1) 60 + j from by omega]
  · have em : min t 60 = t := by omega
    rw [em] at g1 g2
    rw [ntvL g1 (by omega)]
    by_cases cj : j = t
    · subst cj
      rw [show j + 1 - min (j + 1) 60 + j = j from by omega]
      rcases (by omega : c = 0 ∨ c = 1 ∨ c = 2) with e | e | e <;> subst e
      · rw [if_pos (by omega)]; exact h0.symm
      · rw [if_neg (by omega), if_pos (by omega)]; exact h1.symm
      · rw [if_neg (by omega), if_neg (by omega), if_pos (by omega)]; exact h2.symm
    · rw [if_neg (by omega), if_neg (by omega), if_neg (by omega), if_neg (by omega), hold c _ hc (by omega), g2 j (by omega) c hc, show t - t + j = t + 1 - min (t + 1) 60 + j from by omega]
theorem c_sym {m : hM} {F B D P W t : Nat} {g : Int32} {v : Nat → Int32} (h : ST m B g 40 0 2460 v t) (hl : LL m F B D P W) (ht : t < 9999) : ∃ m1 m2, JX8_pass 40 0 m = some (none, m1) ∧ JX5_keep 0 ((m1.1 12 40 6) - 1) 40 m1 = some (none, m2) ∧ JX10_latestIsWrong 40 m2 = some (some (.inl (wrM m F B D P W v)), m2) ∧ ST m2 B g 40 0 2460 (stN m F B D P W g v) (t + 1) ∧ Cs (t % 2460) m m2 := by
  have hF : F ≤ 3 := hl.1.2.2.2.2.2.2.1
  have hB : B ≤ 3 := hl.1.2.2.2.2.2.2.2.1
  obtain ⟨hR, ⟨g1, g2⟩, h3⟩ := h
  have e1 := c_step (n := 40) (m := m) hR hl.1
  rw [Sm_self] at e1
  have hR2 := RS_step (m := m) (m2 := m) hR (fun _ _ _ _ => rfl) hl.1 (by omega)
  have hlog := stC_log hR hl
  generalize stC m F B D P W (vec m 40, m.2 12 40 17) = s at e1 hR2 hlog
  have hp : t % 2460 < 2460 := Nat.mod_lt _ (by decide)
  have r12 : (Sm m 40 s.1 s.2).1 12 40 6 = nI (t + 1) := by
    rw [Sm_r (by decide), show ix 12 6 = 18 from rfl, hR2.1 18 (by decide)]
    exact hR2.2.2.1.2.2.2.2.2.2.2.2
  have z44 : s.1 44 = stM m F B D P W g v 44 := hR2.1 44 (by decide)
  generalize hq : t % 2460 = q at *
  refine ⟨_, uI (uI (uI (Sm m 40 s.1 s.2) 21 0 q (nS m P W v)) 22 0 q (stM m F B D P W g v 44)) 23 0 q (nK m F B D P W v), e1, ?_, ?_, ?_, ?_⟩
  · unfold JX5_keep
    rw [r12, nI_pred, e_place (sz := 2460) rfl (by decide) (by decide) (by omega), calI_s, hq, ast_n (t := 21) (n := 0) q rfl (by decide) (show q < 2460 from hp), ast_n (t := 22) (n := 0) q rfl (by decide) (show q < 2460 from hp), ast_n (t := 23) (n := 0) q rfl (by decide) (show q < 2460 from hp), uI_o (by decide), uI_o (by decide), uI_o (by decide), Sm_r (by decide), Sm_r (by decide), Sm_r (by decide), show ix 18 9 = 1078 from rfl, show ix 18 10 = 44 from rfl, show ix 18 13 = 1110 from rfl, hlog.1, hlog.2, z44]
  · unfold JX10_latestIsWrong
    rw [uI_o (by decide), uI_o (by decide), uI_o (by decide), Sm_r (by decide), show ix 18 13 = 1110 from rfl, hlog.2]
    have hb : wrM m F B D P W v = 0 ∨ wrM m F B D P W v = 1 := Rwr_b _ _
    have k4 : ((nK m F B D P W v &&& 4) = 0) ↔ wrM m F B D P W v = 0 := Rmk_4 _ _ _ _ _ _ (nbv_b hl.2.2) hb
    rcases hb with e | e
    · rw [if_pos (k4.mpr e), jretZ_0, e]
    · rw [if_neg (fun z => by rw [k4.mp z] at e; exact absurd e (by decide)), jretZ_1, e]
  · refine ⟨?_, ⟨stN_51 g1 hF hB, fun j hj c hc => ?_⟩, by omega⟩
    · have ev : vec (uI (uI (uI (Sm m 40 s.1 s.2) 21 0 q (nS m P W v)) 22 0 q (stM m F B D P W g v 44)) 23 0 q (nK m F B D P W v)) 40 = vec (Sm m 40 s.1 s.2) 40 := by
        funext i
        unfold vec
        have := lc_k i
        rw [uI_o (by omega), uI_o (by omega), uI_o (by omega)]
      have ex : (uI (uI (uI (Sm m 40 s.1 s.2) 21 0 q (nS m P W v)) 22 0 q (stM m F B D P W g v 44)) 23 0 q (nK m F B D P W v)).2 12 40 17 = s.2 := by
        show (Sm m 40 s.1 s.2).2 12 40 17 = s.2
        exact Sm_x
      rw [ev, ex]
      have r1 := RS_g hR2 (vec_Sm (m := m) (n := 40) (w := s.1) (x := s.2)).1 (vec_Sm (m := m) (n := 40) (w := s.1) (x := s.2)).2
      refine ⟨fun k hk => ?_, ?_, VW_stN hR.2.2.1 hF hB, r1.2.2.2.1, r1.2.2.2.2⟩
      · unfold stN
        rw [ntv_lo (by omega)]
        exact r1.1 k hk
      · unfold stN
        rw [ntv_lo (by decide), ntv_lo (by decide)]
        exact r1.2.1
    · refine LG_step (m := m) (u := stM m F B D P W g v) (t := t) (by rw [stM_g hF hB (Nat.le_refl _)]; exact g1) (fun j hj c hc => by rw [stM_g hF hB (by omega)]; exact g2 j hj c hc) (fun c x hc hx => ?_) ?_ ?_ ?_ j hj c hc
      · rw [hq] at hx
        rw [uI_n (Or.inr hx), uI_n (Or.inr hx), uI_n (Or.inr hx), Sm_o (by omega)]
      · rw [hq, uI_o (by decide), uI_o (by decide), uI_s]
      · rw [hq, uI_o (by decide), uI_s]
      · rw [hq, uI_s]
  · refine ⟨fun a b c h1 h2 => ?_, fun a b c h1 => if_neg (by omega)⟩
    have e : ∀ (m' : hM) (t' : Nat) (x : Int32), 21 ≤ t' → t' ≤ 23 → (uI m' t' 0 q x).1 a b c = m'.1 a b c := fun m' t' x h3 h4 => if_neg (by omega)
    rw [e _ 23 _ (by decide) (by decide), e _ 22 _ (by decide) (by decide), e _ 21 _ (by decide) (by decide)]
    exact if_neg (by omega)
/-- the past stays when a symbol is logged -/
theorem KC_Cs {m m2 : hM} {B c t e : Nat} {g : Int32} {kr : Nat → Nat → Int32} {tt : Nat → Nat} (h : Cs (t % 2460) m m2) (hT : KT c tt t e) (he : e < 60) (q : KC m B g c kr tt) : KC m2 B g c kr tt := by
  obtain ⟨s, q1, q2, q3, q4, q5⟩ := q
  refine ⟨s, by rw [h.1 0 0 16 (by omega) (by omega)]; exact q1, by rw [h.1 0 0 15 (by omega) (by omega)]; exact q2, q3, q4, fun j hj => ?_⟩
  obtain ⟨a1, ⟨a2, a3⟩, a4⟩ := q5 j hj
  have hT2 := hT.2 j hj
  have hlt : (s + j) % 40 < 40 := Nat.mod_lt _ (by decide)
  generalize (s + j) % 40 = p at *
  refine ⟨?_, ⟨a2, fun i hi k hk => ?_⟩, a4⟩
  · have ev : vec m2 p = vec m p := by
      funext i
      unfold vec
      exact h.1 _ _ _ (by omega) (by have := lc_k i; omega)
    rw [ev, h.2 12 p 17 (by omega)]
    exact a1
  · rw [h.1 _ _ _ (by omega) (by omega)]
    exact a3 i hi k hk
theorem Ca_Cs {m m2 : hM} {q : Nat} (h : Cs q m m2) : Ca m m2 := ⟨fun a b k h1 h2 h3 h4 => h.1 a b k (by omega) (by omega), h.2 _ _ _ (by omega), fun a b k h1 => h.2 _ _ _ (by omega)⟩
theorem c_sendL {m : hM} {F B D P W t c N : Nat} {g : Int32} {kr : Nat → Nat → Int32} {tt : Nat → Nat} {v : Nat → Int32} (hN : N ≤ 60) (ht : t + N ≤ 9999) (h : ST m B g 40 0 2460 v t) (hl : LL m F B D P W) (hk : KC m B g c kr tt) (hT : KT c tt t 0) : ∃ m2, JX11_sendLogged (nI N) m = some (some (.inl (wrN m F B D P W g v N)), m2) ∧ ST m2 B g 40 0 2460 (itN m F B D P W g v N) (t + N) ∧ KC m2 B g c kr tt ∧ KT c tt (t + N) 60 ∧ Ca m m2 := by
  obtain ⟨⟨l0, l1, l2, l3, l4, f1, f2, b2, d2, p2, w2⟩, hlm, hlw⟩ := id hl
  have key : ∀ i, i ≤ N → ∃ mi, (∀ K f, JX11_sendLogged_4 K (nI N) (f + i) 0 0 m = JX11_sendLogged_4 K (nI N) f (wrN m F B D P W g v i) (nI i) mi) ∧ ST mi B g 40 0 2460 (itN m F B D P W g v i) (t + i) ∧ KC mi B g c kr tt ∧ Ca m mi := by
    intro i
    induction i with
    | zero => intro _; exact ⟨m, fun _ _ => rfl, h, hk, Ca_r m⟩
    | succ i ih =>
      intro hi
      obtain ⟨mi, a1, a2, a3, a4⟩ := ih (by omega)
      obtain ⟨m1, m2, b1, b2, b3, b4, b5⟩ := c_sym a2 (Ca_LL a4 hl) (by omega)
      rw [wrM_m (Ca_Ls a4) f2 (by omega) d2] at b3
      rw [stN_m (Ca_Ls a4) f2 (by omega) d2] at b4
      refine ⟨m2, fun K f => ?_, b4, KC_Cs b5 (e := i) (by have := KT_up (n := i) hT; rw [Nat.zero_add] at this; exact this) (by omega) a3, Ca_t a4 (Ca_Cs b5)⟩
      rw [show f + (i + 1) = f + 1 + i from by omega, a1]
      show bJX11_sendLogged_4 _ _ _ _ (nI i) _ = JX11_sendLogged_4 K (nI N) f (wrN m F B D P W g v i + wrM m F B D P W (itN m F B D P W g v i)) (nI (i + 1)) m2
      unfold bJX11_sendLogged_4 JX11_sendLogged_59
      rw [if_neg (nI_ge (by omega) (by omega)), b1, calV_s, b2, calV_s, b3, calI_s, nI_succ i]
      have hb : wrM m F B D P W (itN m F B D P W g v i) = 0 ∨ wrM m F B D P W (itN m F B D P W g v i) = 1 := Rwr_b _ _
      rcases hb with e | e
      · rw [e, if_pos rfl, Int32.add_zero]
      · rw [e, if_neg (by decide)]
  obtain ⟨m2, a1, a2, a3, a4⟩ := key N (Nat.le_refl _)
  refine ⟨m2, ?_, a2, a3, KT_0 (e := 0 + N) (KT_up hT) (by omega), a4⟩
  unfold JX11_sendLogged
  rw [show FU = 100000 - N - 1 + 1 + N from by rw [FU_eq]; omega, a1]
  show bJX11_sendLogged_4 _ _ _ _ (nI N) _ = _
  unfold bJX11_sendLogged_4
  rw [if_pos (nI_le (by omega) (by omega))]
