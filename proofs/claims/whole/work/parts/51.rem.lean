/-! the class remembers -/
theorem ST_w {m m2 : hM} {B n nl sz t : Nat} {g : Int32} {v : Nat → Int32} (h1 : ∀ a c, 12 ≤ a → a ≤ 19 → m2.1 a n c = m.1 a n c) (h2 : m2.2 12 n 17 = m.2 12 n 17) (h3 : ∀ a b c, 21 ≤ a → a ≤ 23 → m2.1 a b c = m.1 a b c) (q : ST m B g n nl sz v t) : ST m2 B g n nl sz v t := by
  obtain ⟨q1, q2, q3⟩ := q
  have e : vec m2 n = vec m n := by
    funext i
    unfold vec
    have := lc_k i
    exact h1 _ _ this.1 this.2
  refine ⟨?_, ⟨q2.1, fun j hj c hc => ?_⟩, q3⟩
  · rw [e, h2]
    exact q1
  · rw [h3 (21 + c) _ _ (by omega) (by omega)]
    exact q2.2 j hj c hc
/-- memory alike but for a past State and the past's ends -/
def Rb (m m1 : hM) : Prop := (∀ a b c, (a ≠ 0 ∨ (c ≠ 15 ∧ c ≠ 16)) → (a < 12 ∨ 19 < a ∨ 40 ≤ b) → m1.1 a b c = m.1 a b c) ∧ ∀ n, 40 ≤ n → m1.2 12 n 17 = m.2 12 n 17
theorem c_remember {m : hM} {B t : Nat} {g : Int32} (h : PC m B g t) (hs : ST m B g 40 0 2460 (m.1 50 0) t) : ∃ m1, JX11_remember m = some (none, m1) ∧ Rb m m1 ∧ PCm m1 B g t := by
  obtain ⟨c, s, tt, a1, a2, a3, a4, a5, a6, a7, a8⟩ := h
  have hv := VW_q hs.1.1 hs.1.2.2.1
  have hp : (s + c) % 40 < 40 := Nat.mod_lt _ (by decide)
  obtain ⟨w, e1, e2, e3, _⟩ := c_copy (m := m) (n := (s + c) % 40) (n1 := 40) (by omega) (bw_01 hv.2.2.2.2.1) (bw_01 hv.2.2.2.1) (bw_01 hv.2.2.2.2.2.2.1)
  have hr := RS_g hs.1 e2 e3
  generalize hq : (s + c) % 40 = p at *
  generalize hm3 : Sm m p w (m.2 12 40 17) = m3 at *
  have o3 : ∀ a b k, (a < 12 ∨ 19 < a ∨ b ≠ p) → m3.1 a b k = m.1 a b k := fun a b k z => by
    rw [← hm3]
    exact if_neg (by omega)
  have x3 : ∀ n, n ≠ p → m3.2 12 n 17 = m.2 12 n 17 := fun n z => by
    rw [← hm3]
    exact if_neg (fun e => z e.2.1)
  have v3 : vec m3 p = w ∨ ∀ i, vec m3 p (i) = vec m3 p i := Or.inr (fun _ => rfl)
  have new3 : ST m3 B g p 0 2460 (m.1 50 0) t := by
    refine ⟨?_, ⟨hs.2.1.1, fun j hj k hk => ?_⟩, hs.2.2⟩
    · have ev : Eq9 (vec m3 p) w := fun i hi => by
        have ei : ∀ i, i < 49 → ix (lc i).1 (lc i).2 = i := by decide +kernel
        have q := lc_k i
        unfold vec
        rw [← hm3, Sm_r q, ei i hi]
      have ex : m3.2 12 p 17 = m.2 12 40 17 := by rw [← hm3]; exact Sm_x
      have eg : vec m3 p 1088 = w 1088 := by
        unfold vec
        rw [← hm3]
        show (Sm m p w (m.2 12 40 17)).1 12 p 11 = w 1088
        rw [Sm_r (by decide)]
        rfl
      rw [ex]
      exact RS_g hr ev eg
    · rw [o3 _ _ _ (by omega)]
      exact hs.2.1.2 j hj k hk
  unfold JX11_remember
  rw [a1, o_past a3 (by omega), calI_s, hq, show (40 : Int32) = nI 40 from rfl]
  show ∃ m1, aal 39 (nI p) _ = _ ∧ _
  unfold aal
  rw [if_pos ⟨by decide, inb_nI (show p < sLen 39 0 from hp) (sLen_le _ _)⟩, nI_clamp (by omega)]
  show ∃ m1, calV (JX8_copy p 40 m) _ = _ ∧ _
  rw [e1, calV_s, o3 0 0 16 (by omega), a1]
  by_cases q : c = 40
  · subst q
    rw [if_pos (nI_le (by decide) (by decide)), o_past1 (m := m3) (s := s) (by rw [o3 0 0 15 (by omega)]; exact a3) (by omega), calI_s]
    refine ⟨uI m3 0 0 15 (nI ((s + 1) % 40)), rfl, ⟨fun a b k h1 h2 => ?_, fun n hn => x3 n (by omega)⟩, 40, s, tt, ?_, by decide, a5, a6, fun j hj hj2 => ?_, a8, ?_, Or.inr ⟨rfl, ?_, uI_s⟩⟩
    · rw [uI_n (by omega), o3 a b k (by omega)]
    · rw [uI_n (by decide), o3 40 0 28 (by omega)]; exact a2
    · have ek : krow (uI m3 0 0 15 (nI ((s + 1) % 40))) j = krow m j := by
        funext i
        show (uI m3 0 0 15 (nI ((s + 1) % 40))).1 52 0 (232 * j + i) = m.1 52 0 (232 * j + i)
        rw [uI_n (Or.inl (by decide)), o3 52 0 _ (by omega)]
      rw [ek]
      have hne : (s + j) % 40 ≠ p := by have := hj2 rfl; omega
      exact ST_w (fun a k h1 h2 => by rw [uI_n (by omega), o3 a _ k (Or.inr (Or.inr hne))]) (x3 _ hne) (fun a b k h1 h2 => by rw [uI_n (by omega), o3 a b k (by omega)]) (a7 j hj)
    · have er : (uI m3 0 0 15 (nI ((s + 1) % 40))).1 50 0 = m.1 50 0 := by
        funext i
        rw [uI_n (Or.inl (by decide)), o3 50 0 _ (by omega)]
      rw [er, hq]
      exact ST_w (m := m3) (fun a k h1 h2 => by rw [uI_n (by omega)]) rfl (fun a b k h1 h2 => by rw [uI_n (by omega)]) new3
    · rw [uI_n (by decide), o3 0 0 16 (by omega)]; exact a1
  · rw [if_neg (nI_ge (by omega) (by decide)), ← nI_succ]
    refine ⟨uI m3 0 0 16 (nI (c + 1)), rfl, ⟨fun a b k h1 h2 => ?_, fun n hn => x3 n (by omega)⟩, c, s, tt, ?_, a4, a5, a6, fun j hj hj2 => ?_, a8, ?_, Or.inl ⟨by omega, uI_s, ?_⟩⟩
    · rw [uI_n (by omega), o3 a b k (by omega)]
    · rw [uI_n (by decide), o3 40 0 28 (by omega)]; exact a2
    · have ek : krow (uI m3 0 0 16 (nI (c + 1))) j = krow m j := by
        funext i
        show (uI m3 0 0 16 (nI (c + 1))).1 52 0 (232 * j + i) = m.1 52 0 (232 * j + i)
        rw [uI_n (Or.inl (by decide)), o3 52 0 _ (by omega)]
      rw [ek]
      have hne : (s + j) % 40 ≠ p := by omega
      exact ST_w (fun a k h1 h2 => by rw [uI_n (by omega), o3 a _ k (Or.inr (Or.inr hne))]) (x3 _ hne) (fun a b k h1 h2 => by rw [uI_n (by omega), o3 a b k (by omega)]) (a7 j hj)
    · have er : (uI m3 0 0 16 (nI (c + 1))).1 50 0 = m.1 50 0 := by
        funext i
        rw [uI_n (Or.inl (by decide)), o3 50 0 _ (by omega)]
      rw [er, hq]
      exact ST_w (m := m3) (fun a k h1 h2 => by rw [uI_n (by omega)]) rfl (fun a b k h1 h2 => by rw [uI_n (by omega)]) new3
    · rw [uI_n (by decide), o3 0 0 15 (by omega)]; exact a3
