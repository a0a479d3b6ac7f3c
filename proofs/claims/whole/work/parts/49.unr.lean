def uzf (row : Int32) (v : Nat → Int32) : Nat → Int32 → Int32 := fun i z => z - 64 * (if hbt row (nI i) = 1 then v (46 + i) else -(v (46 + i)))
theorem uz_m (row x : Int32) (i : Nat) : (64 * x) * (if hbt row (nI i) = 1 then 1 else -1) = 64 * (if hbt row (nI i) = 1 then x else -x) := by
  by_cases c : hbt row (nI i) = 1
  · rw [if_pos c, if_pos c, Int32.mul_one]
  · rw [if_neg c, if_neg c, Int32.mul_neg, Int32.mul_one, ← Int32.mul_neg]
theorem k_unrolled (a : Int32) : Ok1 (JX11_unrolled a) (JX12_unrolled a) := Ok1_p fun m hm => by
  unfold JX11_unrolled JX12_unrolled
  rw [← hm.1]
  by_cases c : m.1 0 0 12 = 0
  · rw [if_pos c, if_pos c]; exact Qr_r _
  · obtain ⟨F, B, D, P, W, t, h⟩ := Inv_cx hm c
    have hB : B ≤ 3 := h.1.1.2.2.2.2.2.2.2.1
    have e18 := st_at h.2.2.2.1 12 6 18 (by decide) rfl (by decide)
    have e45 := st_at h.2.2.2.1 18 11 45 (by decide) rfl (by decide)
    rw [if_neg c, if_neg c, e18, rd (i := 18) 18 rfl (by decide)]
    by_cases c2 : m.1 50 0 18 = 0
    · rw [if_pos c2, if_pos c2]; exact Qr_r _
    · rw [if_neg c2, if_neg c2]
      unfold JX4_backTaps
      rw [ald_n (i := 2) (t := 5) (n := 0) 2 rfl (by decide) (by decide), ald_n (i := 2) (t := 45) (n := 0) 2 rfl (by decide) (by decide), h.1.2.1.1 2 (by decide), h.1.1.2.2.1, calI_s, e_within, calI_s, e_in, calI_s]
      by_cases c3 : hwi a 0 (((1 : Int32) <<< (nI B &&& 31)) - 1) = 0
      · rw [if_pos c3, if_pos c3]; exact Qr_r _
      · rw [if_neg c3, if_neg c3, rd (i := 45) 45 rfl (by decide), ald_n (i := 2) (t := 5) (n := 0) 2 rfl (by decide) (by decide), h.1.1.2.2.1, calI_s]
        refine ⟨fr (uzf a (m.1 50 0)) (m.1 50 0 45) B, ?_, ?_⟩
        · unfold JX10_zWith
          rw [lt_s9, e45]
          have e : JX10_zWith_8 (fun v3 m6 => some (some (.inl v3), m6)) 40 a (nI B) FU (m.1 50 0 45) 0 m = some (some (.inl (fr (uzf a (m.1 50 0)) (m.1 50 0 45) B)), m) := by
            refine Eq.trans (lpF (fun f (z : Int32 × Int32) => JX10_zWith_8 (fun v3 m6 => some (some (.inl v3), m6)) 40 a (nI B) f z.1 z.2 m) (fun i => (fr (uzf a (m.1 50 0)) (m.1 50 0 45) i, nI i)) B (by omega) (by
              intro i f hi
              show bJX10_zWith_8 _ _ _ _ _ _ (nI i) _ = _
              unfold bJX10_zWith_8
              rw [if_neg (nI_ge (by omega) (by omega)), if_neg (n3 (by omega)), ald_n (t := 19) (n := 40) i rfl (by decide) (show i < 3 by omega), st_at h.2.2.2.1 19 i (46 + i) (by decide) (ix19 i (by omega)) (by omega), e_bitSign, calI_s, lt_s9, uz_m]
              show JX10_zWith_8 _ _ _ _ f _ (nI i + 1) _ = JX10_zWith_8 _ _ _ _ f _ _ _
              rw [← nI_succ]
              rfl)) ?_
            show bJX10_zWith_8 _ _ _ _ _ _ (nI B) _ = _
            unfold bJX10_zWith_8
            rw [if_pos (nI_le (by omega) (by omega))]
          rw [e, calI_s]
        · refine Eq.trans (lpF (fun f (z : Int32 × Int32) => JX12_unrolled_48 (fun v2 m12 => some (some (.inl v2), m12)) a f z.1 z.2 m) (fun i => (fr (uzf a (m.1 50 0)) (m.1 50 0 45) i, nI i)) B (by omega) (by
            intro i f hi
            show bJX12_unrolled_48 _ _ _ _ (nI i) _ = _
            unfold bJX12_unrolled_48 JX12_unrolled_91
            rw [ald_n (i := 2) (t := 45) (n := 0) 2 rfl (by decide) (by decide), h.1.2.1.1 2 (by decide), h.1.1.2.2.1, if_neg (nI_ge (by omega) (by omega)), e_has, calI_s, rd (46 + i) (by rw [show (46 : Int32) = nI 46 from rfl, nI_add]) (by omega), rd (46 + i) (by rw [show (46 : Int32) = nI 46 from rfl, nI_add]) (by omega), lt_s9, lt_s9]
            have e : ∀ u, JX12_unrolled_48 (fun v2 m12 => some (some (.inl v2), m12)) a f u (nI i + 1) m = JX12_unrolled_48 (fun v2 m12 => some (some (.inl v2), m12)) a f u (nI (i + 1)) m := fun u => by rw [← nI_succ]
            show _ = JX12_unrolled_48 _ _ f (fr (uzf a (m.1 50 0)) (m.1 50 0 45) i - 64 * (if hbt a (nI i) = 1 then m.1 50 0 (46 + i) else -(m.1 50 0 (46 + i)))) (nI (i + 1)) m
            by_cases c4 : hbt a (nI i) = 1
            · rw [if_pos c4, if_neg (by decide), if_pos c4]
              exact e _
            · rw [if_neg c4, if_pos (by decide), if_neg c4]
              exact e _)) ?_
          show bJX12_unrolled_48 _ _ _ _ (nI B) _ = _
          unfold bJX12_unrolled_48
          rw [ald_n (i := 2) (t := 45) (n := 0) 2 rfl (by decide) (by decide), h.1.2.1.1 2 (by decide), h.1.1.2.2.1, if_pos (nI_le (by omega) (by omega))]
