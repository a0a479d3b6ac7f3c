/-! reading and writing by place -/
theorem ia50 : iaOK 50 = true := rfl
theorem Nald {m : hM} {w : Nat → Int32} {i : Int32} {k : Int32 → hR} (j : Nat) (hi : i = nI j) (hj : j < 232) : ald (Nm m w) 50 0 i k = k (w j) := by
  rw [ald_n j hi ia50 hj, Nm_r]
theorem Nast {m : hM} {w : Nat → Int32} {i x : Int32} {k : hM → hR} (j : Nat) (hi : i = nI j) (hj : j < 232) : ast (Nm m w) 50 0 i x k = k (Nm m (upd w j x)) := by
  rw [ast_n j hi ia50 hj, Nm_u]
theorem Nrul {m : hM} {w : Nat → Int32} {i : Int32} {k : Int32 → hR} (j : Nat) (hi : i = nI j) (hj : j < 13) : ald (Nm m w) 45 0 i k = k (m.1 45 0 j) := by
  rw [ald_n (t := 45) (n := 0) j hi (by decide) hj, Nm_o (by decide)]
theorem Npul {m : hM} {w : Nat → Int32} {i : Int32} {k : Int32 → hR} (j : Nat) (hi : i = nI j) (hj : j < 16) : ald (Nm m w) 46 0 i k = k (m.1 46 0 j) := by
  rw [ald_n (t := 46) (n := 0) j hi (by decide) hj, Nm_o (by decide)]
theorem Nbit {m : hM} {w : Nat → Int32} {i : Int32} {k : Int32 → hR} (j : Nat) (hi : i = nI j) (hj : j < 16) : ald (Nm m w) 47 0 i k = k (m.1 47 0 j) := by
  rw [ald_n (t := 47) (n := 0) j hi (by decide) hj, Nm_o (by decide)]
theorem Srul {m : hM} {n ln : Nat} {w : Nat → Int32} {x : Int64} {i : Int32} {k : Int32 → hR} (j : Nat) (hi : i = nI j) (hj : j < 13) : ald (Sm m n w x) 5 ln i k = k (m.1 5 ln j) := by
  rw [ald_n (t := 5) (n := ln) j hi (by decide) hj, Sm_o (by decide)]
theorem Spul {m : hM} {n ln : Nat} {w : Nat → Int32} {x : Int64} {i : Int32} {k : Int32 → hR} (j : Nat) (hi : i = nI j) (hj : j < 16) : ald (Sm m n w x) 6 ln i k = k (m.1 6 ln j) := by
  rw [ald_n (t := 6) (n := ln) j hi (by decide) hj, Sm_o (by decide)]
theorem Swrd {m : hM} {n ln : Nat} {w : Nat → Int32} {x : Int64} {i : Int32} {k : Int32 → hR} (j : Nat) (hi : i = nI j) (hj : j < 16) : ald (Sm m n w x) 7 ln i k = k (m.1 7 ln j) := by
  rw [ald_n (t := 7) (n := ln) j hi (by decide) hj, Sm_o (by decide)]
theorem ix13 : ∀ j, j < 6 → ix 13 j = j := by decide +kernel
theorem ix14 : ∀ j, j < 6 → ix 14 j = 6 + j := by decide +kernel
theorem ix15 : ∀ j, j < 6 → ix 15 j = 31 + j := by decide +kernel
theorem ix16 : ∀ j, j < 3 → ix 16 j = 37 + j := by decide +kernel
theorem ix17 : ∀ j, j < 3 → ix 17 j = 40 + j := by decide +kernel
theorem ix19 : ∀ j, j < 3 → ix 19 j = 46 + j := by decide +kernel
section
variable {m : hM} {n : Nat} {w : Nat → Int32} {x : Int64} {i v : Int32} {k : Int32 → hR} {K : hM → hR}
theorem R13 (j : Nat) (hi : i = nI j) (hj : j < 6) : ald (Sm m n w x) 13 n i k = k (w j) := by rw [ald_n (t := 13) (n := n) j hi (by decide) hj, Sm_r (by decide), ix13 j hj]
theorem R14 (j : Nat) (hi : i = nI j) (hj : j < 6) : ald (Sm m n w x) 14 n i k = k (w (6 + j)) := by rw [ald_n (t := 14) (n := n) j hi (by decide) hj, Sm_r (by decide), ix14 j hj]
theorem R15 (j : Nat) (hi : i = nI j) (hj : j < 6) : ald (Sm m n w x) 15 n i k = k (w (31 + j)) := by rw [ald_n (t := 15) (n := n) j hi (by decide) hj, Sm_r (by decide), ix15 j hj]
theorem R16 (j : Nat) (hi : i = nI j) (hj : j < 3) : ald (Sm m n w x) 16 n i k = k (w (37 + j)) := by rw [ald_n (t := 16) (n := n) j hi (by decide) hj, Sm_r (by decide), ix16 j hj]
theorem R17 (j : Nat) (hi : i = nI j) (hj : j < 3) : ald (Sm m n w x) 17 n i k = k (w (40 + j)) := by rw [ald_n (t := 17) (n := n) j hi (by decide) hj, Sm_r (by decide), ix17 j hj]
theorem R19 (j : Nat) (hi : i = nI j) (hj : j < 3) : ald (Sm m n w x) 19 n i k = k (w (46 + j)) := by rw [ald_n (t := 19) (n := n) j hi (by decide) hj, Sm_r (by decide), ix19 j hj]
theorem W13 (j : Nat) (hi : i = nI j) (hj : j < 6) : ast (Sm m n w x) 13 n i v K = K (Sm m n (upd w j v) x) := by rw [ast_n (t := 13) (n := n) j hi (by decide) hj, Sm_u (by decide), ix13 j hj]
theorem W14 (j : Nat) (hi : i = nI j) (hj : j < 6) : ast (Sm m n w x) 14 n i v K = K (Sm m n (upd w (6 + j) v) x) := by rw [ast_n (t := 14) (n := n) j hi (by decide) hj, Sm_u (by decide), ix14 j hj]
theorem W19 (j : Nat) (hi : i = nI j) (hj : j < 3) : ast (Sm m n w x) 19 n i v K = K (Sm m n (upd w (46 + j) v) x) := by rw [ast_n (t := 19) (n := n) j hi (by decide) hj, Sm_u (by decide), ix19 j hj]
end
theorem NR0 {m : hM} {w : Nat → Int32} {k : Int32 → hR} : ald (Nm m w) 50 0 0 k = k (w 0) := Nald 0 rfl (by decide)
theorem NW0 {m : hM} {w : Nat → Int32} {x : Int32} {k : hM → hR} : ast (Nm m w) 50 0 0 x k = k (Nm m (upd w 0 x)) := Nast 0 rfl (by decide)
theorem NR1 {m : hM} {w : Nat → Int32} {k : Int32 → hR} : ald (Nm m w) 50 0 1 k = k (w 1) := Nald 1 rfl (by decide)
theorem NW1 {m : hM} {w : Nat → Int32} {x : Int32} {k : hM → hR} : ast (Nm m w) 50 0 1 x k = k (Nm m (upd w 1 x)) := Nast 1 rfl (by decide)
theorem NR2 {m : hM} {w : Nat → Int32} {k : Int32 → hR} : ald (Nm m w) 50 0 2 k = k (w 2) := Nald 2 rfl (by decide)
theorem NW2 {m : hM} {w : Nat → Int32} {x : Int32} {k : hM → hR} : ast (Nm m w) 50 0 2 x k = k (Nm m (upd w 2 x)) := Nast 2 rfl (by decide)
theorem NR3 {m : hM} {w : Nat → Int32} {k : Int32 → hR} : ald (Nm m w) 50 0 3 k = k (w 3) := Nald 3 rfl (by decide)
theorem NW3 {m : hM} {w : Nat → Int32} {x : Int32} {k : hM → hR} : ast (Nm m w) 50 0 3 x k = k (Nm m (upd w 3 x)) := Nast 3 rfl (by decide)
theorem NR4 {m : hM} {w : Nat → Int32} {k : Int32 → hR} : ald (Nm m w) 50 0 4 k = k (w 4) := Nald 4 rfl (by decide)
theorem NW4 {m : hM} {w : Nat → Int32} {x : Int32} {k : hM → hR} : ast (Nm m w) 50 0 4 x k = k (Nm m (upd w 4 x)) := Nast 4 rfl (by decide)
theorem NR5 {m : hM} {w : Nat → Int32} {k : Int32 → hR} : ald (Nm m w) 50 0 5 k = k (w 5) := Nald 5 rfl (by decide)
theorem NW5 {m : hM} {w : Nat → Int32} {x : Int32} {k : hM → hR} : ast (Nm m w) 50 0 5 x k = k (Nm m (upd w 5 x)) := Nast 5 rfl (by decide)
theorem NR6 {m : hM} {w : Nat → Int32} {k : Int32 → hR} : ald (Nm m w) 50 0 6 k = k (w 6) := Nald 6 rfl (by decide)
theorem NW6 {m : hM} {w : Nat → Int32} {x : Int32} {k : hM → hR} : ast (Nm m w) 50 0 6 x k = k (Nm m (upd w 6 x)) := Nast 6 rfl (by decide)
theorem NR7 {m : hM} {w : Nat → Int32} {k : Int32 → hR} : ald (Nm m w) 50 0 7 k = k (w 7) := Nald 7 rfl (by decide)
theorem NW7 {m : hM} {w : Nat → Int32} {x : Int32} {k : hM → hR} : ast (Nm m w) 50 0 7 x k = k (Nm m (upd w 7 x)) := Nast 7 rfl (by decide)
theorem NR8 {m : hM} {w : Nat → Int32} {k : Int32 → hR} : ald (Nm m w) 50 0 8 k = k (w 8) := Nald 8 rfl (by decide)
theorem NW8 {m : hM} {w : Nat → Int32} {x : Int32} {k : hM → hR} : ast (Nm m w) 50 0 8 x k = k (Nm m (upd w 8 x)) := Nast 8 rfl (by decide)
theorem NR9 {m : hM} {w : Nat → Int32} {k : Int32 → hR} : ald (Nm m w) 50 0 9 k = k (w 9) := Nald 9 rfl (by decide)
theorem NW9 {m : hM} {w : Nat → Int32} {x : Int32} {k : hM → hR} : ast (Nm m w) 50 0 9 x k = k (Nm m (upd w 9 x)) := Nast 9 rfl (by decide)
theorem NR10 {m : hM} {w : Nat → Int32} {k : Int32 → hR} : ald (Nm m w) 50 0 10 k = k (w 10) := Nald 10 rfl (by decide)
theorem NW10 {m : hM} {w : Nat → Int32} {x : Int32} {k : hM → hR} : ast (Nm m w) 50 0 10 x k = k (Nm m (upd w 10 x)) := Nast 10 rfl (by decide)
theorem NR11 {m : hM} {w : Nat → Int32} {k : Int32 → hR} : ald (Nm m w) 50 0 11 k = k (w 11) := Nald 11 rfl (by decide)
theorem NW11 {m : hM} {w : Nat → Int32} {x : Int32} {k : hM → hR} : ast (Nm m w) 50 0 11 x k = k (Nm m (upd w 11 x)) := Nast 11 rfl (by decide)
theorem NR12 {m : hM} {w : Nat → Int32} {k : Int32 → hR} : ald (Nm m w) 50 0 12 k = k (w 12) := Nald 12 rfl (by decide)
theorem NW12 {m : hM} {w : Nat → Int32} {x : Int32} {k : hM → hR} : ast (Nm m w) 50 0 12 x k = k (Nm m (upd w 12 x)) := Nast 12 rfl (by decide)
theorem NR13 {m : hM} {w : Nat → Int32} {k : Int32 → hR} : ald (Nm m w) 50 0 13 k = k (w 13) := Nald 13 rfl (by decide)
theorem NW13 {m : hM} {w : Nat → Int32} {x : Int32} {k : hM → hR} : ast (Nm m w) 50 0 13 x k = k (Nm m (upd w 13 x)) := Nast 13 rfl (by decide)
theorem NR14 {m : hM} {w : Nat → Int32} {k : Int32 → hR} : ald (Nm m w) 50 0 14 k = k (w 14) := Nald 14 rfl (by decide)
theorem NW14 {m : hM} {w : Nat → Int32} {x : Int32} {k : hM → hR} : ast (Nm m w) 50 0 14 x k = k (Nm m (upd w 14 x)) := Nast 14 rfl (by decide)
theorem NR15 {m : hM} {w : Nat → Int32} {k : Int32 → hR} : ald (Nm m w) 50 0 15 k = k (w 15) := Nald 15 rfl (by decide)
theorem NW15 {m : hM} {w : Nat → Int32} {x : Int32} {k : hM → hR} : ast (Nm m w) 50 0 15 x k = k (Nm m (upd w 15 x)) := Nast 15 rfl (by decide)
theorem NR16 {m : hM} {w : Nat → Int32} {k : Int32 → hR} : ald (Nm m w) 50 0 16 k = k (w 16) := Nald 16 rfl (by decide)
theorem NW16 {m : hM} {w : Nat → Int32} {x : Int32} {k : hM → hR} : ast (Nm m w) 50 0 16 x k = k (Nm m (upd w 16 x)) := Nast 16 rfl (by decide)
theorem NR17 {m : hM} {w : Nat → Int32} {k : Int32 → hR} : ald (Nm m w) 50 0 17 k = k (w 17) := Nald 17 rfl (by decide)
theorem NW17 {m : hM} {w : Nat → Int32} {x : Int32} {k : hM → hR} : ast (Nm m w) 50 0 17 x k = k (Nm m (upd w 17 x)) := Nast 17 rfl (by decide)
theorem NR18 {m : hM} {w : Nat → Int32} {k : Int32 → hR} : ald (Nm m w) 50 0 18 k = k (w 18) := Nald 18 rfl (by decide)
theorem NW18 {m : hM} {w : Nat → Int32} {x : Int32} {k : hM → hR} : ast (Nm m w) 50 0 18 x k = k (Nm m (upd w 18 x)) := Nast 18 rfl (by decide)
theorem NR19 {m : hM} {w : Nat → Int32} {k : Int32 → hR} : ald (Nm m w) 50 0 19 k = k (w 19) := Nald 19 rfl (by decide)
theorem NW19 {m : hM} {w : Nat → Int32} {x : Int32} {k : hM → hR} : ast (Nm m w) 50 0 19 x k = k (Nm m (upd w 19 x)) := Nast 19 rfl (by decide)
theorem NR20 {m : hM} {w : Nat → Int32} {k : Int32 → hR} : ald (Nm m w) 50 0 20 k = k (w 20) := Nald 20 rfl (by decide)
theorem NW20 {m : hM} {w : Nat → Int32} {x : Int32} {k : hM → hR} : ast (Nm m w) 50 0 20 x k = k (Nm m (upd w 20 x)) := Nast 20 rfl (by decide)
theorem NR21 {m : hM} {w : Nat → Int32} {k : Int32 → hR} : ald (Nm m w) 50 0 21 k = k (w 21) := Nald 21 rfl (by decide)
theorem NW21 {m : hM} {w : Nat → Int32} {x : Int32} {k : hM → hR} : ast (Nm m w) 50 0 21 x k = k (Nm m (upd w 21 x)) := Nast 21 rfl (by decide)
theorem NR22 {m : hM} {w : Nat → Int32} {k : Int32 → hR} : ald (Nm m w) 50 0 22 k = k (w 22) := Nald 22 rfl (by decide)
theorem NW22 {m : hM} {w : Nat → Int32} {x : Int32} {k : hM → hR} : ast (Nm m w) 50 0 22 x k = k (Nm m (upd w 22 x)) := Nast 22 rfl (by decide)
theorem NR23 {m : hM} {w : Nat → Int32} {k : Int32 → hR} : ald (Nm m w) 50 0 23 k = k (w 23) := Nald 23 rfl (by decide)
theorem NW23 {m : hM} {w : Nat → Int32} {x : Int32} {k : hM → hR} : ast (Nm m w) 50 0 23 x k = k (Nm m (upd w 23 x)) := Nast 23 rfl (by decide)
theorem NR24 {m : hM} {w : Nat → Int32} {k : Int32 → hR} : ald (Nm m w) 50 0 24 k = k (w 24) := Nald 24 rfl (by decide)
theorem NW24 {m : hM} {w : Nat → Int32} {x : Int32} {k : hM → hR} : ast (Nm m w) 50 0 24 x k = k (Nm m (upd w 24 x)) := Nast 24 rfl (by decide)
theorem NR25 {m : hM} {w : Nat → Int32} {k : Int32 → hR} : ald (Nm m w) 50 0 25 k = k (w 25) := Nald 25 rfl (by decide)
theorem NW25 {m : hM} {w : Nat → Int32} {x : Int32} {k : hM → hR} : ast (Nm m w) 50 0 25 x k = k (Nm m (upd w 25 x)) := Nast 25 rfl (by decide)
theorem NR26 {m : hM} {w : Nat → Int32} {k : Int32 → hR} : ald (Nm m w) 50 0 26 k = k (w 26) := Nald 26 rfl (by decide)
theorem NW26 {m : hM} {w : Nat → Int32} {x : Int32} {k : hM → hR} : ast (Nm m w) 50 0 26 x k = k (Nm m (upd w 26 x)) := Nast 26 rfl (by decide)
theorem NR27 {m : hM} {w : Nat → Int32} {k : Int32 → hR} : ald (Nm m w) 50 0 27 k = k (w 27) := Nald 27 rfl (by decide)
theorem NW27 {m : hM} {w : Nat → Int32} {x : Int32} {k : hM → hR} : ast (Nm m w) 50 0 27 x k = k (Nm m (upd w 27 x)) := Nast 27 rfl (by decide)
theorem NR28 {m : hM} {w : Nat → Int32} {k : Int32 → hR} : ald (Nm m w) 50 0 28 k = k (w 28) := Nald 28 rfl (by decide)
theorem NW28 {m : hM} {w : Nat → Int32} {x : Int32} {k : hM → hR} : ast (Nm m w) 50 0 28 x k = k (Nm m (upd w 28 x)) := Nast 28 rfl (by decide)
theorem NR29 {m : hM} {w : Nat → Int32} {k : Int32 → hR} : ald (Nm m w) 50 0 29 k = k (w 29) := Nald 29 rfl (by decide)
theorem NW29 {m : hM} {w : Nat → Int32} {x : Int32} {k : hM → hR} : ast (Nm m w) 50 0 29 x k = k (Nm m (upd w 29 x)) := Nast 29 rfl (by decide)
theorem NR30 {m : hM} {w : Nat → Int32} {k : Int32 → hR} : ald (Nm m w) 50 0 30 k = k (w 30) := Nald 30 rfl (by decide)
theorem NW30 {m : hM} {w : Nat → Int32} {x : Int32} {k : hM → hR} : ast (Nm m w) 50 0 30 x k = k (Nm m (upd w 30 x)) := Nast 30 rfl (by decide)
theorem NR31 {m : hM} {w : Nat → Int32} {k : Int32 → hR} : ald (Nm m w) 50 0 31 k = k (w 31) := Nald 31 rfl (by decide)
theorem NW31 {m : hM} {w : Nat → Int32} {x : Int32} {k : hM → hR} : ast (Nm m w) 50 0 31 x k = k (Nm m (upd w 31 x)) := Nast 31 rfl (by decide)
theorem NR32 {m : hM} {w : Nat → Int32} {k : Int32 → hR} : ald (Nm m w) 50 0 32 k = k (w 32) := Nald 32 rfl (by decide)
theorem NW32 {m : hM} {w : Nat → Int32} {x : Int32} {k : hM → hR} : ast (Nm m w) 50 0 32 x k = k (Nm m (upd w 32 x)) := Nast 32 rfl (by decide)
theorem NR33 {m : hM} {w : Nat → Int32} {k : Int32 → hR} : ald (Nm m w) 50 0 33 k = k (w 33) := Nald 33 rfl (by decide)
theorem NW33 {m : hM} {w : Nat → Int32} {x : Int32} {k : hM → hR} : ast (Nm m w) 50 0 33 x k = k (Nm m (upd w 33 x)) := Nast 33 rfl (by decide)
theorem NR34 {m : hM} {w : Nat → Int32} {k : Int32 → hR} : ald (Nm m w) 50 0 34 k = k (w 34) := Nald 34 rfl (by decide)
theorem NW34 {m : hM} {w : Nat → Int32} {x : Int32} {k : hM → hR} : ast (Nm m w) 50 0 34 x k = k (Nm m (upd w 34 x)) := Nast 34 rfl (by decide)
theorem NR35 {m : hM} {w : Nat → Int32} {k : Int32 → hR} : ald (Nm m w) 50 0 35 k = k (w 35) := Nald 35 rfl (by decide)
theorem NW35 {m : hM} {w : Nat → Int32} {x : Int32} {k : hM → hR} : ast (Nm m w) 50 0 35 x k = k (Nm m (upd w 35 x)) := Nast 35 rfl (by decide)
theorem NR36 {m : hM} {w : Nat → Int32} {k : Int32 → hR} : ald (Nm m w) 50 0 36 k = k (w 36) := Nald 36 rfl (by decide)
theorem NW36 {m : hM} {w : Nat → Int32} {x : Int32} {k : hM → hR} : ast (Nm m w) 50 0 36 x k = k (Nm m (upd w 36 x)) := Nast 36 rfl (by decide)
theorem NR37 {m : hM} {w : Nat → Int32} {k : Int32 → hR} : ald (Nm m w) 50 0 37 k = k (w 37) := Nald 37 rfl (by decide)
theorem NW37 {m : hM} {w : Nat → Int32} {x : Int32} {k : hM → hR} : ast (Nm m w) 50 0 37 x k = k (Nm m (upd w 37 x)) := Nast 37 rfl (by decide)
theorem NR38 {m : hM} {w : Nat → Int32} {k : Int32 → hR} : ald (Nm m w) 50 0 38 k = k (w 38) := Nald 38 rfl (by decide)
theorem NW38 {m : hM} {w : Nat → Int32} {x : Int32} {k : hM → hR} : ast (Nm m w) 50 0 38 x k = k (Nm m (upd w 38 x)) := Nast 38 rfl (by decide)
theorem NR39 {m : hM} {w : Nat → Int32} {k : Int32 → hR} : ald (Nm m w) 50 0 39 k = k (w 39) := Nald 39 rfl (by decide)
theorem NW39 {m : hM} {w : Nat → Int32} {x : Int32} {k : hM → hR} : ast (Nm m w) 50 0 39 x k = k (Nm m (upd w 39 x)) := Nast 39 rfl (by decide)
theorem NR40 {m : hM} {w : Nat → Int32} {k : Int32 → hR} : ald (Nm m w) 50 0 40 k = k (w 40) := Nald 40 rfl (by decide)
theorem NW40 {m : hM} {w : Nat → Int32} {x : Int32} {k : hM → hR} : ast (Nm m w) 50 0 40 x k = k (Nm m (upd w 40 x)) := Nast 40 rfl (by decide)
theorem NR41 {m : hM} {w : Nat → Int32} {k : Int32 → hR} : ald (Nm m w) 50 0 41 k = k (w 41) := Nald 41 rfl (by decide)
theorem NW41 {m : hM} {w : Nat → Int32} {x : Int32} {k : hM → hR} : ast (Nm m w) 50 0 41 x k = k (Nm m (upd w 41 x)) := Nast 41 rfl (by decide)
theorem NR42 {m : hM} {w : Nat → Int32} {k : Int32 → hR} : ald (Nm m w) 50 0 42 k = k (w 42) := Nald 42 rfl (by decide)
theorem NW42 {m : hM} {w : Nat → Int32} {x : Int32} {k : hM → hR} : ast (Nm m w) 50 0 42 x k = k (Nm m (upd w 42 x)) := Nast 42 rfl (by decide)
theorem NR43 {m : hM} {w : Nat → Int32} {k : Int32 → hR} : ald (Nm m w) 50 0 43 k = k (w 43) := Nald 43 rfl (by decide)
theorem NW43 {m : hM} {w : Nat → Int32} {x : Int32} {k : hM → hR} : ast (Nm m w) 50 0 43 x k = k (Nm m (upd w 43 x)) := Nast 43 rfl (by decide)
theorem NR44 {m : hM} {w : Nat → Int32} {k : Int32 → hR} : ald (Nm m w) 50 0 44 k = k (w 44) := Nald 44 rfl (by decide)
theorem NW44 {m : hM} {w : Nat → Int32} {x : Int32} {k : hM → hR} : ast (Nm m w) 50 0 44 x k = k (Nm m (upd w 44 x)) := Nast 44 rfl (by decide)
theorem NR45 {m : hM} {w : Nat → Int32} {k : Int32 → hR} : ald (Nm m w) 50 0 45 k = k (w 45) := Nald 45 rfl (by decide)
theorem NW45 {m : hM} {w : Nat → Int32} {x : Int32} {k : hM → hR} : ast (Nm m w) 50 0 45 x k = k (Nm m (upd w 45 x)) := Nast 45 rfl (by decide)
theorem NR46 {m : hM} {w : Nat → Int32} {k : Int32 → hR} : ald (Nm m w) 50 0 46 k = k (w 46) := Nald 46 rfl (by decide)
theorem NW46 {m : hM} {w : Nat → Int32} {x : Int32} {k : hM → hR} : ast (Nm m w) 50 0 46 x k = k (Nm m (upd w 46 x)) := Nast 46 rfl (by decide)
theorem NR47 {m : hM} {w : Nat → Int32} {k : Int32 → hR} : ald (Nm m w) 50 0 47 k = k (w 47) := Nald 47 rfl (by decide)
theorem NW47 {m : hM} {w : Nat → Int32} {x : Int32} {k : hM → hR} : ast (Nm m w) 50 0 47 x k = k (Nm m (upd w 47 x)) := Nast 47 rfl (by decide)
theorem NR48 {m : hM} {w : Nat → Int32} {k : Int32 → hR} : ald (Nm m w) 50 0 48 k = k (w 48) := Nald 48 rfl (by decide)
theorem NW48 {m : hM} {w : Nat → Int32} {x : Int32} {k : hM → hR} : ast (Nm m w) 50 0 48 x k = k (Nm m (upd w 48 x)) := Nast 48 rfl (by decide)
theorem NR49 {m : hM} {w : Nat → Int32} {k : Int32 → hR} : ald (Nm m w) 50 0 49 k = k (w 49) := Nald 49 rfl (by decide)
theorem NW49 {m : hM} {w : Nat → Int32} {x : Int32} {k : hM → hR} : ast (Nm m w) 50 0 49 x k = k (Nm m (upd w 49 x)) := Nast 49 rfl (by decide)
theorem NR50 {m : hM} {w : Nat → Int32} {k : Int32 → hR} : ald (Nm m w) 50 0 50 k = k (w 50) := Nald 50 rfl (by decide)
theorem NW50 {m : hM} {w : Nat → Int32} {x : Int32} {k : hM → hR} : ast (Nm m w) 50 0 50 x k = k (Nm m (upd w 50 x)) := Nast 50 rfl (by decide)
theorem NR51 {m : hM} {w : Nat → Int32} {k : Int32 → hR} : ald (Nm m w) 50 0 51 k = k (w 51) := Nald 51 rfl (by decide)
theorem NW51 {m : hM} {w : Nat → Int32} {x : Int32} {k : hM → hR} : ast (Nm m w) 50 0 51 x k = k (Nm m (upd w 51 x)) := Nast 51 rfl (by decide)
theorem NL0 {m : hM} {w : Nat → Int32} {k : Int32 → hR} : ald (Nm m w) 45 0 0 k = k (m.1 45 0 0) := Nrul 0 rfl (by decide)
theorem SL0 {m : hM} {n ln : Nat} {w : Nat → Int32} {x : Int64} {k : Int32 → hR} : ald (Sm m n w x) 5 ln 0 k = k (m.1 5 ln 0) := Srul 0 rfl (by decide)
theorem NL1 {m : hM} {w : Nat → Int32} {k : Int32 → hR} : ald (Nm m w) 45 0 1 k = k (m.1 45 0 1) := Nrul 1 rfl (by decide)
theorem SL1 {m : hM} {n ln : Nat} {w : Nat → Int32} {x : Int64} {k : Int32 → hR} : ald (Sm m n w x) 5 ln 1 k = k (m.1 5 ln 1) := Srul 1 rfl (by decide)
theorem NL2 {m : hM} {w : Nat → Int32} {k : Int32 → hR} : ald (Nm m w) 45 0 2 k = k (m.1 45 0 2) := Nrul 2 rfl (by decide)
theorem SL2 {m : hM} {n ln : Nat} {w : Nat → Int32} {x : Int64} {k : Int32 → hR} : ald (Sm m n w x) 5 ln 2 k = k (m.1 5 ln 2) := Srul 2 rfl (by decide)
theorem NL3 {m : hM} {w : Nat → Int32} {k : Int32 → hR} : ald (Nm m w) 45 0 3 k = k (m.1 45 0 3) := Nrul 3 rfl (by decide)
theorem SL3 {m : hM} {n ln : Nat} {w : Nat → Int32} {x : Int64} {k : Int32 → hR} : ald (Sm m n w x) 5 ln 3 k = k (m.1 5 ln 3) := Srul 3 rfl (by decide)
theorem NL4 {m : hM} {w : Nat → Int32} {k : Int32 → hR} : ald (Nm m w) 45 0 4 k = k (m.1 45 0 4) := Nrul 4 rfl (by decide)
theorem SL4 {m : hM} {n ln : Nat} {w : Nat → Int32} {x : Int64} {k : Int32 → hR} : ald (Sm m n w x) 5 ln 4 k = k (m.1 5 ln 4) := Srul 4 rfl (by decide)
theorem NL5 {m : hM} {w : Nat → Int32} {k : Int32 → hR} : ald (Nm m w) 45 0 5 k = k (m.1 45 0 5) := Nrul 5 rfl (by decide)
theorem SL5 {m : hM} {n ln : Nat} {w : Nat → Int32} {x : Int64} {k : Int32 → hR} : ald (Sm m n w x) 5 ln 5 k = k (m.1 5 ln 5) := Srul 5 rfl (by decide)
theorem NL6 {m : hM} {w : Nat → Int32} {k : Int32 → hR} : ald (Nm m w) 45 0 6 k = k (m.1 45 0 6) := Nrul 6 rfl (by decide)
theorem SL6 {m : hM} {n ln : Nat} {w : Nat → Int32} {x : Int64} {k : Int32 → hR} : ald (Sm m n w x) 5 ln 6 k = k (m.1 5 ln 6) := Srul 6 rfl (by decide)
theorem NL7 {m : hM} {w : Nat → Int32} {k : Int32 → hR} : ald (Nm m w) 45 0 7 k = k (m.1 45 0 7) := Nrul 7 rfl (by decide)
theorem SL7 {m : hM} {n ln : Nat} {w : Nat → Int32} {x : Int64} {k : Int32 → hR} : ald (Sm m n w x) 5 ln 7 k = k (m.1 5 ln 7) := Srul 7 rfl (by decide)
theorem NL8 {m : hM} {w : Nat → Int32} {k : Int32 → hR} : ald (Nm m w) 45 0 8 k = k (m.1 45 0 8) := Nrul 8 rfl (by decide)
theorem SL8 {m : hM} {n ln : Nat} {w : Nat → Int32} {x : Int64} {k : Int32 → hR} : ald (Sm m n w x) 5 ln 8 k = k (m.1 5 ln 8) := Srul 8 rfl (by decide)
theorem NL9 {m : hM} {w : Nat → Int32} {k : Int32 → hR} : ald (Nm m w) 45 0 9 k = k (m.1 45 0 9) := Nrul 9 rfl (by decide)
theorem SL9 {m : hM} {n ln : Nat} {w : Nat → Int32} {x : Int64} {k : Int32 → hR} : ald (Sm m n w x) 5 ln 9 k = k (m.1 5 ln 9) := Srul 9 rfl (by decide)
theorem NL10 {m : hM} {w : Nat → Int32} {k : Int32 → hR} : ald (Nm m w) 45 0 10 k = k (m.1 45 0 10) := Nrul 10 rfl (by decide)
theorem SL10 {m : hM} {n ln : Nat} {w : Nat → Int32} {x : Int64} {k : Int32 → hR} : ald (Sm m n w x) 5 ln 10 k = k (m.1 5 ln 10) := Srul 10 rfl (by decide)
theorem NL11 {m : hM} {w : Nat → Int32} {k : Int32 → hR} : ald (Nm m w) 45 0 11 k = k (m.1 45 0 11) := Nrul 11 rfl (by decide)
theorem SL11 {m : hM} {n ln : Nat} {w : Nat → Int32} {x : Int64} {k : Int32 → hR} : ald (Sm m n w x) 5 ln 11 k = k (m.1 5 ln 11) := Srul 11 rfl (by decide)
theorem NL12 {m : hM} {w : Nat → Int32} {k : Int32 → hR} : ald (Nm m w) 45 0 12 k = k (m.1 45 0 12) := Nrul 12 rfl (by decide)
theorem SL12 {m : hM} {n ln : Nat} {w : Nat → Int32} {x : Int64} {k : Int32 → hR} : ald (Sm m n w x) 5 ln 12 k = k (m.1 5 ln 12) := Srul 12 rfl (by decide)
theorem upd_a (w : Nat → Int32) (k : Nat) (x : Int32) (j : Nat) : upd w k x j = if j = k then x else w j := rfl
/-! a vote -/
def vtv (w : Nat → Int32) (vi : Nat) (b en : Int32) (ai : Nat) (lo hi : Int32) : Nat → Int32 :=
  if hsz (w vi + b) < en then upd w vi (w vi + b) else upd (upd (upd w vi (w vi + b)) ai (hhl (w ai + hsg (w vi + b)) lo hi)) vi 0
theorem m_vote {m : hM} {w : Nat → Int32} {vi ai : Nat} {a1 a4 b en lo hi : Int32} (e1 : a1 = nI vi) (e4 : a4 = nI ai) (h1 : vi < 232) (h2 : ai < 232) (hne : ai ≠ vi) : JX12_vote a1 b en a4 lo hi (Nm m w) = some (none, Nm m (vtv w vi b en ai lo hi)) := by
  subst e1; subst e4
  unfold JX12_vote
  rw [Nald vi rfl h1, Nast vi rfl h1, Nald vi rfl h1, e_size, calI_s, pk_us]
  unfold vtv
  by_cases c : hsz (w vi + b) < en
  · rw [if_pos c, if_pos c]
  · rw [if_neg c, if_neg c, Nald ai rfl h2, Nald vi rfl h1, pk_us, pk_un hne, e_sign, calI_s, e_held, calI_s, Nast ai rfl h2, Nast vi rfl h1]
theorem c_vote {m : hM} {n : Nat} {w : Nat → Int32} {x : Int64} {j : Nat} {a1 b : Int32} (e1 : a1 = nI j) (h1 : j < 6) : JX8_vote n a1 b (Sm m n w x) = some (none, Sm m n (vtv w (6 + j) b (w 1088) j (-255) 255) x) := by
  subst e1
  unfold JX8_vote
  rw [R14 j rfl h1, W14 j rfl h1, R14 j rfl h1, e_sizeOf, calI_s, pk_us, Sm_r (by decide)]
  rw [show ix 12 11 = 1088 from rfl, pk_un (by omega : 1088 ≠ 6 + j)]
  unfold vtv
  by_cases c : hsz (w (6 + j) + b) < w 1088
  · rw [if_pos c, if_pos c]
  · rw [if_neg c, if_neg c, R13 j rfl h1, R14 j rfl h1, pk_us, pk_un (by omega : j ≠ 6 + j), e_signOf, calI_s, e_moved, calI_s, W13 j rfl h1, W14 j rfl h1]
theorem c_voteLevel {m : hM} {n : Nat} {w : Nat → Int32} {x : Int64} {b : Int32} : JX8_voteLevel n b (Sm m n w x) = some (none, Sm m n (vtv w 13 b (w 1088) 12 1 99) x) := by
  unfold JX8_voteLevel vtv
  simp only [e_within, e_in, e_signOf, e_sign, e_sizeOf, e_size, e_moved, e_held, e_max, e_min, e_bitSign, e_has, e_turned, calI_s, calL_s, calV_s, lt_s9, stI_s, stL_s, stZ_0, stZ_1, jretZ_0, jretZ_1, Sm_r (show 12 ≤ 12 ∧ 12 ≤ 19 by decide), Sm_u (show 12 ≤ 12 ∧ 12 ≤ 19 by decide), show ix 12 10 = 13 from rfl, show ix 12 11 = 1088 from rfl, show ix 12 9 = 12 from rfl, upd_a, Nat.reduceEqDiff, if_true, if_false]
  split <;> rfl
theorem c_votePhase {m : hM} {n : Nat} {w : Nat → Int32} {x : Int64} {b lk : Int32} : JX8_votePhase n b lk (Sm m n w x) = some (none, Sm m n (vtv w 15 b lk 14 0 3) x) := by
  unfold JX8_votePhase vtv
  simp only [e_within, e_in, e_signOf, e_sign, e_sizeOf, e_size, e_moved, e_held, e_max, e_min, e_bitSign, e_has, e_turned, calI_s, calL_s, calV_s, lt_s9, stI_s, stL_s, stZ_0, stZ_1, jretZ_0, jretZ_1, Sm_r (show 12 ≤ 12 ∧ 12 ≤ 19 by decide), Sm_u (show 12 ≤ 12 ∧ 12 ≤ 19 by decide), show ix 12 8 = 15 from rfl, show ix 12 7 = 14 from rfl, upd_a, Nat.reduceEqDiff, if_true, if_false]
  split <;> rfl
/-! quiet, dark -/
def hrv (w : Nat → Int32) (q : Int32) : Nat → Int32 :=
  if q = 0 then (if hmn (w 24 + 1) 4 = 4 then upd (upd (upd w 23 0) 24 (hmn (w 24 + 1) 4)) 17 0 else upd (upd w 23 0) 24 (hmn (w 24 + 1) 4))
  else (if hmn (w 23 + 1) 4 = 4 then upd (upd (upd w 23 (hmn (w 23 + 1) 4)) 24 0) 17 1 else upd (upd w 23 (hmn (w 23 + 1) 4)) 24 0)
theorem hmn4 (a : Int32) : hmn 4 a = hmn a 4 := by
  unfold hmn
  simp only [Int32.lt_iff_toInt_lt]
  by_cases h1 : a.toInt < (4 : Int32).toInt
  · rw [if_pos h1, if_neg (by omega)]
  · rw [if_neg h1]
    by_cases h2 : (4 : Int32).toInt < a.toInt
    · rw [if_pos h2]
    · rw [if_neg h2]
      exact Int32.toInt_inj.mp (by omega)
theorem i04 : ¬ (0 : Int32) = 4 := by decide
theorem m_hush {m : hM} {w : Nat → Int32} {q : Int32} : JX12_hush q (Nm m w) = some (none, Nm m (hrv w q)) := by
  unfold JX12_hush JX12_hush_27 JX12_hush_55 JX12_hush_78 hrv
  by_cases h : q = 0
  · simp only [h, if_true, NR0, NR1, NR2, NR3, NR4, NR5, NR6, NR7, NR8, NR9, NR10, NR11, NR12, NR13, NR14, NR15, NR16, NR17, NR18, NR19, NR20, NR21, NR22, NR23, NR24, NR25, NR26, NR27, NR28, NR29, NR30, NR31, NR32, NR33, NR34, NR35, NR36, NR37, NR38, NR39, NR40, NR41, NR42, NR43, NR44, NR45, NR46, NR47, NR48, NR49, NR50, NR51, NW0, NW1, NW2, NW3, NW4, NW5, NW6, NW7, NW8, NW9, NW10, NW11, NW12, NW13, NW14, NW15, NW16, NW17, NW18, NW19, NW20, NW21, NW22, NW23, NW24, NW25, NW26, NW27, NW28, NW29, NW30, NW31, NW32, NW33, NW34, NW35, NW36, NW37, NW38, NW39, NW40, NW41, NW42, NW43, NW44, NW45, NW46, NW47, NW48, NW49, NW50, NW51, NL0, NL1, NL2, NL3, NL4, NL5, NL6, NL7, NL8, NL9, NL10, NL11, NL12, e_min, calI_s, upd_a, hmn4, Nat.reduceEqDiff, if_false, i04]
    split <;> rfl
  · simp only [h, if_false, NR0, NR1, NR2, NR3, NR4, NR5, NR6, NR7, NR8, NR9, NR10, NR11, NR12, NR13, NR14, NR15, NR16, NR17, NR18, NR19, NR20, NR21, NR22, NR23, NR24, NR25, NR26, NR27, NR28, NR29, NR30, NR31, NR32, NR33, NR34, NR35, NR36, NR37, NR38, NR39, NR40, NR41, NR42, NR43, NR44, NR45, NR46, NR47, NR48, NR49, NR50, NR51, NW0, NW1, NW2, NW3, NW4, NW5, NW6, NW7, NW8, NW9, NW10, NW11, NW12, NW13, NW14, NW15, NW16, NW17, NW18, NW19, NW20, NW21, NW22, NW23, NW24, NW25, NW26, NW27, NW28, NW29, NW30, NW31, NW32, NW33, NW34, NW35, NW36, NW37, NW38, NW39, NW40, NW41, NW42, NW43, NW44, NW45, NW46, NW47, NW48, NW49, NW50, NW51, NL0, NL1, NL2, NL3, NL4, NL5, NL6, NL7, NL8, NL9, NL10, NL11, NL12, e_min, calI_s, upd_a, hmn4, Nat.reduceEqDiff, if_true, i04]
    by_cases c : hmn (w 23 + 1) 4 = 4
    · simp only [c, if_true]
    · simp only [c, if_false]
theorem c_hear {m : hM} {n : Nat} {w : Nat → Int32} {x : Int64} {q : Int32} : JX10_hear n q (Sm m n w x) = some (none, Sm m n (hrv w q) x) := by
  unfold JX10_hear JX10_hear_19 JX10_hear_41 JX10_hear_57 hrv
  by_cases h : q = 0
  · simp only [h, if_true, e_within, e_in, e_signOf, e_sign, e_sizeOf, e_size, e_moved, e_held, e_max, e_min, e_bitSign, e_has, e_turned, calI_s, calL_s, calV_s, lt_s9, stI_s, stL_s, stZ_0, stZ_1, jretZ_0, jretZ_1, Sm_r (show 12 ≤ 18 ∧ 18 ≤ 19 by decide), Sm_u (show 12 ≤ 18 ∧ 18 ≤ 19 by decide), show ix 18 0 = 23 from rfl, show ix 18 1 = 24 from rfl, show ix 18 2 = 17 from rfl, upd_a, Nat.reduceEqDiff, if_true, if_false, i04]
    split <;> rfl
  · simp only [h, if_false, e_within, e_in, e_signOf, e_sign, e_sizeOf, e_size, e_moved, e_held, e_max, e_min, e_bitSign, e_has, e_turned, calI_s, calL_s, calV_s, lt_s9, stI_s, stL_s, stZ_0, stZ_1, jretZ_0, jretZ_1, Sm_r (show 12 ≤ 18 ∧ 18 ≤ 19 by decide), Sm_u (show 12 ≤ 18 ∧ 18 ≤ 19 by decide), show ix 18 0 = 23 from rfl, show ix 18 1 = 24 from rfl, show ix 18 2 = 17 from rfl, upd_a, Nat.reduceEqDiff, if_true, if_false, i04]
    split <;> rfl
