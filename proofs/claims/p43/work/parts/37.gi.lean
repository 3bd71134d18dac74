section GIa
noncomputable def lk (l : List (Int × Int)) (i : Int) : Int × Int := (mx_nth l i.toNat).getD (-9223372036854775808, 9223372036854775807)
set_option maxRecDepth 100000 in
noncomputable def sh0 (k : Nat) : xS := (bif Nat.blt k 41 then (bif Nat.blt k 20 then (bif Nat.blt k 10 then (bif Nat.blt k 5 then (bif Nat.blt k 2 then (bif Nat.blt k 1 then .inr (.int, 0, 0) else .inl (11, [2, 0, 0, 0, 2, 2, 2, 2, 2, 2, 2, 2, 2, 2, 2, 2, 2])) else (bif Nat.blt k 3 then .inr (.byte, 900, 0) else (bif Nat.blt k 4 then .inl (7, [2, 0, 0, 0, 0, 0, 2, 0, 2, 2, 0, 2, 0, 0, 0, 0]) else .inr (.byte, 0, 0)))) else (bif Nat.blt k 7 then (bif Nat.blt k 6 then .inr (.int, 900, 0) else .inr (.int, 19, 0)) else (bif Nat.blt k 8 then .inl (0, [2, 2, 2, 2, 0, 0]) else (bif Nat.blt k 9 then .inr (.int, 361, 0) else .inr (.byte, 6930, 0))))) else (bif Nat.blt k 15 then (bif Nat.blt k 12 then (bif Nat.blt k 11 then .inr (.byte, 385, 0) else .inr (.int, 19, 0)) else (bif Nat.blt k 13 then .inl (4, [2, 2, 0, 2, 2, 2, 2, 2, 2]) else (bif Nat.blt k 14 then .inl (3, [2, 2, 0]) else .inr (.int, 7315, 0)))) else (bif Nat.blt k 17 then (bif Nat.blt k 16 then .inr (.int, 3850, 0) else .inr (.int, 6498, 0)) else (bif Nat.blt k 18 then .inr (.int, 5, 0) else (bif Nat.blt k 19 then .inr (.int, 64, 0) else .inr (.int, 19, 0)))))) else (bif Nat.blt k 30 then (bif Nat.blt k 25 then (bif Nat.blt k 22 then (bif Nat.blt k 21 then .inl (2, [2, 2, 2, 2, 2, 2, 0, 0, 0, 0, 0, 0]) else .inr (.int, 385, 0)) else (bif Nat.blt k 23 then .inr (.int, 385, 0) else (bif Nat.blt k 24 then .inr (.int, 385, 0) else .inr (.int, 385, 0)))) else (bif Nat.blt k 27 then (bif Nat.blt k 26 then .inl (8, [2, 2, 2, 2, 2, 2, 2, 2, 0]) else .inr (.int, 385, 0)) else (bif Nat.blt k 28 then .inr (.int, 385, 0) else (bif Nat.blt k 29 then .inr (.int, 385, 0) else .inr (.int, 385, 0))))) else (bif Nat.blt k 35 then (bif Nat.blt k 32 then (bif Nat.blt k 31 then .inr (.int, 385, 0) else .inr (.int, 385, 0)) else (bif Nat.blt k 33 then .inl (9, [2, 2, 2]) else (bif Nat.blt k 34 then .inr (.long, 3850, 1) else .inr ((.object "TitheHeap$Tray"), 4, 2)))) else (bif Nat.blt k 38 then (bif Nat.blt k 36 then .inr ((.object "TitheHeap$Moment"), 2, 2) else (bif Nat.blt k 37 then .inl (5, [2, 0, 0, 0, 0, 0]) else .inl (3, [2, 2, 0]))) else (bif Nat.blt k 39 then .inl (5, [2, 0, 0, 0, 0, 0]) else (bif Nat.blt k 40 then .inl (3, [2, 2, 0]) else .inl (6, [2, 0]))))))) else (bif Nat.blt k 62 then (bif Nat.blt k 51 then (bif Nat.blt k 46 then (bif Nat.blt k 43 then (bif Nat.blt k 42 then .inr (.int, 30, 0) else .inr (.int, 19, 0)) else (bif Nat.blt k 44 then .inr (.int, 190, 0) else (bif Nat.blt k 45 then .inl (10, [2, 0, 0, 0]) else .inr (.long, 40, 1)))) else (bif Nat.blt k 48 then (bif Nat.blt k 47 then .inl (10, [2, 0, 0, 0]) else .inr (.long, 40, 1)) else (bif Nat.blt k 49 then .inl (10, [2, 0, 0, 0]) else (bif Nat.blt k 50 then .inr (.long, 40, 1) else .inl (10, [2, 0, 0, 0]))))) else (bif Nat.blt k 56 then (bif Nat.blt k 53 then (bif Nat.blt k 52 then .inr (.long, 40, 1) else .inl (5, [2, 0, 0, 0, 0, 0])) else (bif Nat.blt k 54 then .inl (3, [2, 2, 0]) else (bif Nat.blt k 55 then .inl (5, [2, 0, 0, 0, 0, 0]) else .inl (3, [2, 2, 0])))) else (bif Nat.blt k 59 then (bif Nat.blt k 57 then .inl (12, [0, 2, 2, 2, 2, 0, 0, 0, 0, 0, 0, 0, 0, 0, 0, 2, 2, 2, 0, 2, 2, 2, 0, 0, 2, 2, 2, 2, 2, 2, 0, 0, 2, 2, 2, 2, 2, 2, 2, 2, 2, 2]) else (bif Nat.blt k 58 then .inr (.int, 2886, 0) else .inr (.boolean, 2, 0))) else (bif Nat.blt k 60 then .inr (.int, 900, 0) else (bif Nat.blt k 61 then .inr (.int, 962, 0) else .inr (.int, 6930, 0)))))) else (bif Nat.blt k 72 then (bif Nat.blt k 67 then (bif Nat.blt k 64 then (bif Nat.blt k 63 then .inr (.int, 20, 0) else .inr (.int, 18, 0)) else (bif Nat.blt k 65 then .inr (.int, 900, 0) else (bif Nat.blt k 66 then .inr (.int, 5, 0) else .inr (.int, 3, 0)))) else (bif Nat.blt k 69 then (bif Nat.blt k 68 then .inr (.int, 385, 0) else .inr (.int, 385, 0)) else (bif Nat.blt k 70 then .inr (.int, 386, 0) else (bif Nat.blt k 71 then .inr (.boolean, 385, 0) else .inr (.boolean, 385, 0))))) else (bif Nat.blt k 77 then (bif Nat.blt k 74 then (bif Nat.blt k 73 then .inr (.boolean, 385, 0) else .inr (.int, 7315, 0)) else (bif Nat.blt k 75 then .inr (.int, 385, 0) else (bif Nat.blt k 76 then .inr (.int, 385, 0) else .inr (.long, 385, 1)))) else (bif Nat.blt k 80 then (bif Nat.blt k 78 then .inr (.long, 385, 1) else (bif Nat.blt k 79 then .inr (.long, 3465, 1) else .inr (.int, 19, 0))) else (bif Nat.blt k 81 then .inr (.int, 4, 0) else (bif Nat.blt k 82 then .inr (.int, 4, 0) else .inr (.long, 160, 1))))))))
set_option maxRecDepth 100000 in
noncomputable def bd (k : Nat) (i : Int) : Int × Int := (bif Nat.blt k 42 then (bif Nat.blt k 21 then (bif Nat.blt k 10 then (bif Nat.blt k 5 then (bif Nat.blt k 2 then (bif Nat.blt k 1 then ((-2147483648), 2147483647) else (lk [(2, 2), (0, 900), (0, 4), ((-1), 900), (3, 3), (7, 7), (12, 12), (20, 20), (25, 25), (32, 32), (34, 34), (35, 35), (36, 36), (38, 38), (40, 40), (42, 42), (43, 43)] i)) else (bif Nat.blt k 3 then ((-128), 127) else (bif Nat.blt k 4 then (lk [(2, 4), (0, 900), (0, 900), (0, 900), (0, 400), (0, 999), (5, 5), (0, 900), (0, 4096), (0, 4096), (0, 901), (6, 6), (0, 18), (0, 9), (0, 4), ((-1), 900)] i) else ((-128), 127)))) else (bif Nat.blt k 7 then (bif Nat.blt k 6 then (0, 1019) else (0, 20)) else (bif Nat.blt k 8 then (lk [(8, 8), (9, 9), (10, 10), (11, 11), (0, 18), (0, 385)] i) else (bif Nat.blt k 9 then (0, 385) else (0, 18))))) else (bif Nat.blt k 15 then (bif Nat.blt k 12 then (bif Nat.blt k 11 then (0, 18) else (0, 18)) else (bif Nat.blt k 13 then (lk [(7, 7), (0, 4096), ((-2147483648), 2147483647), (14, 14), (15, 15), (16, 16), (17, 17), (18, 18), (19, 19)] i) else (bif Nat.blt k 14 then (lk [(0, 0), (0, 0), ((-2147483648), 2147483647)] i) else ((-2147483648), 2147483647)))) else (bif Nat.blt k 18 then (bif Nat.blt k 16 then ((-2147483648), 2147483647) else (bif Nat.blt k 17 then ((-2147483648), 2147483647) else ((-2147483648), 2147483647))) else (bif Nat.blt k 19 then ((-2147483648), 2147483647) else (bif Nat.blt k 20 then ((-2147483648), 2147483647) else (lk [(7, 7), (12, 12), (21, 21), (22, 22), (23, 23), (24, 24), (0, 2147483647), (1, 2147483647), ((-2147483648), 2147483647), ((-2147483648), 2147483647), ((-2147483648), 2147483647), ((-2147483648), 2147483647)] i)))))) else (bif Nat.blt k 31 then (bif Nat.blt k 26 then (bif Nat.blt k 23 then (bif Nat.blt k 22 then (0, 384) else ((-2147483648), 2147483647)) else (bif Nat.blt k 24 then ((-2147483648), 2147483647) else (bif Nat.blt k 25 then ((-2147483648), 2147483647) else (lk [(7, 7), (12, 12), (26, 26), (27, 27), (28, 28), (29, 29), (30, 30), (31, 31), (0, 385)] i)))) else (bif Nat.blt k 28 then (bif Nat.blt k 27 then (0, 384) else (0, 384)) else (bif Nat.blt k 29 then (0, 18) else (bif Nat.blt k 30 then ((-2147483648), 2147483647) else ((-2147483648), 2147483647))))) else (bif Nat.blt k 36 then (bif Nat.blt k 33 then (bif Nat.blt k 32 then ((-2147483648), 2147483647) else (lk [(7, 7), (12, 12), (33, 33)] i)) else (bif Nat.blt k 34 then ((-9223372036854775808), 9223372036854775807) else (bif Nat.blt k 35 then (44, 50) else (52, 54)))) else (bif Nat.blt k 39 then (bif Nat.blt k 37 then (lk [(0, 4096), (1, 18), (0, 384), (0, 9), ((-2147483648), 2147483647), (0, 1)] i) else (bif Nat.blt k 38 then (lk [(0, 0), (0, 0), ((-2147483648), 2147483647)] i) else (lk [(0, 4096), (1, 18), (0, 384), (0, 9), ((-2147483648), 2147483647), (0, 1)] i))) else (bif Nat.blt k 40 then (lk [(0, 0), (0, 0), ((-2147483648), 2147483647)] i) else (bif Nat.blt k 41 then (lk [(41, 41), (0, 10)] i) else ((-2147483648), 2147483647))))))) else (bif Nat.blt k 63 then (bif Nat.blt k 52 then (bif Nat.blt k 47 then (bif Nat.blt k 44 then (bif Nat.blt k 43 then ((-2147483648), 2147483647) else (0, 18)) else (bif Nat.blt k 45 then (lk [(45, 45), (0, 3), (0, 40), (0, 1)] i) else (bif Nat.blt k 46 then ((-9223372036854775808), 9223372036854775807) else (lk [(47, 47), (0, 3), (0, 40), (0, 1)] i)))) else (bif Nat.blt k 49 then (bif Nat.blt k 48 then ((-9223372036854775808), 9223372036854775807) else (lk [(49, 49), (0, 3), (0, 40), (0, 1)] i)) else (bif Nat.blt k 50 then ((-9223372036854775808), 9223372036854775807) else (bif Nat.blt k 51 then (lk [(51, 51), (0, 3), (0, 40), (0, 1)] i) else ((-9223372036854775808), 9223372036854775807))))) else (bif Nat.blt k 57 then (bif Nat.blt k 54 then (bif Nat.blt k 53 then (lk [(0, 4096), (1, 18), (0, 384), (0, 9), ((-2147483648), 2147483647), (0, 1)] i) else (lk [(0, 0), (0, 0), ((-2147483648), 2147483647)] i)) else (bif Nat.blt k 55 then (lk [(0, 4096), (1, 18), (0, 384), (0, 9), ((-2147483648), 2147483647), (0, 1)] i) else (bif Nat.blt k 56 then (lk [(0, 0), (0, 0), ((-2147483648), 2147483647)] i) else (lk [((-2147483648), 2147483647), (57, 57), (58, 58), (59, 59), (60, 60), (0, 900), (0, 900), (0, 900), (0, 900), (0, 100), (0, 999), (0, 4), (0, 900), (0, 4), ((-1), 900), (61, 61), (62, 62), (63, 63), (0, 385), (64, 64), (65, 65), (66, 66), (0, 2), ((-2147483648), 2147483647), (67, 67), (68, 68), (69, 69), (70, 70), (71, 71), (72, 72), (0, 386), (0, 385), (73, 73), (74, 74), (75, 75), (76, 76), (77, 77), (78, 78), (79, 79), (80, 80), (81, 81), (82, 82)] i)))) else (bif Nat.blt k 60 then (bif Nat.blt k 58 then ((-2147483648), 2147483647) else (bif Nat.blt k 59 then (0, 1) else (0, 255))) else (bif Nat.blt k 61 then ((-2147483648), 2147483647) else (bif Nat.blt k 62 then (0, 18) else ((-2147483648), 2147483647)))))) else (bif Nat.blt k 73 then (bif Nat.blt k 68 then (bif Nat.blt k 65 then (bif Nat.blt k 64 then (0, 18) else ((-2147483648), 2147483647)) else (bif Nat.blt k 66 then ((-2147483648), 2147483647) else (bif Nat.blt k 67 then ((-2147483648), 2147483647) else (0, 384)))) else (bif Nat.blt k 70 then (bif Nat.blt k 69 then ((-1), 385) else (0, 384)) else (bif Nat.blt k 71 then (0, 1) else (bif Nat.blt k 72 then (0, 1) else (0, 1))))) else (bif Nat.blt k 78 then (bif Nat.blt k 75 then (bif Nat.blt k 74 then ((-1), 384) else (0, 268435456)) else (bif Nat.blt k 76 then (0, 268435456) else (bif Nat.blt k 77 then ((-9223372036854775808), 9223372036854775807) else ((-9223372036854775808), 9223372036854775807)))) else (bif Nat.blt k 81 then (bif Nat.blt k 79 then ((-9223372036854775808), 9223372036854775807) else (bif Nat.blt k 80 then ((-2147483648), 2147483647) else ((-1), 3))) else (bif Nat.blt k 82 then (0, 40) else (bif Nat.blt k 83 then ((-9223372036854775808), 9223372036854775807) else (-9223372036854775808, 9223372036854775807))))))))
noncomputable def wy (i : Int) : Int := (mx_nth [1, 1, 1, 1, 1, 1, 1, 1, 1, 1, 1, 1, 1, 1, 1, 1, 1, 1, 1, 0, 1, 1, 1, 1, 1, 1, 1, 1, 1, 1, 1, 1, 1, 1, 1, 1, 1, 1, 0, 1, 2, 2, 2, 2, 2, 2, 2, 2, 2, 2, 2, 2, 2, 2, 2, 2, 2, 0, 1, 2, 3, 3, 3, 3, 3, 3, 3, 3, 3, 3, 3, 3, 3, 3, 3, 3, 0, 1, 3, 4, 5, 5, 5, 5, 5, 5, 5, 5, 5, 5, 5, 5, 5, 5, 5, 0, 1, 3, 5, 6, 7, 7, 7, 7, 7, 7, 7, 7, 7, 7, 7, 7, 7, 7, 0, 1, 4, 7, 9, 10, 11, 11, 11, 11, 11, 11, 11, 11, 11, 11, 11, 11, 11, 0, 1, 4, 8, 11, 13, 14, 15, 15, 15, 15, 15, 15, 15, 15, 15, 15, 15, 15, 0, 1, 5, 10, 15, 18, 20, 21, 22, 22, 22, 22, 22, 22, 22, 22, 22, 22, 22, 0, 1, 5, 12, 18, 23, 26, 28, 29, 30, 30, 30, 30, 30, 30, 30, 30, 30, 30, 0, 1, 6, 14, 23, 30, 35, 38, 40, 41, 42, 42, 42, 42, 42, 42, 42, 42, 42, 0, 1, 6, 16, 27, 37, 44, 49, 52, 54, 55, 56, 56, 56, 56, 56, 56, 56, 56, 0, 1, 7, 19, 34, 47, 58, 65, 70, 73, 75, 76, 77, 77, 77, 77, 77, 77, 77, 0, 1, 7, 21, 39, 57, 71, 82, 89, 94, 97, 99, 100, 101, 101, 101, 101, 101, 101, 0, 1, 8, 24, 47, 70, 90, 105, 116, 123, 128, 131, 133, 134, 135, 135, 135, 135, 135, 0, 1, 8, 27, 54, 84, 110, 131, 146, 157, 164, 169, 172, 174, 175, 176, 176, 176, 176, 0, 1, 9, 30, 64, 101, 136, 164, 186, 201, 212, 219, 224, 227, 229, 230, 231, 231, 231, 0, 1, 9, 33, 72, 119, 163, 201, 230, 252, 267, 278, 285, 290, 293, 295, 296, 297, 297, 0, 1, 10, 37, 84, 141, 199, 248, 288, 318, 340, 355, 366, 373, 378, 381, 383, 384, 385] i.toNat).getD 0
set_option maxRecDepth 100000 in
theorem W1n : ∀ n, n < 19 → ∀ m, m < 19 → (1 ≤ m → 1 ≤ wy (((n : Nat) : Int) * 19 + ((m : Nat) : Int)) ∧ wy (((n : Nat) : Int) * 19 + ((m : Nat) : Int)) ≤ 385) := by decide +kernel
set_option maxRecDepth 100000 in
theorem W2n : ∀ n, n < 18 → ∀ m, m < 19 → (1 ≤ m → wy (((n : Nat) : Int) * 19 + ((m : Nat) : Int)) ≤ wy (((n + 1 : Nat) : Int) * 19 + ((m : Nat) : Int))) := by decide +kernel
set_option maxRecDepth 100000 in
theorem W3n : ∀ n, n < 19 → ∀ m, m < 18 → wy (((n : Nat) : Int) * 19 + ((m : Nat) : Int)) ≤ wy (((n : Nat) : Int) * 19 + ((m + 1 : Nat) : Int)) := by decide +kernel
theorem W1 {n m : Int} (hn : 0 ≤ n ∧ n ≤ 18) (hm : 1 ≤ m ∧ m ≤ 18) : 1 ≤ wy (n * 19 + m) ∧ wy (n * 19 + m) ≤ 385 := by
  have := W1n n.toNat (by omega) m.toNat (by omega) (by omega)
  rw [Int.toNat_of_nonneg hn.1, Int.toNat_of_nonneg (by omega)] at this
  exact this
theorem W1z {n : Int} (hn : n ≤ 18) : n ≤ 0 ∨ wy (n * 19 + 18) ≤ 385 := by
  by_cases h : n ≤ 0
  · exact Or.inl h
  · exact Or.inr (W1 ⟨by omega, hn⟩ ⟨by omega, by omega⟩).2
theorem W2k {m : Nat} (hm : 1 ≤ m ∧ m < 19) : ∀ (j k : Nat), k + j < 19 → wy (((k : Nat) : Int) * 19 + ((m : Nat) : Int)) ≤ wy (((k + j : Nat) : Int) * 19 + ((m : Nat) : Int))
  | 0, k, _ => Int.le_refl _
  | j + 1, k, h => Int.le_trans (W2k hm j k (by omega)) (W2n (k + j) (by omega) m hm.2 hm.1)
theorem W2 {n n2 m : Int} (hn : n2 ≤ n ∧ n ≤ 18) (hm : 1 ≤ m ∧ m ≤ 18) : n2 < 0 ∨ wy (n2 * 19 + m) ≤ wy (n * 19 + m) := by
  by_cases h0 : n2 < 0
  · exact Or.inl h0
  · have := W2k (m := m.toNat) ⟨by omega, by omega⟩ (n.toNat - n2.toNat) n2.toNat (by omega)
    rw [show n2.toNat + (n.toNat - n2.toNat) = n.toNat by omega, Int.toNat_of_nonneg (by omega), Int.toNat_of_nonneg (by omega), Int.toNat_of_nonneg (by omega)] at this
    exact Or.inr this
theorem W3k {n : Nat} (hn : n < 19) : ∀ (j k : Nat), k + j < 19 → wy (((n : Nat) : Int) * 19 + ((k : Nat) : Int)) ≤ wy (((n : Nat) : Int) * 19 + ((k + j : Nat) : Int))
  | 0, k, _ => Int.le_refl _
  | j + 1, k, h => Int.le_trans (W3k hn j k (by omega)) (W3n n hn (k + j) (by omega))
theorem W3 {n m m2 : Int} (hn : 0 ≤ n ∧ n ≤ 18) (hm : 0 ≤ m2 ∧ m2 ≤ m ∧ m ≤ 18) : wy (n * 19 + m2) ≤ wy (n * 19 + m) := by
  have := W3k (n := n.toNat) (by omega) (m.toNat - m2.toNat) m2.toNat (by omega)
  rw [show m2.toNat + (m.toNat - m2.toNat) = m.toNat by omega, Int.toNat_of_nonneg (by omega), Int.toNat_of_nonneg (by omega), Int.toNat_of_nonneg (by omega)] at this
  exact this
def f57 (r z : Int) : Prop := (r = 1 → 0 ≤ z ∧ z ≤ 18) ∧ (r = 2 → 0 ≤ z ∧ z ≤ 18) ∧ (3 ≤ r → r ≤ 20 → 0 ≤ z ∧ z ≤ 18) ∧ (21 ≤ r → r ≤ 22 → 0 ≤ z ∧ z ≤ 1) ∧ (23 ≤ r → r ≤ 26 → 0 ≤ z ∧ z ≤ 900) ∧ (r = 27 → 0 ≤ z ∧ z ≤ 384) ∧ (r = 28 → 0 ≤ z ∧ z ≤ 9) ∧ (r = 30 → 0 ≤ z ∧ z ≤ 10) ∧ (31 ≤ r → r ≤ 60 → (r - 31) % 3 = 0 → 0 ≤ z ∧ z ≤ 384) ∧ (31 ≤ r → r ≤ 60 → (r - 31) % 3 = 1 → 0 ≤ z ∧ z ≤ 9) ∧ (r = 61 → 0 ≤ z ∧ z ≤ 900)
def f60 (r z : Int) : Prop := (r = 1 → 0 ≤ z ∧ z ≤ 18) ∧ (r = 2 → 0 ≤ z ∧ z ≤ 18) ∧ (3 ≤ r → r ≤ 20 → 0 ≤ z ∧ z ≤ 18) ∧ (21 ≤ r → r ≤ 22 → 0 ≤ z ∧ z ≤ 1) ∧ (23 ≤ r → r ≤ 26 → 0 ≤ z ∧ z ≤ 900) ∧ (r = 27 → 0 ≤ z ∧ z ≤ 384) ∧ (r = 30 → 0 ≤ z ∧ z ≤ 10) ∧ (31 ≤ r → r ≤ 60 → (r - 31) % 3 = 0 → 0 ≤ z ∧ z ≤ 384) ∧ (31 ≤ r → r ≤ 60 → (r - 31) % 3 = 1 → 0 ≤ z ∧ z ≤ 9) ∧ (r = 61 → 0 ≤ z ∧ z ≤ 900)
noncomputable def ex (k : Nat) (i z : Int) : Prop := (bif Nat.blt k 34 then (bif Nat.blt k 14 then (bif Nat.blt k 6 then (bif Nat.blt k 5 then True else ((z ≤ 1004 ∨ 1010 ≤ z))) else (bif Nat.blt k 8 then True else (bif Nat.blt k 9 then (((0 : Int) ≤ i → (i : Int) ≤ 360 → z = wy i)) else True))) else (bif Nat.blt k 16 then (bif Nat.blt k 15 then (z % 1024 ≤ 385) else (bif Nat.blt k 15 then True else (z % 1024 ≤ 385))) else (bif Nat.blt k 16 then True else (bif Nat.blt k 17 then (((0 : Int) ≤ i → z % 32 ≤ i / 342)) else True)))) else (bif Nat.blt k 57 then (bif Nat.blt k 36 then (bif Nat.blt k 35 then (((0 : Int) ≤ i → (i : Int) ≤ 3 → z = 44 + 2 * i)) else (bif Nat.blt k 35 then True else (((0 : Int) ≤ i → (i : Int) ≤ 1 → z = 52 + 2 * i)))) else (bif Nat.blt k 41 then True else (bif Nat.blt k 42 then ((((i : Int) % 3 = 0 → 0 ≤ z ∧ z ≤ 384) ∧ ((i : Int) % 3 = 1 → 0 ≤ z ∧ z ≤ 9))) else True))) else (bif Nat.blt k 61 then (bif Nat.blt k 58 then (f57 ((i) % 962) (z)) else (bif Nat.blt k 60 then True else (f60 ((i) % 962) (z)))) else (bif Nat.blt k 66 then True else (bif Nat.blt k 67 then ((((i : Int) = 0 → 0 ≤ z ∧ z ≤ 384) ∧ ((i : Int) = 1 → 0 ≤ z ∧ z ≤ 9))) else True)))))
noncomputable def ps (Z : xZ) (t p : Int) : Int := Nat.rec (motive := fun _ => Int) 0 (fun q r => r + Z 9 (t * 18 + (q : Int))) p.toNat
theorem ps_0 {Z : xZ} {t : Int} : ps Z t 0 = 0 := rfl
theorem ps_s {Z : xZ} {t p : Int} (hp : 0 ≤ p) : ps Z t (p + 1) = ps Z t p + Z 9 (t * 18 + p) := by
  unfold ps
  rw [show (p + 1).toNat = p.toNat + 1 by omega]
  show _ + Z 9 (t * 18 + (p.toNat : Int)) = _
  rw [Int.toNat_of_nonneg hp]
theorem ps_c {Z Z2 : xZ} {t p : Int} (h : ∀ i, Z2 9 i = Z 9 i) : ps Z2 t p = ps Z t p := by
  unfold ps
  induction p.toNat with
  | zero => rfl
  | succ q ih => show _ + Z2 9 _ = _ + Z 9 _; rw [ih, h]
def SM (Z : xZ) : Prop := ∀ t p : Int, 0 ≤ t → t < Z 7 5 → 0 ≤ p → p ≤ Z 10 t → (ps Z t p ≤ 18 ∧ (p < Z 10 t → 1 ≤ Z 9 (t * 18 + p)))
abbrev okC (c : Nat) : Prop := c = 0 ∨ 83 ≤ c
abbrev okL (r : Nat) : Prop := r = 13 ∨ r = 37 ∨ r = 39 ∨ r = 53 ∨ r = 55 ∨ 83 ≤ r
def rC (n : Nat) (S : Nat → xS) (z : Int) : Prop := ∃ c len : Nat, z = (c : Int) ∧ okC c ∧ c < n ∧ len ≤ 900 ∧ S c = .inr (.int, len, 0)
def rL (n : Nat) (S : Nat → xS) (z : Int) : Prop := ∃ r : Nat, z = (r : Int) ∧ okL r ∧ r < n ∧ S r = .inl (3, [2, 2, 0])
def DY (n : Nat) (S : Nat → xS) (Z : xZ) : Prop := (∀ c len : Nat, okC c → c < n → S c = .inr (.int, len, 0) → ∀ i : Int, 0 ≤ i → i < (len : Int) → (0 ≤ Z c i ∧ Z c i ≤ 1019 ∧ (Z c i ≤ 1004 ∨ 1010 ≤ Z c i))) ∧ (∀ r : Nat, okL r → r < n → S r = .inl (3, [2, 2, 0]) → rC n S (Z r 0) ∧ rC n S (Z r 1) ∧ (-2147483648 ≤ Z r 2 ∧ Z r 2 ≤ 2147483647)) ∧ (rL n S (Z 36 0) ∧ rL n S (Z 38 0) ∧ rL n S (Z 52 0) ∧ rL n S (Z 54 0) ∧ rL n S (Z 12 1)) ∧ rC n S (Z 3 8) ∧ rC n S (Z 3 9)
def GB (n : Nat) (S : Nat → xS) (Z : xZ) : Prop := 83 ≤ n ∧ (∀ k, Nat.blt k 83 = true → S k = sh0 k) ∧ (∀ k i, (bd k i).1 ≤ Z k i ∧ Z k i ≤ (bd k i).2) ∧ (∀ k i, ex k i (Z k i)) ∧ DY n S Z
/-- the model's codes: what a code adds to the row, what it needs there; how many there are behind j codes from a on; codes that never want -/
def dl (c : Int) : Int := if c < 3000 then 1 else if c = 3006 then 0 else if c = 3009 then -2 else -1
def nd (c : Int) : Int := if c < 3000 then 0 else if c = 3006 then 1 else if c = 3009 then 3 else 2
def okc (c : Int) : Prop := (0 ≤ c ∧ c ≤ 1004) ∨ (3000 ≤ c ∧ c ≤ 3009)
def dpf (f : Int → Int) (a : Int) (j : Nat) : Int := Nat.rec (motive := fun _ => Int) 0 (fun i r => r + dl (f (a + (i : Int)))) j
def wsf (f : Int → Int) (a : Int) (n : Nat) : Prop := ∀ j : Nat, j < n → (okc (f (a + (j : Int))) ∧ nd (f (a + (j : Int))) ≤ dpf f a j)
theorem dpf_c {f g : Int → Int} {a : Int} : ∀ {n : Nat}, (∀ j : Nat, j < n → g (a + (j : Int)) = f (a + (j : Int))) → dpf g a n = dpf f a n
  | 0, _ => rfl
  | n + 1, h => by
    show dpf g a n + dl (g (a + (n : Int))) = dpf f a n + dl (f (a + (n : Int)))
    rw [dpf_c (fun j hj => h j (by omega)), h n (by omega)]
theorem wsf_c {f g : Int → Int} {a : Int} {n : Nat} (h : ∀ j : Nat, j < n → g (a + (j : Int)) = f (a + (j : Int))) (hw : wsf f a n) : wsf g a n := fun j hj => by
  rw [dpf_c (fun i hi => h i (by omega)), h j hj]; exact hw j hj
/-- both laws of a block: F is where the block's row begins -/
def wfb (f : Int → Int) : Prop := ∀ w : Int, (w = 0 ∨ w = 1) → f (21 + w) = 1 → (0 ≤ f (23 + w) ∧ 0 ≤ f (25 + w) ∧ f (23 + w) + f (25 + w) ≤ 900 ∧ wsf (fun i => f (62 + i)) (f (23 + w)) (f (25 + w)).toNat)
theorem wfb_c {f g : Int → Int} (h : ∀ i : Int, ((21 ≤ i ∧ i ≤ 26) ∨ (62 ≤ i ∧ i < 962)) → g i = f i) (hw : wfb f) : wfb g := fun w h01 e => by
  rw [h _ (by omega)] at e
  obtain ⟨h1, h2, h3, h4⟩ := hw w h01 e
  rw [h (23 + w) (by omega), h (25 + w) (by omega)]
  exact ⟨h1, h2, h3, wsf_c (fun j hj => h _ (by omega)) h4⟩
def WF (Z : xZ) : Prop := wfb (fun i => Z 57 i) ∧ wfb (fun i => Z 57 (962 + i)) ∧ wfb (fun i => Z 57 (1924 + i))
theorem WF_c {Z Z2 : xZ} (h : ∀ i : Int, ((21 ≤ i ∧ i ≤ 26) ∨ 62 ≤ i) → Z2 57 i = Z 57 i) (hw : WF Z) : WF Z2 :=
  ⟨wfb_c (fun i hi => h i (by omega)) hw.1, wfb_c (fun i hi => h (962 + i) (by omega)) hw.2.1, wfb_c (fun i hi => h (1924 + i) (by omega)) hw.2.2⟩
/-- stands: as many as there are, those of a block below that -/
def stb (f : Int → Int) : Prop := ∀ r : Int, (r = 27 ∨ (31 ≤ r ∧ r ≤ 60 ∧ (r - 31) % 3 = 0)) → f r < wy (f 1 * 19 + f 1)
def ST (Z : xZ) : Prop := Z 56 18 = wy (Z 57 1 * 19 + Z 57 1) ∧ stb (fun i => Z 57 i) ∧ stb (fun i => Z 57 (962 + i)) ∧ stb (fun i => Z 57 (1924 + i))
theorem stb_c {f g : Int → Int} (h : ∀ i : Int, (i = 1 ∨ i = 27 ∨ (31 ≤ i ∧ i ≤ 60 ∧ (i - 31) % 3 = 0)) → g i = f i) (hw : stb f) : stb g := fun r hr => by
  rw [h r (by omega), h 1 (by omega)]; exact hw r hr
theorem ST_c {Z Z2 : xZ} (h1 : Z2 56 18 = Z 56 18) (h : ∀ i : Int, Z2 57 i = Z 57 i) (hw : ST Z) : ST Z2 := by
  obtain ⟨w0, w1, w2, w3⟩ := hw
  exact ⟨by rw [h1, h 1]; exact w0, stb_c (fun i _ => h i) w1, stb_c (fun i _ => h (962 + i)) w2, stb_c (fun i _ => h (1924 + i)) w3⟩
def GI (n : Nat) (S : Nat → xS) (Z : xZ) : Prop := GB n S Z ∧ SM Z ∧ WF Z ∧ ST Z
noncomputable def nq (k a : Nat) (i g : Int) : Bool := decide (k ≠ a) || decide (i ≠ g)
theorem nq_ok {k a : Nat} {i g : Int} (h : nq k a i g = true) : k ≠ a ∨ i ≠ g := by
  unfold nq at h
  rw [Bool.or_eq_true] at h
  exact h.imp of_decide_eq_true of_decide_eq_true
noncomputable def NB (a : Nat) (g : Int) : Bool := decide (a < 83) && (decide (a ≠ 0) && (decide (a ≠ 13) && (decide (a ≠ 37) && (decide (a ≠ 39) && (decide (a ≠ 53) && (decide (a ≠ 55) && (nq 36 a 0 g && (nq 38 a 0 g && (nq 52 a 0 g && (nq 54 a 0 g && (nq 12 a 1 g && (nq 3 a 8 g && nq 3 a 9 g))))))))))))
noncomputable def NS (a : Nat) (g : Int) : Bool := decide (a ≠ 7) && (decide (a ≠ 9) && (decide (a ≠ 10) && (decide (a ≠ 57) && (nq 56 a 18 g && NB a g))))
theorem GB.pr {n : Nat} {S : Nat → xS} {Z : xZ} (hG : GB n S Z) (k : Nat) (i : Int) : (bd k i).1 ≤ Z k i ∧ Z k i ≤ (bd k i).2 := hG.2.2.1 k i
theorem GB_ex {n : Nat} {S : Nat → xS} {Z : xZ} (hG : GB n S Z) (k : Nat) (i : Int) : ex k i (Z k i) := hG.2.2.2.1 k i
theorem GB.prr {n : Nat} {S : Nat → xS} {Z : xZ} (hG : GB n S Z) (k : Nat) (i : Int) {b : Int} (hb : bd k i = (b, b)) : Z k i = b := by
  have h := hG.pr k i
  rw [hb] at h
  exact Int.le_antisymm h.2 h.1
theorem GB_n {n : Nat} {S : Nat → xS} {Z : xZ} (hG : GB n S Z) : 83 ≤ n := hG.1
theorem GB_s {n : Nat} {S : Nat → xS} {Z : xZ} (hG : GB n S Z) : ∀ k, Nat.blt k 83 = true → S k = sh0 k := hG.2.1
theorem GB_dy {n : Nat} {S : Nat → xS} {Z : xZ} (hG : GB n S Z) : DY n S Z := hG.2.2.2.2
theorem GB_l36 {n : Nat} {S : Nat → xS} {Z : xZ} (hG : GB n S Z) : rL n S (Z 36 0) := (GB_dy hG).2.2.1.1
theorem GB_l38 {n : Nat} {S : Nat → xS} {Z : xZ} (hG : GB n S Z) : rL n S (Z 38 0) := (GB_dy hG).2.2.1.2.1
theorem GB_l52 {n : Nat} {S : Nat → xS} {Z : xZ} (hG : GB n S Z) : rL n S (Z 52 0) := (GB_dy hG).2.2.1.2.2.1
theorem GB_l54 {n : Nat} {S : Nat → xS} {Z : xZ} (hG : GB n S Z) : rL n S (Z 54 0) := (GB_dy hG).2.2.1.2.2.2.1
theorem GB_l12 {n : Nat} {S : Nat → xS} {Z : xZ} (hG : GB n S Z) : rL n S (Z 12 1) := (GB_dy hG).2.2.1.2.2.2.2
theorem GB_rc {n : Nat} {S : Nat → xS} {Z : xZ} (hG : GB n S Z) {r : Nat} (o : okL r) (a : r < n) (e : S r = .inl (3, [2, 2, 0])) : rC n S (Z r 0) ∧ rC n S (Z r 1) ∧ (-2147483648 ≤ Z r 2 ∧ Z r 2 ≤ 2147483647) := (GB_dy hG).2.1 r o a e
theorem GB_cd {n : Nat} {S : Nat → xS} {Z : xZ} (hG : GB n S Z) {c len : Nat} (o : okC c) (a : c < n) (e : S c = .inr (.int, len, 0)) (i : Int) (i0 : 0 ≤ i) (i1 : i < (len : Int)) : 0 ≤ Z c i ∧ Z c i ≤ 1019 ∧ (Z c i ≤ 1004 ∨ 1010 ≤ Z c i) := (GB_dy hG).1 c len o a e i i0 i1
theorem up_ne {Z Z2 : xZ} {a k : Nat} {g z i : Int} (h : Z2 = up Z a g z) (hk : k ≠ a ∨ i ≠ g) : Z2 k i = Z k i := by
  rw [h]; exact if_neg (fun q => by rcases hk with e | e; exact e q.1; exact e q.2)
theorem DY_up {n : Nat} {S : Nat → xS} {Z Z2 : xZ} {a : Nat} {g z : Int} (hD : DY n S Z) (hE : Z2 = up Z a g z) (h0 : a < 83 ∧ a ≠ 0 ∧ a ≠ 13 ∧ a ≠ 37 ∧ a ≠ 39 ∧ a ≠ 53 ∧ a ≠ 55)
    (h1 : rL n S (Z2 36 0) ∧ rL n S (Z2 38 0) ∧ rL n S (Z2 52 0) ∧ rL n S (Z2 54 0) ∧ rL n S (Z2 12 1)) (h2 : rC n S (Z2 3 8) ∧ rC n S (Z2 3 9)) : DY n S Z2 := by
  refine ⟨fun c len o a1 e i i0 i1 => ?_, fun r o a1 e => ?_, h1, h2⟩
  · rw [up_ne hE (Or.inl (show c ≠ a by omega))]; exact hD.1 c len o a1 e i i0 i1
  · have hr : r ≠ a := by omega
    rw [up_ne hE (Or.inl hr), up_ne hE (Or.inl hr), up_ne hE (Or.inl hr)]; exact hD.2.1 r o a1 e
theorem GB_upc {n : Nat} {S : Nat → xS} {Z Z2 : xZ} {a : Nat} {g z : Int} (hG : GB n S Z) (hE : Z2 = up Z a g z) (hp : (bd a g).1 ≤ z ∧ z ≤ (bd a g).2) (he : ex a g z) (hd : DY n S Z2) : GB n S Z2 := by
  refine ⟨hG.1, hG.2.1, fun k i => ?_, fun k i => ?_, hd⟩
  · rw [hE]
    by_cases h : k = a ∧ i = g
    · rw [show up Z a g z k i = z from if_pos h, h.1, h.2]; exact hp
    · rw [show up Z a g z k i = Z k i from if_neg h]; exact hG.pr k i
  · rw [hE]
    by_cases h : k = a ∧ i = g
    · rw [show up Z a g z k i = z from if_pos h, h.1, h.2]; exact he
    · rw [show up Z a g z k i = Z k i from if_neg h]; exact GB_ex hG k i
theorem GB_up {n : Nat} {S : Nat → xS} {Z Z2 : xZ} {a : Nat} {g z : Int} (hG : GB n S Z) (hE : Z2 = up Z a g z) (hp : (bd a g).1 ≤ z ∧ z ≤ (bd a g).2) (he : ex a g z) (hs : NB a g = true) : GB n S Z2 := by
  unfold NB at hs
  simp only [Bool.and_eq_true] at hs
  obtain ⟨h1, h2, h6, h7, h8, h9, h10, q36, q38, q52, q54, q12, q8, q9⟩ := hs
  have h1 := of_decide_eq_true h1
  have h2 := of_decide_eq_true h2
  have h6 := of_decide_eq_true h6
  have h7 := of_decide_eq_true h7
  have h8 := of_decide_eq_true h8
  have h9 := of_decide_eq_true h9
  have h10 := of_decide_eq_true h10
  refine GB_upc hG hE hp he (DY_up (GB_dy hG) hE ⟨h1, h2, h6, h7, h8, h9, h10⟩ ?_ ?_)
  · rw [up_ne hE (nq_ok q36), up_ne hE (nq_ok q38), up_ne hE (nq_ok q52), up_ne hE (nq_ok q54), up_ne hE (nq_ok q12)]; exact (GB_dy hG).2.2.1
  · rw [up_ne hE (nq_ok q8), up_ne hE (nq_ok q9)]; exact (GB_dy hG).2.2.2
theorem GB_upL {n : Nat} {S : Nat → xS} {Z Z2 : xZ} {a : Nat} {g z : Int} (hG : GB n S Z) (hE : Z2 = up Z a g z) (hp : (bd a g).1 ≤ z ∧ z ≤ (bd a g).2) (he : ex a g z) (hs : decide ((a = 36 ∧ g = 0) ∨ (a = 38 ∧ g = 0) ∨ (a = 52 ∧ g = 0) ∨ (a = 54 ∧ g = 0) ∨ (a = 12 ∧ g = 1)) = true) (hr : rL n S z) : GB n S Z2 := by
  have h := of_decide_eq_true hs
  have key : ∀ (k : Nat) (i : Int), rL n S (Z k i) → rL n S (Z2 k i) := fun k i hk => by
    by_cases e : k = a ∧ i = g
    · rw [e.1, e.2, up_at hE]; exact hr
    · rw [hE, show up Z a g z k i = Z k i from if_neg e]; exact hk
  have q8 : (3 : Nat) ≠ a ∨ (8 : Int) ≠ g := by omega
  have q9 : (3 : Nat) ≠ a ∨ (9 : Int) ≠ g := by omega
  refine GB_upc hG hE hp he (DY_up (GB_dy hG) hE (by omega) ⟨key _ _ (GB_l36 hG), key _ _ (GB_l38 hG), key _ _ (GB_l52 hG), key _ _ (GB_l54 hG), key _ _ (GB_l12 hG)⟩ ?_)
  rw [up_ne hE q8, up_ne hE q9]; exact (GB_dy hG).2.2.2
theorem GB_upC {n : Nat} {S : Nat → xS} {Z Z2 : xZ} {a : Nat} {g z : Int} (hG : GB n S Z) (hE : Z2 = up Z a g z) (hp : (bd a g).1 ≤ z ∧ z ≤ (bd a g).2) (he : ex a g z) (hs : decide (a = 3 ∧ (g = 8 ∨ g = 9)) = true) (hr : rC n S z) : GB n S Z2 := by
  have h := of_decide_eq_true hs
  have key : ∀ (i : Int), rC n S (Z 3 i) → rC n S (Z2 3 i) := fun i hk => by
    by_cases e : 3 = a ∧ i = g
    · rw [e.1, e.2, up_at hE]; exact hr
    · rw [hE, show up Z a g z 3 i = Z 3 i from if_neg e]; exact hk
  have q : ∀ (k : Nat) (i : Int), k ≠ 3 → Z2 k i = Z k i := fun k i hk => up_ne hE (Or.inl (by omega))
  refine GB_upc hG hE hp he (DY_up (GB_dy hG) hE (by omega) ?_ ⟨key _ (GB_dy hG).2.2.2.1, key _ (GB_dy hG).2.2.2.2⟩)
  rw [q 36 0 (by decide), q 38 0 (by decide), q 52 0 (by decide), q 54 0 (by decide), q 12 1 (by decide)]; exact (GB_dy hG).2.2.1
theorem SM_up {Z Z2 : xZ} {a : Nat} {g z : Int} (hE : Z2 = up Z a g z) (hs : a ≠ 7 ∧ a ≠ 9 ∧ a ≠ 10) (hG : SM Z) : SM Z2 := fun t p t0 t1 p0 p1 => by
  rw [up_ne hE (Or.inl (Ne.symm hs.1))] at t1
  rw [up_ne hE (Or.inl (Ne.symm hs.2.2))] at p1 ⊢
  rw [ps_c (fun i => up_ne hE (Or.inl (Ne.symm hs.2.1))), up_ne hE (Or.inl (Ne.symm hs.2.1))]
  exact hG t p t0 t1 p0 p1
theorem SM_c {Z Z2 : xZ} (h7 : Z2 7 5 = Z 7 5) (h9 : ∀ i, Z2 9 i = Z 9 i) (h10 : ∀ i, Z2 10 i = Z 10 i) (hG : SM Z) : SM Z2 := fun t p t0 t1 p0 p1 => by
  rw [h7] at t1
  rw [h10] at p1 ⊢
  rw [ps_c h9, h9]
  exact hG t p t0 t1 p0 p1
theorem GI_gb {n : Nat} {S : Nat → xS} {Z : xZ} (hG : GI n S Z) : GB n S Z := hG.1
theorem GI_n {n : Nat} {S : Nat → xS} {Z : xZ} (hG : GI n S Z) : 83 ≤ n := hG.1.1
theorem GI_s {n : Nat} {S : Nat → xS} {Z : xZ} (hG : GI n S Z) : ∀ k, Nat.blt k 83 = true → S k = sh0 k := hG.1.2.1
theorem GI_sm {n : Nat} {S : Nat → xS} {Z : xZ} (hG : GI n S Z) : SM Z := hG.2.1
theorem GI_wf {n : Nat} {S : Nat → xS} {Z : xZ} (hG : GI n S Z) : WF Z := hG.2.2.1
theorem GI_stt {n : Nat} {S : Nat → xS} {Z : xZ} (hG : GI n S Z) : ST Z := hG.2.2.2
theorem GI_st {n : Nat} {S : Nat → xS} {Z : xZ} (hG : GI n S Z) (i : Int) : (i = 27 ∨ (31 ≤ i ∧ i ≤ 60 ∧ (i - 31) % 3 = 0)) → Z 57 i < Z 56 18 := fun h => by
  rw [hG.2.2.2.1]; exact hG.2.2.2.2.1 i h
set_option maxRecDepth 100000 in
theorem W0n : ∀ n, n < 19 → (1 ≤ wy (((n : Nat) : Int) * 19 + ((n : Nat) : Int)) ∧ wy (((n : Nat) : Int) * 19 + ((n : Nat) : Int)) ≤ 385) := by decide +kernel
theorem W0 {n : Int} (hn : 0 ≤ n ∧ n ≤ 18) : 1 ≤ wy (n * 19 + n) ∧ wy (n * 19 + n) ≤ 385 := by
  have := W0n n.toNat (by omega)
  rw [Int.toNat_of_nonneg hn.1] at this
  exact this
set_option maxRecDepth 100000 in
theorem WRn : ∀ n, n < 19 → ∀ m, m < 18 → (m + 1 ≤ n → wy (((n : Nat) : Int) * 19 + ((m + 1 : Nat) : Int)) = wy (((n : Nat) : Int) * 19 + ((m : Nat) : Int)) + wy (((n - (m + 1) : Nat) : Int) * 19 + ((m + 1 : Nat) : Int)) ∧ 0 ≤ wy (((n : Nat) : Int) * 19 + ((m : Nat) : Int))) := by decide +kernel
theorem WRr {n m : Int} (hn : n ≤ 18) (hm : 1 ≤ m ∧ m ≤ n) : wy (n * 19 + m) = wy (n * 19 + (m + (-1))) + wy ((n - m) * 19 + m) ∧ 0 ≤ wy (n * 19 + (m + (-1))) := by
  have h := WRn n.toNat (by omega) (m - 1).toNat (by omega) (by omega)
  rw [show ((n.toNat : Nat) : Int) = n by omega, show (((m - 1).toNat + 1 : Nat) : Int) = m by omega, show (((m - 1).toNat : Nat) : Int) = m + (-1) by omega, show ((n.toNat - ((m - 1).toNat + 1) : Nat) : Int) = n - m by omega] at h
  exact h
set_option maxRecDepth 100000 in
theorem WSn : ∀ n, n < 19 → ∀ m, m < 19 → (n ≤ m → wy (((n : Nat) : Int) * 19 + ((m : Nat) : Int)) = wy (((n : Nat) : Int) * 19 + ((n : Nat) : Int))) := by decide +kernel
theorem WSs {n m : Int} (hn : 0 ≤ n ∧ n ≤ m) (hm : m ≤ 18) : wy (n * 19 + n) = wy (n * 19 + m) := by
  have h := WSn n.toNat (by omega) m.toNat (by omega) (by omega)
  rw [show ((n.toNat : Nat) : Int) = n by omega, show ((m.toNat : Nat) : Int) = m by omega] at h
  exact h.symm
set_option maxRecDepth 100000 in
theorem Wzn : ∀ m, m < 19 → wy (0 * 19 + ((m : Nat) : Int)) = 1 := by decide +kernel
theorem Wz {m : Int} (hm : 0 ≤ m ∧ m ≤ 18) : wy (0 * 19 + m) = 1 := by
  have h := Wzn m.toNat (by omega)
  rw [show ((m.toNat : Nat) : Int) = m by omega] at h
  exact h
set_option maxRecDepth 100000 in
theorem Wyn : ∀ n, n < 19 → 1 ≤ n → wy (((n : Nat) : Int) * 19 + 0) = 0 := by decide +kernel
theorem Wy0 {n : Int} (hn : 1 ≤ n ∧ n ≤ 18) : wy (n * 19 + 0) = 0 := by
  have h := Wyn n.toNat (by omega) (by omega)
  rw [show ((n.toNat : Nat) : Int) = n by omega] at h
  exact h
theorem GI_s1 {n : Nat} {S : Nat → xS} {Z : xZ} (hG : GI n S Z) : 1 ≤ Z 56 18 ∧ Z 56 18 ≤ 385 := by
  rw [hG.2.2.2.1]
  have h := hG.1.2.2.2.1 57 1
  have h : f57 (1 % 962) (Z 57 1) := h
  unfold f57 at h
  exact W0 (by omega)
theorem GI.pr {n : Nat} {S : Nat → xS} {Z : xZ} (hG : GI n S Z) (k : Nat) (i : Int) : (bd k i).1 ≤ Z k i ∧ Z k i ≤ (bd k i).2 := hG.1.2.2.1 k i
theorem GI_ex {n : Nat} {S : Nat → xS} {Z : xZ} (hG : GI n S Z) (k : Nat) (i : Int) : ex k i (Z k i) := hG.1.2.2.2.1 k i
theorem GI.prr {n : Nat} {S : Nat → xS} {Z : xZ} (hG : GI n S Z) (k : Nat) (i : Int) {b : Int} (hb : bd k i = (b, b)) : Z k i = b := GB.prr hG.1 k i hb
theorem GI_l36 {n : Nat} {S : Nat → xS} {Z : xZ} (hG : GI n S Z) : rL n S (Z 36 0) := GB_l36 hG.1
theorem GI_l38 {n : Nat} {S : Nat → xS} {Z : xZ} (hG : GI n S Z) : rL n S (Z 38 0) := GB_l38 hG.1
theorem GI_l52 {n : Nat} {S : Nat → xS} {Z : xZ} (hG : GI n S Z) : rL n S (Z 52 0) := GB_l52 hG.1
theorem GI_l54 {n : Nat} {S : Nat → xS} {Z : xZ} (hG : GI n S Z) : rL n S (Z 54 0) := GB_l54 hG.1
theorem GI_l12 {n : Nat} {S : Nat → xS} {Z : xZ} (hG : GI n S Z) : rL n S (Z 12 1) := GB_l12 hG.1
theorem GI_rc {n : Nat} {S : Nat → xS} {Z : xZ} (hG : GI n S Z) {r : Nat} (o : okL r) (a : r < n) (e : S r = .inl (3, [2, 2, 0])) : rC n S (Z r 0) ∧ rC n S (Z r 1) ∧ (-2147483648 ≤ Z r 2 ∧ Z r 2 ≤ 2147483647) := GB_rc hG.1 o a e
theorem GI_cd {n : Nat} {S : Nat → xS} {Z : xZ} (hG : GI n S Z) {c len : Nat} (o : okC c) (a : c < n) (e : S c = .inr (.int, len, 0)) (i : Int) (i0 : 0 ≤ i) (i1 : i < (len : Int)) : 0 ≤ Z c i ∧ Z c i ≤ 1019 ∧ (Z c i ≤ 1004 ∨ 1010 ≤ Z c i) := GB_cd hG.1 o a e i i0 i1
theorem GI_up {n : Nat} {S : Nat → xS} {Z Z2 : xZ} {a : Nat} {g z : Int} (hG : GI n S Z) (hE : Z2 = up Z a g z) (hp : (bd a g).1 ≤ z ∧ z ≤ (bd a g).2) (he : ex a g z) (hs : NS a g = true) : GI n S Z2 := by
  unfold NS at hs
  simp only [Bool.and_eq_true] at hs
  obtain ⟨h3, h4, h5, h6, h7, hs⟩ := hs
  have h3 := of_decide_eq_true h3
  have h4 := of_decide_eq_true h4
  have h5 := of_decide_eq_true h5
  have h6 := of_decide_eq_true h6
  exact ⟨GB_up hG.1 hE hp he hs, SM_up hE ⟨h3, h4, h5⟩ hG.2.1, WF_c (fun i _ => up_ne hE (Or.inl (Ne.symm h6))) hG.2.2.1, ST_c (up_ne hE (nq_ok h7)) (fun i => up_ne hE (Or.inl (Ne.symm h6))) hG.2.2.2⟩
theorem GI_up57 {n : Nat} {S : Nat → xS} {Z Z2 : xZ} {g z : Int} (hG : GI n S Z) (hE : Z2 = up Z 57 g z) (hp : (bd 57 g).1 ≤ z ∧ z ≤ (bd 57 g).2) (he : ex 57 g z) (hs : (¬ g = 1 ∧ g ≤ 20) ∨ (27 ≤ g ∧ g ≤ 61)) (hv : (g = 27 ∨ (31 ≤ g ∧ g ≤ 60 ∧ (g - 31) % 3 = 0)) → z < Z 56 18) : GI n S Z2 := by
  refine ⟨GB_up hG.1 hE hp he (by unfold NB nq; simp), SM_up hE (by decide) hG.2.1, WF_c (fun i hi => up_ne hE (Or.inr (by omega))) hG.2.2.1, ?_⟩
  obtain ⟨w0, w1, w2, w3⟩ := hG.2.2.2
  have e1 : Z2 57 1 = Z 57 1 := up_ne hE (Or.inr (by omega))
  refine ⟨by rw [up_ne hE (Or.inl (by decide)), e1]; exact w0, fun r hr => ?_, stb_c (fun i hi => up_ne hE (Or.inr (by omega))) w2, stb_c (fun i hi => up_ne hE (Or.inr (by omega))) w3⟩
  show Z2 57 r < wy (Z2 57 1 * 19 + Z2 57 1)
  rw [e1, ← w0]
  by_cases hrg : r = g
  · rw [hrg, up_at hE]; exact hv (by omega)
  · rw [up_ne hE (Or.inr hrg), w0]; exact w1 r hr
theorem GI_upL {n : Nat} {S : Nat → xS} {Z Z2 : xZ} {a : Nat} {g z : Int} (hG : GI n S Z) (hE : Z2 = up Z a g z) (hp : (bd a g).1 ≤ z ∧ z ≤ (bd a g).2) (he : ex a g z) (hs : decide ((a = 36 ∧ g = 0) ∨ (a = 38 ∧ g = 0) ∨ (a = 52 ∧ g = 0) ∨ (a = 54 ∧ g = 0) ∨ (a = 12 ∧ g = 1)) = true) (hr : rL n S z) : GI n S Z2 :=
  have h := of_decide_eq_true hs
  ⟨GB_upL hG.1 hE hp he hs hr, SM_up hE (by omega) hG.2.1, WF_c (fun i _ => up_ne hE (Or.inl (by omega))) hG.2.2.1, ST_c (up_ne hE (Or.inl (by omega))) (fun i => up_ne hE (Or.inl (by omega))) hG.2.2.2⟩
theorem GI_upC {n : Nat} {S : Nat → xS} {Z Z2 : xZ} {a : Nat} {g z : Int} (hG : GI n S Z) (hE : Z2 = up Z a g z) (hp : (bd a g).1 ≤ z ∧ z ≤ (bd a g).2) (he : ex a g z) (hs : decide (a = 3 ∧ (g = 8 ∨ g = 9)) = true) (hr : rC n S z) : GI n S Z2 :=
  have h := of_decide_eq_true hs
  ⟨GB_upC hG.1 hE hp he hs hr, SM_up hE (by omega) hG.2.1, WF_c (fun i _ => up_ne hE (Or.inl (by omega))) hG.2.2.1, ST_c (up_ne hE (Or.inl (by omega))) (fun i => up_ne hE (Or.inl (by omega))) hG.2.2.2⟩
end GIa
section XJN
variable {B : mx_B} {M : mx_M} {d pc nx tg : Nat} {ls ls2 : mx_L} {st rest : List Value} {h : mx_H} {Post : mx_R → Prop}
theorem JnormL {z : Int} (hj : ∀ y, iL y → (∃ q : Int, y = z + 18446744073709551616 * q) → mx_J B M d pc ls (xL y :: rest) h Post) : mx_J B M d pc ls (xL z :: rest) h Post := by
  have e : Int64.ofInt z = Int64.ofInt (z.bmod 18446744073709551616) := by
    rw [← Int64.toInt_inj, Int64.toInt_ofInt, Int64.toInt_ofInt]
    show z.bmod 18446744073709551616 = (z.bmod 18446744073709551616).bmod 18446744073709551616
    rw [Int.bmod_bmod]
  have h1 := Int.le_bmod (x := z) (m := 18446744073709551616) (by decide)
  have h2 := Int.bmod_lt (x := z) (m := 18446744073709551616) (by decide)
  have := hj (z.bmod 18446744073709551616) ⟨by omega, by omega⟩ ⟨-(Int.bdiv z 18446744073709551616), by have := Int.bmod_add_bdiv z 18446744073709551616; omega⟩
  rw [xL, e]
  exact this
theorem JiaddN {a b : Int} (hs : mx_Sn B M pc (mx_iadd nx)) (hj : ∀ y, iI y → (∃ q : Int, y = a + b + 4294967296 * q) → mx_J B M d nx ls (xI y :: rest) h Post) : mx_J B M d pc ls (xI b :: xI a :: rest) h Post := Jiadd hs (Jnorm hj)
theorem JladdN {a b : Int} (hs : mx_Sn B M pc (mx_ladd nx)) (hj : ∀ y, iL y → (∃ q : Int, y = a + b + 18446744073709551616 * q) → mx_J B M d nx ls (xL y :: rest) h Post) : mx_J B M d pc ls (xL b :: xL a :: rest) h Post := Jladd hs (JnormL hj)
theorem JisubN {a b : Int} (hs : mx_Sn B M pc (mx_isub nx)) (hj : ∀ y, iI y → (∃ q : Int, y = a - b + 4294967296 * q) → mx_J B M d nx ls (xI y :: rest) h Post) : mx_J B M d pc ls (xI b :: xI a :: rest) h Post := Jisub hs (Jnorm hj)
theorem JlsubN {a b : Int} (hs : mx_Sn B M pc (mx_lsub nx)) (hj : ∀ y, iL y → (∃ q : Int, y = a - b + 18446744073709551616 * q) → mx_J B M d nx ls (xL y :: rest) h Post) : mx_J B M d pc ls (xL b :: xL a :: rest) h Post := Jlsub hs (JnormL hj)
theorem JimulN {a b : Int} (hs : mx_Sn B M pc (mx_imul nx)) (hj : ∀ y, iI y → (∃ q : Int, y = a * b + 4294967296 * q) → mx_J B M d nx ls (xI y :: rest) h Post) : mx_J B M d pc ls (xI b :: xI a :: rest) h Post := Jimul hs (Jnorm hj)
theorem JlmulN {a b : Int} (hs : mx_Sn B M pc (mx_lmul nx)) (hj : ∀ y, iL y → (∃ q : Int, y = a * b + 18446744073709551616 * q) → mx_J B M d nx ls (xL y :: rest) h Post) : mx_J B M d pc ls (xL b :: xL a :: rest) h Post := Jlmul hs (JnormL hj)
theorem JiincN {i : Nat} {c : Int32} {z cz : Int} (hs : mx_Sn B M pc (mx_iinc i c nx)) (hc : c = Int32.ofInt cz) (hl : mx_lg ls i = some (xI z)) (hb : Nat.blt i ls.length = true) (hj : ∀ y, iI y → (∃ q : Int, y = z + cz + 4294967296 * q) → mx_J B M d nx (mx_st1 ls i (xI y)) st h Post) : mx_J B M d pc ls st h Post := by
  have e : Int32.ofInt (z + cz) = Int32.ofInt ((z + cz).bmod 4294967296) := by
    rw [← Int32.toInt_inj, Int32.toInt_ofInt, Int32.toInt_ofInt]
    show (z + cz).bmod 4294967296 = ((z + cz).bmod 4294967296).bmod 4294967296
    rw [Int.bmod_bmod]
  have h1 := Int.le_bmod (x := z + cz) (m := 4294967296) (by decide)
  have h2 := Int.bmod_lt (x := z + cz) (m := 4294967296) (by decide)
  refine Jiinc (ls2 := mx_st1 ls i (xI ((z + cz).bmod 4294967296))) hs hc hl hb (by rw [xI, e]) (hj _ ⟨by omega, by omega⟩ ⟨-(Int.bdiv (z + cz) 4294967296), by have := Int.bmod_add_bdiv (z + cz) 4294967296; omega⟩)
theorem JimulP {a b A C : Int} (hs : mx_Sn B M pc (mx_imul nx)) (ha : 0 ≤ a ∧ a ≤ A) (hb : 0 ≤ b ∧ b ≤ C) (hac : A * C ≤ 2147483647) (hj : ∀ y, 0 ≤ y ∧ y ≤ A * C ∧ (0 < a → b ≤ y) ∧ (0 < b → a ≤ y) → mx_J B M d nx ls (xI y :: rest) h Post) : mx_J B M d pc ls (xI b :: xI a :: rest) h Post := by
  refine Jimul hs (hj _ ⟨Int.mul_nonneg ha.1 hb.1, Int.mul_le_mul ha.2 hb.2 hb.1 (by omega), fun q => ?_, fun q => ?_⟩)
  · have := Int.mul_le_mul_of_nonneg_right (a := 1) (b := a) (c := b) (by omega) hb.1
    omega
  · have := Int.mul_le_mul_of_nonneg_left (a := 1) (b := b) (c := a) (by omega) ha.1
    omega
abbrev AB (Z : xZ) (k : Nat) (len lo hi : Int) : Prop := ∀ i, 0 ≤ i → i < len → (lo ≤ Z k i ∧ Z k i ≤ hi)
theorem ab_up {Z Z2 : xZ} {k : Nat} {g z len lo hi lo2 hi2 : Int} (hE : Z2 = up Z k g z) (h : AB Z k len lo hi) (hv : lo2 ≤ z ∧ z ≤ hi2) (h1 : lo2 ≤ lo) (h2 : hi ≤ hi2) : AB Z2 k len lo2 hi2 := fun i i0 i1 => by
  by_cases hi : i = g
  · rw [hi, up_at hE]; exact hv
  · rw [up_ni hE hi]; have := h i i0 i1; omega
theorem fill_up {Z Z2 : xZ} {k : Nat} {z len lo hi : Int} (hE : Z2 = up Z k len z) (h : AB Z k len lo hi) (hv : lo ≤ z ∧ z ≤ hi) : AB Z2 k (len + 1) lo hi := fun i i0 i1 => by
  by_cases hi : i = len
  · rw [hi, up_at hE]; exact hv
  · rw [up_ni hE hi]; exact h i i0 (by omega)
theorem ab_mono {Z : xZ} {k : Nat} {len lo hi len2 lo2 hi2 : Int} (h : AB Z k len lo hi) (h0 : len2 ≤ len) (h1 : lo2 ≤ lo) (h2 : hi ≤ hi2) : AB Z k len2 lo2 hi2 := fun i i0 i1 => by
  have := h i i0 (by omega); omega
theorem ab_nil {Z : xZ} {k : Nat} {len lo hi : Int} (h0 : len ≤ 0) : AB Z k len lo hi := fun i i0 i1 => absurd i1 (by omega)
theorem ab_nk {Z Z2 : xZ} {a k : Nat} {g z len lo hi : Int} (h : AB Z k len lo hi) (hE : Z2 = up Z a g z) (hk : Nat.beq k a = false) : AB Z2 k len lo hi := fun i i0 i1 => by rw [up_nk hE hk]; exact h i i0 i1
theorem ab_fr {M : List (Nat × Int)} {Z Z2 : xZ} {k : Nat} {len lo hi : Int} (h : AB Z k len lo hi) (hf : fr' M Z Z2) (hk : ∀ i, mm M k i = false) : AB Z2 k len lo hi := fun i i0 i1 => by rw [hf k i (hk i)]; exact h i i0 i1
theorem shl10 (x : Int32) : ∃ y, iI y ∧ y % 1024 = 0 ∧ x <<< (Int32.ofInt 10 &&& 31) = Int32.ofInt y := by
  have hb : (x <<< (Int32.ofInt 10 &&& 31)).toBitVec.toNat = x.toBitVec.toNat * 1024 % 4294967296 := by
    show (x.toBitVec <<< ((Int32.ofInt 10 &&& 31).toBitVec.smod 32)).toNat = _
    rw [show ((Int32.ofInt 10 &&& 31).toBitVec.smod 32) = 10#32 from by decide]
    rw [BitVec.shiftLeft_eq', BitVec.toNat_shiftLeft, Nat.shiftLeft_eq]
    rfl
  refine ⟨(x <<< (Int32.ofInt 10 &&& 31)).toInt, ⟨Int32.le_toInt _, by have := Int32.toInt_lt (x <<< (Int32.ofInt 10 &&& 31)); omega⟩, ?_, (Int32.ofInt_toInt _).symm⟩
  show (x <<< (Int32.ofInt 10 &&& 31)).toBitVec.toInt % 1024 = 0
  rw [BitVec.toInt_eq_toNat_cond, hb]
  split <;> omega
theorem or10 {a b : Int} (ha : a % 1024 = 0) (hb : 0 ≤ b ∧ b < 1024) : ∃ y, iI y ∧ y % 1024 = b ∧ Int32.ofInt a ||| Int32.ofInt b = Int32.ofInt y := by
  have hr : (Int32.ofInt a ||| Int32.ofInt b).toBitVec.toNat = 2 ^ 10 * ((a % 4294967296).toNat / 1024) + b.toNat := by
    show (BitVec.ofInt 32 a ||| BitVec.ofInt 32 b).toNat = _
    rw [BitVec.toNat_or, BitVec.toNat_ofInt, BitVec.toNat_ofInt, Nat.two_pow_add_eq_or_of_lt (by omega)]
    congr 1
    · show (a % 4294967296).toNat = _
      omega
    · show (b % 4294967296).toNat = _
      omega
  refine ⟨(Int32.ofInt a ||| Int32.ofInt b).toInt, ⟨Int32.le_toInt _, by have := Int32.toInt_lt (Int32.ofInt a ||| Int32.ofInt b); omega⟩, ?_, (Int32.ofInt_toInt _).symm⟩
  show (Int32.ofInt a ||| Int32.ofInt b).toBitVec.toInt % 1024 = b
  rw [BitVec.toInt_eq_toNat_cond, hr]
  split <;> omega
theorem Jishl10 {x : Int32} (hs : mx_Sn B M pc (mx_ishl nx)) (hj : ∀ y, iI y ∧ y % 1024 = 0 → mx_J B M d nx ls (xI y :: rest) h Post) : mx_J B M d pc ls (xI 10 :: .int x :: rest) h Post := by
  obtain ⟨y, h1, h2, e⟩ := shl10 x
  exact mx_J.step hs (fun k call => (show k nx ls (.int (x <<< (Int32.ofInt 10 &&& 31)) :: rest) h = _ by rw [e])) (hj y ⟨h1, h2⟩)
theorem Jior10 {a b : Int} (hs : mx_Sn B M pc (mx_ior nx)) (ha : a % 1024 = 0) (hb : 0 ≤ b ∧ b < 1024) (hj : ∀ y, iI y ∧ y % 1024 = b → mx_J B M d nx ls (xI y :: rest) h Post) : mx_J B M d pc ls (xI b :: xI a :: rest) h Post := by
  obtain ⟨y, h1, h2, e⟩ := or10 ha hb
  exact mx_J.step hs (fun k call => (show k nx ls (.int (Int32.ofInt a ||| Int32.ofInt b) :: rest) h = _ by rw [e])) (hj y ⟨h1, h2⟩)
theorem shl5 (x : Int32) : ∃ y, iI y ∧ y % 32 = 0 ∧ x <<< (Int32.ofInt 5 &&& 31) = Int32.ofInt y := by
  have hb : (x <<< (Int32.ofInt 5 &&& 31)).toBitVec.toNat = x.toBitVec.toNat * 32 % 4294967296 := by
    show (x.toBitVec <<< ((Int32.ofInt 5 &&& 31).toBitVec.smod 32)).toNat = _
    rw [show ((Int32.ofInt 5 &&& 31).toBitVec.smod 32) = 5#32 from by decide]
    rw [BitVec.shiftLeft_eq', BitVec.toNat_shiftLeft, Nat.shiftLeft_eq]
    rfl
  refine ⟨(x <<< (Int32.ofInt 5 &&& 31)).toInt, ⟨Int32.le_toInt _, by have := Int32.toInt_lt (x <<< (Int32.ofInt 5 &&& 31)); omega⟩, ?_, (Int32.ofInt_toInt _).symm⟩
  show (x <<< (Int32.ofInt 5 &&& 31)).toBitVec.toInt % 32 = 0
  rw [BitVec.toInt_eq_toNat_cond, hb]
  split <;> omega
theorem or5 {a b : Int} (ha : a % 32 = 0) (hb : 0 ≤ b ∧ b < 32) : ∃ y, iI y ∧ y % 32 = b ∧ Int32.ofInt a ||| Int32.ofInt b = Int32.ofInt y := by
  have hr : (Int32.ofInt a ||| Int32.ofInt b).toBitVec.toNat = 2 ^ 5 * ((a % 4294967296).toNat / 32) + b.toNat := by
    show (BitVec.ofInt 32 a ||| BitVec.ofInt 32 b).toNat = _
    rw [BitVec.toNat_or, BitVec.toNat_ofInt, BitVec.toNat_ofInt, Nat.two_pow_add_eq_or_of_lt (by omega)]
    congr 1
    · show (a % 4294967296).toNat = _
      omega
    · show (b % 4294967296).toNat = _
      omega
  refine ⟨(Int32.ofInt a ||| Int32.ofInt b).toInt, ⟨Int32.le_toInt _, by have := Int32.toInt_lt (Int32.ofInt a ||| Int32.ofInt b); omega⟩, ?_, (Int32.ofInt_toInt _).symm⟩
  show (Int32.ofInt a ||| Int32.ofInt b).toBitVec.toInt % 32 = b
  rw [BitVec.toInt_eq_toNat_cond, hr]
  split <;> omega
theorem Jishl5 {x : Int32} (hs : mx_Sn B M pc (mx_ishl nx)) (hj : ∀ y, iI y ∧ y % 32 = 0 → mx_J B M d nx ls (xI y :: rest) h Post) : mx_J B M d pc ls (xI 5 :: .int x :: rest) h Post := by
  obtain ⟨y, h1, h2, e⟩ := shl5 x
  exact mx_J.step hs (fun k call => (show k nx ls (.int (x <<< (Int32.ofInt 5 &&& 31)) :: rest) h = _ by rw [e])) (hj y ⟨h1, h2⟩)
theorem Jior5 {a b : Int} (hs : mx_Sn B M pc (mx_ior nx)) (ha : a % 32 = 0) (hb : 0 ≤ b ∧ b < 32) (hj : ∀ y, iI y ∧ y % 32 = b → mx_J B M d nx ls (xI y :: rest) h Post) : mx_J B M d pc ls (xI b :: xI a :: rest) h Post := by
  obtain ⟨y, h1, h2, e⟩ := or5 ha hb
  exact mx_J.step hs (fun k call => (show k nx ls (.int (Int32.ofInt a ||| Int32.ofInt b) :: rest) h = _ by rw [e])) (hj y ⟨h1, h2⟩)
theorem and3 {a b c : Prop} (h1 : a ∧ b) (h2 : c) : a ∧ b ∧ c := ⟨h1.1, h1.2, h2⟩
theorem ab_ext {Z : xZ} {k : Nat} {len lo hi : Int} (h : AB Z k len lo hi) (hv : lo ≤ Z k len ∧ Z k len ≤ hi) : AB Z k (len + 1) lo hi := fun i i0 i1 => by
  by_cases hi : i = len
  · rw [hi]; exact hv
  · exact h i i0 (by omega)
theorem fit_z {z : Int} (hz : z = 0 ∨ z = 1) : mx_fit .boolean (xI z) = true := by rcases hz with e | e <;> subst e <;> decide
theorem zr_ok {z : Int} {k : mx_K} {call : mx_F} (hz : z = 0 ∨ z = 1) : mx_zret k call ls [xI z] h = some (some (xI z), h) := by
  unfold mx_zret
  simp only
  rw [if_pos]
  rcases hz with e | e <;> subst e <;> decide
theorem JlremX {a b : Int} (hs : mx_Sn B M pc (mx_lrem nx)) (ha : iL a) (hb : iL b) (hn : ¬ b = 0) (hj : ∀ z, iL z ∧ (0 ≤ a → 0 < b → 0 ≤ z ∧ z < b ∧ z ≤ a) → mx_J B M d nx ls (xL z :: rest) h Post) : mx_J B M d pc ls (xL b :: xL a :: rest) h Post := by
  have h0 : ¬ Int64.ofInt b = 0 := by rw [show (0 : Int64) = Int64.ofInt 0 from rfl, eq_L hb (by decide)]; exact hn
  by_cases hc : 0 ≤ a ∧ 0 < b
  · have e : Int64.ofInt a - Int64.ofInt a / Int64.ofInt b * Int64.ofInt b = Int64.ofInt (a % b) := by
      rw [show Int64.ofInt a / Int64.ofInt b = Int64.ofInt (a / b) by
        rw [← Int.tdiv_eq_ediv_of_nonneg hc.1, Int64.ofInt_tdiv (by show -9223372036854775808 ≤ a; omega) (by show a ≤ 9223372036854775807; omega) (by show -9223372036854775808 ≤ b; omega) (by show b ≤ 9223372036854775807; omega)]]
      rw [← Int64.ofInt_mul, ← Int64.ofInt_sub, Int.emod_def, Int.mul_comm]
    have r1 := Int.emod_nonneg a hn
    have r2 := Int.emod_lt_of_pos a hc.2
    have r3 : a % b ≤ a := by
      by_cases hl : a < b
      · rw [Int.emod_eq_of_lt hc.1 hl]; exact Int.le_refl _
      · omega
    refine mx_J.step hs (fun k call => ?_) (hj (a % b) ⟨by omega, fun _ _ => ⟨r1, r2, r3⟩⟩)
    unfold mx_lrem
    simp only [if_neg h0, e]
  · obtain ⟨z, hz, e⟩ := rg_L (Int64.ofInt a - Int64.ofInt a / Int64.ofInt b * Int64.ofInt b)
    refine mx_J.step hs (fun k call => ?_) (hj z ⟨hz, fun h1 h2 => absurd ⟨h1, h2⟩ hc⟩)
    unfold mx_lrem
    simp only [if_neg h0, e]
end XJN
abbrev mt_1 : mx_M := (prog_2_method_1_code, 4, "TitheHeap$Atlas", "<init>", (Option.none : Option Jvm.ClassFile.FieldType))
abbrev mt_2 : mx_M := (prog_2_method_2_code, 3, "TitheHeap$Atlas", "waysOf", (Option.some Jvm.ClassFile.FieldType.int))
abbrev mt_3 : mx_M := (prog_2_method_3_code, 5, "TitheHeap$Atlas", "lay", (Option.none : Option Jvm.ClassFile.FieldType))
abbrev mt_4 : mx_M := (prog_2_method_4_code, 5, "TitheHeap$Atlas", "nextRow", (Option.some Jvm.ClassFile.FieldType.int))
abbrev mt_5 : mx_M := (prog_2_method_5_code, 2, "TitheHeap$Atlas", "heapsOf", (Option.some Jvm.ClassFile.FieldType.int))
abbrev mt_6 : mx_M := (prog_2_method_6_code, 3, "TitheHeap$Atlas", "sizeOf", (Option.some Jvm.ClassFile.FieldType.int))
abbrev mt_7 : mx_M := (prog_2_method_7_code, 5, "TitheHeap$Atlas", "placeOf", (Option.some Jvm.ClassFile.FieldType.int))
abbrev mt_8 : mx_M := (prog_2_method_8_code, 5, "TitheHeap$Atlas", "tally", (Option.none : Option Jvm.ClassFile.FieldType))
abbrev mt_9 : mx_M := (prog_2_method_9_code, 6, "TitheHeap$Atlas", "numberOf", (Option.some Jvm.ClassFile.FieldType.int))
abbrev mt_10 : mx_M := (prog_2_method_10_code, 5, "TitheHeap$Atlas", "liesUnder", (Option.some Jvm.ClassFile.FieldType.boolean))
abbrev mt_11 : mx_M := (prog_3_method_1_code, 2, "TitheHeap$Draws", "<init>", (Option.none : Option Jvm.ClassFile.FieldType))
abbrev mt_12 : mx_M := (prog_3_method_2_code, 2, "TitheHeap$Draws", "draw", (Option.some Jvm.ClassFile.FieldType.int))
abbrev mt_13 : mx_M := (prog_3_method_3_code, 3, "TitheHeap$Draws", "nextDeed", (Option.some Jvm.ClassFile.FieldType.int))
abbrev mt_14 : mx_M := (prog_4_method_1_code, 3, "TitheHeap$Going", "<init>", (Option.none : Option Jvm.ClassFile.FieldType))
abbrev mt_15 : mx_M := (prog_4_method_2_code, 4, "TitheHeap$Going", "walk", (Option.none : Option Jvm.ClassFile.FieldType))
abbrev mt_16 : mx_M := (prog_4_method_3_code, 5, "TitheHeap$Going", "standAfter", (Option.some Jvm.ClassFile.FieldType.int))
abbrev mt_17 : mx_M := (prog_4_method_4_code, 7, "TitheHeap$Going", "leadingTo", (Option.some Jvm.ClassFile.FieldType.int))
abbrev mt_18 : mx_M := (prog_4_method_5_code, 5, "TitheHeap$Going", "survey", (Option.none : Option Jvm.ClassFile.FieldType))
abbrev mt_19 : mx_M := (prog_4_method_6_code, 4, "TitheHeap$Going", "takeAway", (Option.some Jvm.ClassFile.FieldType.int))
abbrev mt_20 : mx_M := (prog_4_method_7_code, 4, "TitheHeap$Going", "nameRounds", (Option.none : Option Jvm.ClassFile.FieldType))
abbrev mt_21 : mx_M := (prog_4_method_8_code, 4, "TitheHeap$Going", "sameRound", (Option.some Jvm.ClassFile.FieldType.int))
abbrev mt_22 : mx_M := (prog_5_method_1_code, 4, "TitheHeap$Laws", "<init>", (Option.none : Option Jvm.ClassFile.FieldType))
abbrev mt_23 : mx_M := (prog_6_method_1_code, 2, "TitheHeap$Mill", "<init>", (Option.none : Option Jvm.ClassFile.FieldType))
abbrev mt_24 : mx_M := (prog_6_method_2_code, 4, "TitheHeap$Mill", "begin", (Option.none : Option Jvm.ClassFile.FieldType))
abbrev mt_25 : mx_M := (prog_6_method_3_code, 2, "TitheHeap$Mill", "turnTo", (Option.none : Option Jvm.ClassFile.FieldType))
abbrev mt_26 : mx_M := (prog_6_method_4_code, 6, "TitheHeap$Mill", "behind", (Option.some Jvm.ClassFile.FieldType.int))
abbrev mt_27 : mx_M := (prog_6_method_5_code, 2, "TitheHeap$Mill", "calmlyBehind", (Option.some Jvm.ClassFile.FieldType.int))
abbrev mt_28 : mx_M := (prog_6_method_6_code, 4, "TitheHeap$Mill", "behindLot", (Option.some Jvm.ClassFile.FieldType.int))
abbrev mt_29 : mx_M := (prog_6_method_7_code, 8, "TitheHeap$Mill", "workOut", (Option.some Jvm.ClassFile.FieldType.int))
abbrev mt_30 : mx_M := (prog_6_method_8_code, 6, "TitheHeap$Mill", "gift", (Option.some Jvm.ClassFile.FieldType.int))
abbrev mt_31 : mx_M := (prog_6_method_9_code, 10, "TitheHeap$Mill", "worth", (Option.some Jvm.ClassFile.FieldType.int))
abbrev mt_32 : mx_M := (prog_7_method_1_code, 1, "TitheHeap$Moment", "<init>", (Option.none : Option Jvm.ClassFile.FieldType))
abbrev mt_33 : mx_M := (prog_7_method_2_code, 2, "TitheHeap$Moment", "copy", (Option.none : Option Jvm.ClassFile.FieldType))
abbrev mt_34 : mx_M := (prog_8_method_1_code, 1, "TitheHeap$Past", "<init>", (Option.none : Option Jvm.ClassFile.FieldType))
abbrev mt_35 : mx_M := (prog_8_method_2_code, 2, "TitheHeap$Past", "keep", (Option.none : Option Jvm.ClassFile.FieldType))
abbrev mt_36 : mx_M := (prog_8_method_3_code, 3, "TitheHeap$Past", "goBack", (Option.none : Option Jvm.ClassFile.FieldType))
abbrev mt_37 : mx_M := (prog_9_method_1_code, 1, "TitheHeap$Reader", "<init>", (Option.none : Option Jvm.ClassFile.FieldType))
abbrev mt_38 : mx_M := (prog_9_method_2_code, 4, "TitheHeap$Reader", "read", (Option.none : Option Jvm.ClassFile.FieldType))
abbrev mt_39 : mx_M := (prog_9_method_3_code, 1, "TitheHeap$Reader", "laws", (Option.some (Jvm.ClassFile.FieldType.object "TitheHeap$Laws")))
abbrev mt_40 : mx_M := (prog_9_method_4_code, 2, "TitheHeap$Reader", "readLine", (Option.none : Option Jvm.ClassFile.FieldType))
abbrev mt_41 : mx_M := (prog_9_method_5_code, 1, "TitheHeap$Reader", "beginLaw", (Option.none : Option Jvm.ClassFile.FieldType))
abbrev mt_42 : mx_M := (prog_9_method_6_code, 4, "TitheHeap$Reader", "sum", (Option.none : Option Jvm.ClassFile.FieldType))
abbrev mt_43 : mx_M := (prog_9_method_7_code, 3, "TitheHeap$Reader", "term", (Option.none : Option Jvm.ClassFile.FieldType))
abbrev mt_44 : mx_M := (prog_9_method_8_code, 2, "TitheHeap$Reader", "atom", (Option.none : Option Jvm.ClassFile.FieldType))
abbrev mt_45 : mx_M := (prog_9_method_9_code, 2, "TitheHeap$Reader", "name", (Option.none : Option Jvm.ClassFile.FieldType))
abbrev mt_46 : mx_M := (prog_9_method_10_code, 2, "TitheHeap$Reader", "choice", (Option.none : Option Jvm.ClassFile.FieldType))
abbrev mt_47 : mx_M := (prog_9_method_11_code, 3, "TitheHeap$Reader", "truth", (Option.none : Option Jvm.ClassFile.FieldType))
abbrev mt_48 : mx_M := (prog_9_method_12_code, 3, "TitheHeap$Reader", "both", (Option.none : Option Jvm.ClassFile.FieldType))
abbrev mt_49 : mx_M := (prog_9_method_13_code, 2, "TitheHeap$Reader", "unit", (Option.none : Option Jvm.ClassFile.FieldType))
abbrev mt_50 : mx_M := (prog_9_method_14_code, 3, "TitheHeap$Reader", "comparison", (Option.none : Option Jvm.ClassFile.FieldType))
abbrev mt_51 : mx_M := (prog_9_method_15_code, 2, "TitheHeap$Reader", "enter", (Option.some Jvm.ClassFile.FieldType.boolean))
abbrev mt_52 : mx_M := (prog_9_method_16_code, 2, "TitheHeap$Reader", "emit", (Option.none : Option Jvm.ClassFile.FieldType))
abbrev mt_53 : mx_M := (prog_9_method_17_code, 2, "TitheHeap$Reader", "expect", (Option.none : Option Jvm.ClassFile.FieldType))
abbrev mt_54 : mx_M := (prog_9_method_18_code, 4, "TitheHeap$Reader", "takeNumber", (Option.some Jvm.ClassFile.FieldType.int))
abbrev mt_55 : mx_M := (prog_9_method_19_code, 2, "TitheHeap$Reader", "fail", (Option.none : Option Jvm.ClassFile.FieldType))
abbrev mt_56 : mx_M := (prog_9_method_20_code, 2, "TitheHeap$Reader", "advance", (Option.none : Option Jvm.ClassFile.FieldType))
abbrev mt_57 : mx_M := (prog_9_method_21_code, 4, "TitheHeap$Reader", "isWithin", (Option.some Jvm.ClassFile.FieldType.boolean))
abbrev mt_58 : mx_M := (prog_9_method_22_code, 1, "TitheHeap$Reader", "readNumber", (Option.some Jvm.ClassFile.FieldType.int))
abbrev mt_59 : mx_M := (prog_9_method_23_code, 7, "TitheHeap$Reader", "readWord", (Option.some Jvm.ClassFile.FieldType.int))
abbrev mt_60 : mx_M := (prog_10_method_1_code, 3, "TitheHeap$Search", "<init>", (Option.none : Option Jvm.ClassFile.FieldType))
abbrev mt_61 : mx_M := (prog_10_method_2_code, 4, "TitheHeap$Search", "reach", (Option.some Jvm.ClassFile.FieldType.int))
abbrev mt_62 : mx_M := (prog_10_method_3_code, 5, "TitheHeap$Search", "reachFrom", (Option.none : Option Jvm.ClassFile.FieldType))
abbrev mt_63 : mx_M := (prog_10_method_4_code, 5, "TitheHeap$Search", "deedOnWay", (Option.some Jvm.ClassFile.FieldType.int))
abbrev mt_64 : mx_M := (prog_10_method_5_code, 6, "TitheHeap$Search", "longestKept", (Option.some Jvm.ClassFile.FieldType.int))
abbrev mt_65 : mx_M := (prog_10_method_6_code, 7, "TitheHeap$Search", "allSettled", (Option.some Jvm.ClassFile.FieldType.boolean))
abbrev mt_66 : mx_M := (prog_10_method_7_code, 2, "TitheHeap$Search", "isBefore", (Option.some Jvm.ClassFile.FieldType.boolean))
abbrev mt_67 : mx_M := (prog_10_method_8_code, 6, "TitheHeap$Search", "forcedWithin", (Option.some Jvm.ClassFile.FieldType.int))
abbrev mt_68 : mx_M := (prog_10_method_9_code, 6, "TitheHeap$Search", "forcingDeed", (Option.some Jvm.ClassFile.FieldType.int))
abbrev mt_69 : mx_M := (prog_10_method_10_code, 6, "TitheHeap$Search", "cannotEvade", (Option.some Jvm.ClassFile.FieldType.boolean))
abbrev mt_70 : mx_M := (prog_11_method_1_code, 3, "TitheHeap$Spread", "<init>", (Option.none : Option Jvm.ClassFile.FieldType))
abbrev mt_71 : mx_M := (prog_11_method_2_code, 2, "TitheHeap$Spread", "begin", (Option.none : Option Jvm.ClassFile.FieldType))
abbrev mt_72 : mx_M := (prog_11_method_3_code, 3, "TitheHeap$Spread", "emptyLevel", (Option.some Jvm.ClassFile.FieldType.boolean))
abbrev mt_73 : mx_M := (prog_11_method_4_code, 8, "TitheHeap$Spread", "stepByDeeds", (Option.none : Option Jvm.ClassFile.FieldType))
abbrev mt_74 : mx_M := (prog_11_method_5_code, 6, "TitheHeap$Spread", "stepByLots", (Option.none : Option Jvm.ClassFile.FieldType))
abbrev mt_75 : mx_M := (prog_11_method_6_code, 7, "TitheHeap$Spread", "withHeaps", (Option.some Jvm.ClassFile.FieldType.long))
abbrev mt_76 : mx_M := (prog_11_method_7_code, 5, "TitheHeap$Spread", "greatestSum", (Option.some Jvm.ClassFile.FieldType.long))
abbrev mt_77 : mx_M := (prog_11_method_8_code, 5, "TitheHeap$Spread", "prune", (Option.none : Option Jvm.ClassFile.FieldType))
abbrev mt_78 : mx_M := (prog_11_method_9_code, 5, "TitheHeap$Spread", "firstDeed", (Option.some Jvm.ClassFile.FieldType.int))
abbrev mt_79 : mx_M := (prog_11_method_10_code, 3, "TitheHeap$Spread", "leadsOn", (Option.some Jvm.ClassFile.FieldType.boolean))
abbrev mt_80 : mx_M := (prog_11_method_11_code, 5, "TitheHeap$Spread", "firstRowDeed", (Option.some Jvm.ClassFile.FieldType.int))
abbrev mt_81 : mx_M := (prog_11_method_12_code, 6, "TitheHeap$Spread", "deedBits", (Option.some Jvm.ClassFile.FieldType.int))
abbrev mt_82 : mx_M := (prog_12_method_1_code, 1, "TitheHeap$Tray", "<init>", (Option.none : Option Jvm.ClassFile.FieldType))
abbrev mt_83 : mx_M := (prog_12_method_2_code, 3, "TitheHeap$Tray", "renew", (Option.none : Option Jvm.ClassFile.FieldType))
abbrev mt_84 : mx_M := (prog_12_method_3_code, 4, "TitheHeap$Tray", "put", (Option.none : Option Jvm.ClassFile.FieldType))
abbrev mt_85 : mx_M := (prog_12_method_4_code, 2, "TitheHeap$Tray", "numberAt", (Option.some Jvm.ClassFile.FieldType.long))
abbrev mt_86 : mx_M := (prog_12_method_5_code, 6, "TitheHeap$Tray", "allWithin", (Option.some Jvm.ClassFile.FieldType.boolean))
abbrev mt_87 : mx_M := (prog_12_method_6_code, 4, "TitheHeap$Tray", "has", (Option.some Jvm.ClassFile.FieldType.boolean))
abbrev mt_88 : mx_M := (prog_1_method_1_code, 2, "TitheHeap", "<init>", (Option.none : Option Jvm.ClassFile.FieldType))
abbrev mt_89 : mx_M := (prog_1_method_2_code, 6, "TitheHeap", "feed", (Option.some Jvm.ClassFile.FieldType.int))
abbrev mt_90 : mx_M := (prog_1_method_3_code, 2, "TitheHeap", "barn", (Option.some Jvm.ClassFile.FieldType.int))
abbrev mt_91 : mx_M := (prog_1_method_4_code, 2, "TitheHeap", "fault", (Option.some Jvm.ClassFile.FieldType.int))
abbrev mt_92 : mx_M := (prog_1_method_5_code, 2, "TitheHeap", "heap", (Option.some Jvm.ClassFile.FieldType.int))
abbrev mt_93 : mx_M := (prog_1_method_6_code, 3, "TitheHeap", "gives", (Option.some Jvm.ClassFile.FieldType.int))
abbrev mt_94 : mx_M := (prog_1_method_7_code, 4, "TitheHeap", "by", (Option.some Jvm.ClassFile.FieldType.int))
abbrev mt_95 : mx_M := (prog_1_method_8_code, 2, "TitheHeap", "moon", (Option.some Jvm.ClassFile.FieldType.int))
abbrev mt_96 : mx_M := (prog_1_method_9_code, 3, "TitheHeap", "moons", (Option.some Jvm.ClassFile.FieldType.int))
abbrev mt_97 : mx_M := (prog_1_method_10_code, 3, "TitheHeap", "split", (Option.some Jvm.ClassFile.FieldType.int))
abbrev mt_98 : mx_M := (prog_1_method_11_code, 3, "TitheHeap", "join", (Option.some Jvm.ClassFile.FieldType.int))
abbrev mt_99 : mx_M := (prog_1_method_12_code, 4, "TitheHeap", "season", (Option.some Jvm.ClassFile.FieldType.int))
abbrev mt_100 : mx_M := (prog_1_method_13_code, 2, "TitheHeap", "undo", (Option.some Jvm.ClassFile.FieldType.int))
abbrev mt_101 : mx_M := (prog_1_method_14_code, 5, "TitheHeap", "judge", (Option.some Jvm.ClassFile.FieldType.int))
abbrev mt_102 : mx_M := (prog_1_method_15_code, 3, "TitheHeap", "perform", (Option.some Jvm.ClassFile.FieldType.int))
abbrev mt_103 : mx_M := (prog_1_method_16_code, 6, "TitheHeap", "year", (Option.some Jvm.ClassFile.FieldType.int))
abbrev mt_104 : mx_M := (prog_1_method_17_code, 3, "TitheHeap", "at", (Option.some Jvm.ClassFile.FieldType.int))
abbrev mt_105 : mx_M := (prog_1_method_18_code, 2, "TitheHeap", "round", (Option.some Jvm.ClassFile.FieldType.int))
abbrev mt_106 : mx_M := (prog_1_method_19_code, 2, "TitheHeap", "all", (Option.some Jvm.ClassFile.FieldType.int))
abbrev mt_107 : mx_M := (prog_1_method_20_code, 2, "TitheHeap", "ahead", (Option.some Jvm.ClassFile.FieldType.int))
abbrev mt_108 : mx_M := (prog_1_method_21_code, 3, "TitheHeap", "soonest", (Option.some Jvm.ClassFile.FieldType.int))
abbrev mt_109 : mx_M := (prog_1_method_22_code, 5, "TitheHeap", "way", (Option.some Jvm.ClassFile.FieldType.int))
abbrev mt_110 : mx_M := (prog_1_method_23_code, 4, "TitheHeap", "rows", (Option.some Jvm.ClassFile.FieldType.long))
abbrev mt_111 : mx_M := (prog_1_method_24_code, 2, "TitheHeap", "keeps", (Option.some Jvm.ClassFile.FieldType.int))
abbrev mt_112 : mx_M := (prog_1_method_25_code, 1, "TitheHeap", "stands", (Option.some Jvm.ClassFile.FieldType.int))
abbrev mt_113 : mx_M := (prog_1_method_26_code, 2, "TitheHeap", "number", (Option.some Jvm.ClassFile.FieldType.int))
abbrev mt_114 : mx_M := (prog_1_method_27_code, 5, "TitheHeap", "bounded", (Option.some Jvm.ClassFile.FieldType.int))
abbrev mt_115 : mx_M := (prog_1_method_28_code, 5, "TitheHeap", "side", (Option.some Jvm.ClassFile.FieldType.int))
abbrev mt_116 : mx_M := (prog_1_method_29_code, 3, "TitheHeap", "under", (Option.some Jvm.ClassFile.FieldType.int))
abbrev mt_117 : mx_M := (prog_1_method_30_code, 3, "TitheHeap", "below", (Option.some Jvm.ClassFile.FieldType.int))
abbrev mt_118 : mx_M := (prog_1_method_31_code, 3, "TitheHeap", "counted", (Option.some Jvm.ClassFile.FieldType.long))
abbrev mt_119 : mx_M := (prog_1_method_32_code, 4, "TitheHeap", "countedBy", (Option.some Jvm.ClassFile.FieldType.int))
abbrev mt_120 : mx_M := (prog_1_method_33_code, 4, "TitheHeap", "spared", (Option.some Jvm.ClassFile.FieldType.int))
abbrev mt_121 : mx_M := (prog_1_method_34_code, 3, "TitheHeap", "seasons", (Option.some Jvm.ClassFile.FieldType.int))
abbrev mt_122 : mx_M := (prog_1_method_35_code, 8, "TitheHeap", "attempt", (Option.some Jvm.ClassFile.FieldType.int))
abbrev mt_123 : mx_M := (prog_1_method_36_code, 2, "TitheHeap", "forces", (Option.some Jvm.ClassFile.FieldType.int))
abbrev mt_124 : mx_M := (prog_1_method_37_code, 3, "TitheHeap", "best", (Option.some Jvm.ClassFile.FieldType.int))
abbrev mt_125 : mx_M := (prog_1_method_38_code, 6, "TitheHeap", "takes", (Option.some Jvm.ClassFile.FieldType.int))
abbrev mt_126 : mx_M := (prog_1_method_39_code, 4, "TitheHeap", "chance", (Option.some Jvm.ClassFile.FieldType.int))
abbrev mt_127 : mx_M := (prog_1_method_40_code, 3, "TitheHeap", "mean", (Option.some Jvm.ClassFile.FieldType.int))
abbrev mt_128 : mx_M := (prog_1_method_41_code, 4, "TitheHeap", "numbers", (Option.some Jvm.ClassFile.FieldType.int))
abbrev mt_129 : mx_M := (prog_1_method_42_code, 5, "TitheHeap", "write", (Option.some Jvm.ClassFile.FieldType.long))
abbrev mt_130 : mx_M := (prog_1_method_43_code, 5, "TitheHeap", "lists", (Option.some Jvm.ClassFile.FieldType.int))
abbrev mt_131 : mx_M := (prog_1_method_44_code, 2, "TitheHeap", "image", (Option.some Jvm.ClassFile.FieldType.int))
abbrev mt_132 : mx_M := (prog_1_method_45_code, 2, "TitheHeap", "restore", (Option.some Jvm.ClassFile.FieldType.int))
abbrev mt_133 : mx_M := (prog_1_method_46_code, 2, "TitheHeap", "count", (Option.some Jvm.ClassFile.FieldType.int))
abbrev mt_134 : mx_M := (prog_1_method_47_code, 3, "TitheHeap", "feedInt", (Option.none : Option Jvm.ClassFile.FieldType))
abbrev mt_135 : mx_M := (prog_1_method_48_code, 1, "TitheHeap", "goOnFrom", (Option.none : Option Jvm.ClassFile.FieldType))
abbrev mt_136 : mx_M := (prog_1_method_49_code, 2, "TitheHeap", "landed", (Option.some Jvm.ClassFile.FieldType.int))
abbrev mt_137 : mx_M := (prog_1_method_50_code, 1, "TitheHeap", "land", (Option.none : Option Jvm.ClassFile.FieldType))
abbrev mt_138 : mx_M := (prog_1_method_51_code, 3, "TitheHeap", "doDeeds", (Option.some Jvm.ClassFile.FieldType.int))
abbrev mt_139 : mx_M := (prog_1_method_52_code, 5, "TitheHeap", "doDeed", (Option.some Jvm.ClassFile.FieldType.int))
abbrev mt_140 : mx_M := (prog_1_method_53_code, 4, "TitheHeap", "moonDeed", (Option.some Jvm.ClassFile.FieldType.int))
abbrev mt_141 : mx_M := (prog_1_method_54_code, 4, "TitheHeap", "splitDeed", (Option.some Jvm.ClassFile.FieldType.int))
abbrev mt_142 : mx_M := (prog_1_method_55_code, 4, "TitheHeap", "joinDeed", (Option.some Jvm.ClassFile.FieldType.int))
abbrev mt_143 : mx_M := (prog_1_method_56_code, 3, "TitheHeap", "seasonDeed", (Option.some Jvm.ClassFile.FieldType.int))
abbrev mt_144 : mx_M := (prog_1_method_57_code, 2, "TitheHeap", "noSuchTray", (Option.some Jvm.ClassFile.FieldType.boolean))
abbrev mt_145 : mx_M := (prog_1_method_58_code, 6, "TitheHeap", "told", (Option.some Jvm.ClassFile.FieldType.int))
abbrev mt_146 : mx_M := (prog_1_method_59_code, 5, "TitheHeap", "countsRefusal", (Option.some Jvm.ClassFile.FieldType.int))
abbrev mt_147 : mx_M := (prog_1_method_60_code, 3, "TitheHeap", "spreadCounted", (Option.none : Option Jvm.ClassFile.FieldType))
abbrev mt_148 : mx_M := (prog_1_method_61_code, 3, "TitheHeap", "spreadByLots", (Option.none : Option Jvm.ClassFile.FieldType))
abbrev mt_149 : mx_M := (prog_1_method_62_code, 5, "TitheHeap", "calmSeasons", (Option.some Jvm.ClassFile.FieldType.int))
abbrev mt_150 : mx_M := (prog_1_method_63_code, 4, "TitheHeap", "standBehind", (Option.some Jvm.ClassFile.FieldType.int))
abbrev mt_151 : mx_M := (prog_1_method_64_code, 5, "TitheHeap", "noteOutcomes", (Option.none : Option Jvm.ClassFile.FieldType))
abbrev mt_152 : mx_M := (prog_1_method_65_code, 6, "TitheHeap", "mostAlike", (Option.some Jvm.ClassFile.FieldType.int))
abbrev mt_153 : mx_M := (prog_1_method_66_code, 13, "TitheHeap", "lowestTerm", (Option.some Jvm.ClassFile.FieldType.int))
abbrev mt_154 : mx_M := (prog_14_method_2_code, 6, "TitheHeapModel", "within", (Option.some Jvm.ClassFile.FieldType.boolean))
abbrev mt_155 : mx_M := (prog_14_method_3_code, 1, "TitheHeapModel", "<init>", (Option.none : Option Jvm.ClassFile.FieldType))
abbrev mt_156 : mx_M := (prog_14_method_4_code, 2, "TitheHeapModel", "plain", (Option.none : Option Jvm.ClassFile.FieldType))
abbrev mt_157 : mx_M := (prog_14_method_5_code, 8, "TitheHeapModel", "feed", (Option.some Jvm.ClassFile.FieldType.int))
abbrev mt_158 : mx_M := (prog_14_method_6_code, 2, "TitheHeapModel", "see", (Option.some Jvm.ClassFile.FieldType.int))
abbrev mt_159 : mx_M := (prog_14_method_7_code, 1, "TitheHeapModel", "isSmall", (Option.some Jvm.ClassFile.FieldType.boolean))
abbrev mt_160 : mx_M := (prog_14_method_8_code, 1, "TitheHeapModel", "isDigit", (Option.some Jvm.ClassFile.FieldType.boolean))
abbrev mt_161 : mx_M := (prog_14_method_9_code, 4, "TitheHeapModel", "keyAt", (Option.some Jvm.ClassFile.FieldType.int))
abbrev mt_162 : mx_M := (prog_14_method_10_code, 2, "TitheHeapModel", "next", (Option.none : Option Jvm.ClassFile.FieldType))
abbrev mt_163 : mx_M := (prog_14_method_11_code, 2, "TitheHeapModel", "fails", (Option.none : Option Jvm.ClassFile.FieldType))
abbrev mt_164 : mx_M := (prog_14_method_12_code, 2, "TitheHeapModel", "is", (Option.some Jvm.ClassFile.FieldType.boolean))
abbrev mt_165 : mx_M := (prog_14_method_13_code, 2, "TitheHeapModel", "eats", (Option.some Jvm.ClassFile.FieldType.boolean))
abbrev mt_166 : mx_M := (prog_14_method_14_code, 4, "TitheHeapModel", "takesOne", (Option.some Jvm.ClassFile.FieldType.int))
abbrev mt_167 : mx_M := (prog_14_method_15_code, 3, "TitheHeapModel", "isIn", (Option.some Jvm.ClassFile.FieldType.boolean))
abbrev mt_168 : mx_M := (prog_14_method_16_code, 2, "TitheHeapModel", "wordOf", (Option.some Jvm.ClassFile.FieldType.int))
abbrev mt_169 : mx_M := (prog_14_method_17_code, 2, "TitheHeapModel", "codes", (Option.none : Option Jvm.ClassFile.FieldType))
abbrev mt_170 : mx_M := (prog_14_method_18_code, 2, "TitheHeapModel", "goesIn", (Option.some Jvm.ClassFile.FieldType.boolean))
abbrev mt_171 : mx_M := (prog_14_method_19_code, 2, "TitheHeapModel", "readAtom", (Option.none : Option Jvm.ClassFile.FieldType))
abbrev mt_172 : mx_M := (prog_14_method_20_code, 2, "TitheHeapModel", "readIf", (Option.none : Option Jvm.ClassFile.FieldType))
abbrev mt_173 : mx_M := (prog_14_method_21_code, 2, "TitheHeapModel", "readTerm", (Option.none : Option Jvm.ClassFile.FieldType))
abbrev mt_174 : mx_M := (prog_14_method_22_code, 3, "TitheHeapModel", "readSum", (Option.none : Option Jvm.ClassFile.FieldType))
abbrev mt_175 : mx_M := (prog_14_method_23_code, 3, "TitheHeapModel", "readUnit", (Option.none : Option Jvm.ClassFile.FieldType))
abbrev mt_176 : mx_M := (prog_14_method_24_code, 2, "TitheHeapModel", "readBoth", (Option.none : Option Jvm.ClassFile.FieldType))
abbrev mt_177 : mx_M := (prog_14_method_25_code, 2, "TitheHeapModel", "readTruth", (Option.none : Option Jvm.ClassFile.FieldType))
abbrev mt_178 : mx_M := (prog_14_method_26_code, 2, "TitheHeapModel", "readHeap", (Option.none : Option Jvm.ClassFile.FieldType))
abbrev mt_179 : mx_M := (prog_14_method_27_code, 3, "TitheHeapModel", "readLaw", (Option.none : Option Jvm.ClassFile.FieldType))
abbrev mt_180 : mx_M := (prog_14_method_28_code, 1, "TitheHeapModel", "readLine", (Option.none : Option Jvm.ClassFile.FieldType))
abbrev mt_181 : mx_M := (prog_14_method_29_code, 1, "TitheHeapModel", "closes", (Option.none : Option Jvm.ClassFile.FieldType))
abbrev mt_182 : mx_M := (prog_14_method_30_code, 3, "TitheHeapModel", "barn", (Option.some Jvm.ClassFile.FieldType.int))
abbrev mt_183 : mx_M := (prog_14_method_31_code, 2, "TitheHeapModel", "fault", (Option.some Jvm.ClassFile.FieldType.int))
abbrev mt_184 : mx_M := (prog_14_method_32_code, 1, "TitheHeapModel", "laysAll", (Option.none : Option Jvm.ClassFile.FieldType))
abbrev mt_185 : mx_M := (prog_14_method_33_code, 5, "TitheHeapModel", "goesAll", (Option.none : Option Jvm.ClassFile.FieldType))
abbrev mt_186 : mx_M := (prog_14_method_34_code, 2, "TitheHeapModel", "begins", (Option.none : Option Jvm.ClassFile.FieldType))
abbrev mt_187 : mx_M := (prog_14_method_35_code, 3, "TitheHeapModel", "laysHeaps", (Option.none : Option Jvm.ClassFile.FieldType))
abbrev mt_188 : mx_M := (prog_14_method_36_code, 4, "TitheHeapModel", "numberNow", (Option.some Jvm.ClassFile.FieldType.int))
abbrev mt_189 : mx_M := (prog_14_method_37_code, 3, "TitheHeapModel", "isBehind", (Option.some Jvm.ClassFile.FieldType.boolean))
abbrev mt_190 : mx_M := (prog_14_method_38_code, 3, "TitheHeapModel", "sizeIn", (Option.some Jvm.ClassFile.FieldType.int))
abbrev mt_191 : mx_M := (prog_14_method_39_code, 3, "TitheHeapModel", "manyIn", (Option.some Jvm.ClassFile.FieldType.int))
abbrev mt_192 : mx_M := (prog_14_method_40_code, 4, "TitheHeapModel", "placeIn", (Option.some Jvm.ClassFile.FieldType.int))
abbrev mt_193 : mx_M := (prog_14_method_41_code, 5, "TitheHeapModel", "between", (Option.some Jvm.ClassFile.FieldType.int))
abbrev mt_194 : mx_M := (prog_14_method_42_code, 5, "TitheHeapModel", "reckons", (Option.some Jvm.ClassFile.FieldType.int))
abbrev mt_195 : mx_M := (prog_14_method_43_code, 5, "TitheHeapModel", "givesIn", (Option.some Jvm.ClassFile.FieldType.int))
abbrev mt_196 : mx_M := (prog_14_method_44_code, 7, "TitheHeapModel", "moonBut", (Option.some Jvm.ClassFile.FieldType.int))
abbrev mt_197 : mx_M := (prog_14_method_45_code, 3, "TitheHeapModel", "isMoon", (Option.some Jvm.ClassFile.FieldType.boolean))
abbrev mt_198 : mx_M := (prog_14_method_46_code, 4, "TitheHeapModel", "moonTo", (Option.some Jvm.ClassFile.FieldType.int))
abbrev mt_199 : mx_M := (prog_14_method_47_code, 2, "TitheHeapModel", "heap", (Option.some Jvm.ClassFile.FieldType.int))
abbrev mt_200 : mx_M := (prog_14_method_48_code, 2, "TitheHeapModel", "gives", (Option.some Jvm.ClassFile.FieldType.int))
abbrev mt_201 : mx_M := (prog_14_method_49_code, 4, "TitheHeapModel", "by", (Option.some Jvm.ClassFile.FieldType.int))
abbrev mt_202 : mx_M := (prog_14_method_50_code, 2, "TitheHeapModel", "stores", (Option.none : Option Jvm.ClassFile.FieldType))
abbrev mt_203 : mx_M := (prog_14_method_51_code, 2, "TitheHeapModel", "isAgain", (Option.none : Option Jvm.ClassFile.FieldType))
abbrev mt_204 : mx_M := (prog_14_method_52_code, 2, "TitheHeapModel", "notes", (Option.none : Option Jvm.ClassFile.FieldType))
abbrev mt_205 : mx_M := (prog_14_method_53_code, 2, "TitheHeapModel", "goesMoon", (Option.none : Option Jvm.ClassFile.FieldType))
abbrev mt_206 : mx_M := (prog_14_method_54_code, 2, "TitheHeapModel", "moon", (Option.some Jvm.ClassFile.FieldType.int))
abbrev mt_207 : mx_M := (prog_14_method_55_code, 3, "TitheHeapModel", "moons", (Option.some Jvm.ClassFile.FieldType.int))
abbrev mt_208 : mx_M := (prog_14_method_56_code, 2, "TitheHeapModel", "isSize", (Option.some Jvm.ClassFile.FieldType.boolean))
abbrev mt_209 : mx_M := (prog_14_method_57_code, 3, "TitheHeapModel", "whySplit", (Option.some Jvm.ClassFile.FieldType.int))
abbrev mt_210 : mx_M := (prog_14_method_58_code, 3, "TitheHeapModel", "splits", (Option.none : Option Jvm.ClassFile.FieldType))
abbrev mt_211 : mx_M := (prog_14_method_59_code, 4, "TitheHeapModel", "split", (Option.some Jvm.ClassFile.FieldType.int))
abbrev mt_212 : mx_M := (prog_14_method_60_code, 4, "TitheHeapModel", "whyJoin", (Option.some Jvm.ClassFile.FieldType.int))
abbrev mt_213 : mx_M := (prog_14_method_61_code, 5, "TitheHeapModel", "joins", (Option.none : Option Jvm.ClassFile.FieldType))
abbrev mt_214 : mx_M := (prog_14_method_62_code, 4, "TitheHeapModel", "join", (Option.some Jvm.ClassFile.FieldType.int))
abbrev mt_215 : mx_M := (prog_14_method_63_code, 2, "TitheHeapModel", "season", (Option.some Jvm.ClassFile.FieldType.int))
abbrev mt_216 : mx_M := (prog_14_method_64_code, 3, "TitheHeapModel", "undo", (Option.some Jvm.ClassFile.FieldType.int))
abbrev mt_217 : mx_M := (prog_14_method_65_code, 3, "TitheHeapModel", "whyNot", (Option.some Jvm.ClassFile.FieldType.int))
abbrev mt_218 : mx_M := (prog_14_method_66_code, 2, "TitheHeapModel", "does", (Option.none : Option Jvm.ClassFile.FieldType))
abbrev mt_219 : mx_M := (prog_14_method_67_code, 3, "TitheHeapModel", "tells", (Option.some Jvm.ClassFile.FieldType.int))
abbrev mt_220 : mx_M := (prog_14_method_68_code, 2, "TitheHeapModel", "noTray", (Option.some Jvm.ClassFile.FieldType.int))
abbrev mt_221 : mx_M := (prog_14_method_69_code, 6, "TitheHeapModel", "judge", (Option.some Jvm.ClassFile.FieldType.int))
abbrev mt_222 : mx_M := (prog_14_method_70_code, 4, "TitheHeapModel", "perform", (Option.some Jvm.ClassFile.FieldType.int))
abbrev mt_223 : mx_M := (prog_14_method_71_code, 2, "TitheHeapModel", "draw", (Option.some Jvm.ClassFile.FieldType.int))
abbrev mt_224 : mx_M := (prog_14_method_72_code, 3, "TitheHeapModel", "drawn", (Option.some Jvm.ClassFile.FieldType.int))
abbrev mt_225 : mx_M := (prog_14_method_73_code, 6, "TitheHeapModel", "year", (Option.some Jvm.ClassFile.FieldType.int))
abbrev mt_226 : mx_M := (prog_14_method_74_code, 2, "TitheHeapModel", "laysGoing", (Option.none : Option Jvm.ClassFile.FieldType))
abbrev mt_227 : mx_M := (prog_14_method_75_code, 3, "TitheHeapModel", "laysLine", (Option.none : Option Jvm.ClassFile.FieldType))
abbrev mt_228 : mx_M := (prog_14_method_76_code, 3, "TitheHeapModel", "at", (Option.some Jvm.ClassFile.FieldType.int))
abbrev mt_229 : mx_M := (prog_14_method_77_code, 2, "TitheHeapModel", "round", (Option.some Jvm.ClassFile.FieldType.int))
abbrev mt_230 : mx_M := (prog_14_method_78_code, 2, "TitheHeapModel", "laysAgain", (Option.none : Option Jvm.ClassFile.FieldType))
abbrev mt_231 : mx_M := (prog_14_method_79_code, 3, "TitheHeapModel", "edens", (Option.some Jvm.ClassFile.FieldType.int))
abbrev mt_232 : mx_M := (prog_14_method_80_code, 4, "TitheHeapModel", "roundOf", (Option.some Jvm.ClassFile.FieldType.int))
abbrev mt_233 : mx_M := (prog_14_method_81_code, 6, "TitheHeapModel", "all", (Option.some Jvm.ClassFile.FieldType.int))
abbrev mt_234 : mx_M := (prog_14_method_82_code, 4, "TitheHeapModel", "ahead", (Option.some Jvm.ClassFile.FieldType.int))
abbrev mt_235 : mx_M := (prog_14_method_83_code, 3, "TitheHeapModel", "laysThen", (Option.none : Option Jvm.ClassFile.FieldType))
abbrev mt_236 : mx_M := (prog_14_method_84_code, 4, "TitheHeapModel", "farBy", (Option.some Jvm.ClassFile.FieldType.int))
abbrev mt_237 : mx_M := (prog_14_method_85_code, 5, "TitheHeapModel", "laysFar", (Option.some Jvm.ClassFile.FieldType.int))
abbrev mt_238 : mx_M := (prog_14_method_86_code, 1, "TitheHeapModel", "toldFar", (Option.some Jvm.ClassFile.FieldType.int))
abbrev mt_239 : mx_M := (prog_14_method_87_code, 5, "TitheHeapModel", "noTold", (Option.some Jvm.ClassFile.FieldType.int))
abbrev mt_240 : mx_M := (prog_14_method_88_code, 3, "TitheHeapModel", "standTold", (Option.some Jvm.ClassFile.FieldType.int))
abbrev mt_241 : mx_M := (prog_14_method_89_code, 3, "TitheHeapModel", "soonest", (Option.some Jvm.ClassFile.FieldType.int))
abbrev mt_242 : mx_M := (prog_14_method_90_code, 7, "TitheHeapModel", "way", (Option.some Jvm.ClassFile.FieldType.int))
abbrev mt_243 : mx_M := (prog_14_method_91_code, 2, "TitheHeapModel", "beginsMany", (Option.none : Option Jvm.ClassFile.FieldType))
abbrev mt_244 : mx_M := (prog_14_method_92_code, 2, "TitheHeapModel", "isThen", (Option.none : Option Jvm.ClassFile.FieldType))
abbrev mt_245 : mx_M := (prog_14_method_93_code, 6, "TitheHeapModel", "rows", (Option.some Jvm.ClassFile.FieldType.long))
abbrev mt_246 : mx_M := (prog_14_method_94_code, 5, "TitheHeapModel", "keptBy", (Option.some Jvm.ClassFile.FieldType.int))
abbrev mt_247 : mx_M := (prog_14_method_95_code, 6, "TitheHeapModel", "keeps", (Option.some Jvm.ClassFile.FieldType.int))
abbrev mt_248 : mx_M := (prog_14_method_96_code, 7, "TitheHeapModel", "stands", (Option.some Jvm.ClassFile.FieldType.int))
abbrev mt_249 : mx_M := (prog_14_method_97_code, 3, "TitheHeapModel", "number", (Option.some Jvm.ClassFile.FieldType.int))
abbrev mt_250 : mx_M := (prog_14_method_98_code, 5, "TitheHeapModel", "bounded", (Option.some Jvm.ClassFile.FieldType.int))
abbrev mt_251 : mx_M := (prog_14_method_99_code, 4, "TitheHeapModel", "side", (Option.some Jvm.ClassFile.FieldType.int))
abbrev mt_252 : mx_M := (prog_14_method_100_code, 5, "TitheHeapModel", "isUnder", (Option.some Jvm.ClassFile.FieldType.boolean))
abbrev mt_253 : mx_M := (prog_14_method_101_code, 3, "TitheHeapModel", "under", (Option.some Jvm.ClassFile.FieldType.int))
abbrev mt_254 : mx_M := (prog_14_method_102_code, 3, "TitheHeapModel", "below", (Option.some Jvm.ClassFile.FieldType.int))
abbrev mt_255 : mx_M := (prog_14_method_103_code, 7, "TitheHeapModel", "noCounted", (Option.some Jvm.ClassFile.FieldType.int))
abbrev mt_256 : mx_M := (prog_14_method_104_code, 4, "TitheHeapModel", "isSo", (Option.some Jvm.ClassFile.FieldType.boolean))
abbrev mt_257 : mx_M := (prog_14_method_105_code, 9, "TitheHeapModel", "laysCounted", (Option.some Jvm.ClassFile.FieldType.long))
abbrev mt_258 : mx_M := (prog_14_method_106_code, 3, "TitheHeapModel", "counted", (Option.some Jvm.ClassFile.FieldType.long))
abbrev mt_259 : mx_M := (prog_14_method_107_code, 7, "TitheHeapModel", "countedBy", (Option.some Jvm.ClassFile.FieldType.int))
abbrev mt_260 : mx_M := (prog_14_method_108_code, 9, "TitheHeapModel", "spared", (Option.some Jvm.ClassFile.FieldType.int))
abbrev mt_261 : mx_M := (prog_14_method_109_code, 7, "TitheHeapModel", "seasonsOf", (Option.some Jvm.ClassFile.FieldType.int))
abbrev mt_262 : mx_M := (prog_14_method_110_code, 3, "TitheHeapModel", "seasons", (Option.some Jvm.ClassFile.FieldType.int))
abbrev mt_263 : mx_M := (prog_14_method_111_code, 6, "TitheHeapModel", "mostOften", (Option.some Jvm.ClassFile.FieldType.int))
abbrev mt_264 : mx_M := (prog_14_method_112_code, 8, "TitheHeapModel", "attempt", (Option.some Jvm.ClassFile.FieldType.int))
abbrev mt_265 : mx_M := (prog_14_method_113_code, 4, "TitheHeapModel", "firstBy", (Option.some Jvm.ClassFile.FieldType.int))
abbrev mt_266 : mx_M := (prog_14_method_114_code, 5, "TitheHeapModel", "otherAt", (Option.some Jvm.ClassFile.FieldType.int))
abbrev mt_267 : mx_M := (prog_14_method_115_code, 6, "TitheHeapModel", "laysForce", (Option.some Jvm.ClassFile.FieldType.int))
abbrev mt_268 : mx_M := (prog_14_method_116_code, 2, "TitheHeapModel", "forces", (Option.some Jvm.ClassFile.FieldType.int))
abbrev mt_269 : mx_M := (prog_14_method_117_code, 4, "TitheHeapModel", "best", (Option.some Jvm.ClassFile.FieldType.int))
abbrev mt_270 : mx_M := (prog_14_method_118_code, 5, "TitheHeapModel", "takes", (Option.some Jvm.ClassFile.FieldType.int))
abbrev mt_271 : mx_M := (prog_14_method_119_code, 5, "TitheHeapModel", "laysLikely", (Option.none : Option Jvm.ClassFile.FieldType))
abbrev mt_272 : mx_M := (prog_14_method_120_code, 4, "TitheHeapModel", "wholeOf", (Option.some Jvm.ClassFile.FieldType.long))
abbrev mt_273 : mx_M := (prog_14_method_121_code, 4, "TitheHeapModel", "common", (Option.some Jvm.ClassFile.FieldType.long))
abbrev mt_274 : mx_M := (prog_14_method_122_code, 5, "TitheHeapModel", "partOf", (Option.some Jvm.ClassFile.FieldType.int))
abbrev mt_275 : mx_M := (prog_14_method_123_code, 7, "TitheHeapModel", "chance", (Option.some Jvm.ClassFile.FieldType.int))
abbrev mt_276 : mx_M := (prog_14_method_124_code, 6, "TitheHeapModel", "mean", (Option.some Jvm.ClassFile.FieldType.int))
abbrev mt_277 : mx_M := (prog_14_method_125_code, 3, "TitheHeapModel", "cut", (Option.some Jvm.ClassFile.FieldType.long))
abbrev mt_278 : mx_M := (prog_14_method_126_code, 5, "TitheHeapModel", "numbers", (Option.some Jvm.ClassFile.FieldType.int))
abbrev mt_279 : mx_M := (prog_14_method_127_code, 6, "TitheHeapModel", "write", (Option.some Jvm.ClassFile.FieldType.long))
abbrev mt_280 : mx_M := (prog_14_method_128_code, 6, "TitheHeapModel", "lists", (Option.some Jvm.ClassFile.FieldType.int))
abbrev mt_281 : mx_M := (prog_14_method_129_code, 3, "TitheHeapModel", "image", (Option.some Jvm.ClassFile.FieldType.int))
abbrev mt_282 : mx_M := (prog_14_method_130_code, 3, "TitheHeapModel", "restore", (Option.some Jvm.ClassFile.FieldType.int))
abbrev mt_283 : mx_M := (prog_14_method_131_code, 2, "TitheHeapModel", "count", (Option.some Jvm.ClassFile.FieldType.int))
abbrev mt_284 : mx_M := (prog_22_method_103_code, 4, "java/util/Arrays", "fill", (Option.none : Option Jvm.ClassFile.FieldType))
abbrev mt_285 : mx_M := (prog_22_method_101_code, 5, "java/util/Arrays", "fill", (Option.none : Option Jvm.ClassFile.FieldType))
abbrev mt_286 : mx_M := (prog_23_method_11_code, 3, "jdk/internal/util/Preconditions", "checkIndex", (Option.some Jvm.ClassFile.FieldType.int))
abbrev mt_287 : mx_M := (prog_18_method_155_code, 2, "java/lang/String", "checkIndex", (Option.none : Option Jvm.ClassFile.FieldType))
abbrev mt_288 : mx_M := (prog_19_method_2_code, 2, "java/lang/StringLatin1", "charAt", (Option.some Jvm.ClassFile.FieldType.char))
abbrev mt_289 : mx_M := (prog_18_method_154_code, 1, "java/lang/String", "isLatin1", (Option.some Jvm.ClassFile.FieldType.boolean))
abbrev mt_290 : mx_M := (prog_18_method_152_code, 1, "java/lang/String", "coder", (Option.some Jvm.ClassFile.FieldType.byte))
abbrev mt_291 : mx_M := (prog_18_method_54_code, 1, "java/lang/String", "length", (Option.some Jvm.ClassFile.FieldType.int))
abbrev mt_292 : mx_M := (prog_18_method_56_code, 2, "java/lang/String", "charAt", (Option.some Jvm.ClassFile.FieldType.char))
abbrev mt_293 : mx_M := (prog_19_method_4_code, 1, "java/lang/StringLatin1", "canEncode", (Option.some Jvm.ClassFile.FieldType.boolean))
abbrev mt_294 : mx_M := (prog_19_method_23_code, 6, "java/lang/StringLatin1", "indexOfChar", (Option.some Jvm.ClassFile.FieldType.int))
abbrev mt_295 : mx_M := (prog_19_method_22_code, 4, "java/lang/StringLatin1", "indexOf", (Option.some Jvm.ClassFile.FieldType.int))
abbrev mt_296 : mx_M := (prog_18_method_80_code, 3, "java/lang/String", "indexOf", (Option.some Jvm.ClassFile.FieldType.int))
abbrev mt_297 : mx_M := (prog_18_method_79_code, 2, "java/lang/String", "indexOf", (Option.some Jvm.ClassFile.FieldType.int))
abbrev mt_298 : mx_M := (prog_22_method_123_code, 3, "java/util/Arrays", "copyOf", (Option.some (Jvm.ClassFile.FieldType.array Jvm.ClassFile.FieldType.int)))
