set_option maxRecDepth 100000 in
theorem cw_130_1_i2 {l : Launch} {D : va_G} {b0 : Nat} {ad : Nat → Nat} {Hb : Heap} {tau : Nat → Int64} {d n s : Nat} {S : Nat → xS} {Z : xZ} {h : mx_H} {Post : mx_R → Prop} (hx : XH n s S Z h) (hG : GI n S Z)  {x1 : Int} (p1 : (-2147483648) ≤ x1 ∧ x1 ≤ 2147483647) (k0 : CTB Z (Z 7 4)) (k1 : 1 ≤ Z 7 4) (hP : ∀ (z : Int) (Z' : xZ) (h' : mx_H), XH n s S Z' h' → GI n S Z' → fr' [(49, (-1))] Z Z' → ((¬ (2 : Int) = 0 ∨ z < 0) → ∀ i, Z' 45 i = Z 45 i) ∧ ((2 : Int) = 0 → 0 ≤ z → LI (hpk (Z 7 4) x1) (Z 45) (Z' 45) z) ∧ ((¬ (2 : Int) = 1 ∨ z < 0) → ∀ i, Z' 47 i = Z 47 i) ∧ ((2 : Int) = 1 → 0 ≤ z → LI (hpk (Z 7 4) x1) (Z 47) (Z' 47) z) ∧ ((¬ (2 : Int) = 2 ∨ z < 0) → ∀ i, Z' 49 i = Z 49 i) ∧ ((2 : Int) = 2 → 0 ≤ z → LI (hpk (Z 7 4) x1) (Z 49) (Z' 49) z) ∧ ((¬ (2 : Int) = 3 ∨ z < 0) → ∀ i, Z' 51 i = Z 51 i) ∧ ((2 : Int) = 3 → 0 ≤ z → LI (hpk (Z 7 4) x1) (Z 51) (Z' 51) z) ∧ (-6) ≤ z ∧ z ≤ 18 ∧ ((((2 : Int) < 0 ∨ 3 < (2 : Int)) → z = -2) ∧ ((2 : Int) = 0 → ((Z 44 3 = 1 → z = -6) ∧ (Z 44 3 = 0 → ((x1 < 0 ∨ Z 7 5 ≤ x1) → z = -3) ∧ (¬ (x1 < 0 ∨ Z 7 5 ≤ x1) → ((Z 10 x1 ≤ Z 44 2 → z = Z 10 x1) ∧ (Z 44 2 < Z 10 x1 → z = Z 44 2)))))) ∧ ((2 : Int) = 1 → ((Z 46 3 = 1 → z = -6) ∧ (Z 46 3 = 0 → ((x1 < 0 ∨ Z 7 5 ≤ x1) → z = -3) ∧ (¬ (x1 < 0 ∨ Z 7 5 ≤ x1) → ((Z 10 x1 ≤ Z 46 2 → z = Z 10 x1) ∧ (Z 46 2 < Z 10 x1 → z = Z 46 2)))))) ∧ ((2 : Int) = 2 → ((Z 48 3 = 1 → z = -6) ∧ (Z 48 3 = 0 → ((x1 < 0 ∨ Z 7 5 ≤ x1) → z = -3) ∧ (¬ (x1 < 0 ∨ Z 7 5 ≤ x1) → ((Z 10 x1 ≤ Z 48 2 → z = Z 10 x1) ∧ (Z 48 2 < Z 10 x1 → z = Z 48 2)))))) ∧ ((2 : Int) = 3 → ((Z 50 3 = 1 → z = -6) ∧ (Z 50 3 = 0 → ((x1 < 0 ∨ Z 7 5 ≤ x1) → z = -3) ∧ (¬ (x1 < 0 ∨ Z 7 5 ≤ x1) → ((Z 10 x1 ≤ Z 50 2 → z = Z 10 x1) ∧ (Z 50 2 < Z 10 x1 → z = Z 50 2))))))) → Post (some (xI z), h')) : mx_J (tB l D b0 ad Hb tau) mt_130 (d + 2) 0 [some (.ref 1), some (xI 2), some (xI x1), none, none] [] h Post := by
    have a1 : 1 < n := lt83 (GI_n hG) rfl
    have s1 : S 1 = .inl (11, [2, 0, 0, 0, 2, 2, 2, 2, 2, 2, 2, 2, 2, 2, 2, 2, 2]) := GI_s hG 1 rfl
    have a7 : 7 < n := lt83 (GI_n hG) rfl
    have s7 : S 7 = .inl (0, [2, 2, 2, 2, 0, 0]) := GI_s hG 7 rfl
    have a34 : 34 < n := lt83 (GI_n hG) rfl
    have s34 : S 34 = .inr ((.object "TitheHeap$Tray"), 4, 2) := GI_s hG 34 rfl
    have a48 : 48 < n := lt83 (GI_n hG) rfl
    have s48 : S 48 = .inl (10, [2, 0, 0, 0]) := GI_s hG 48 rfl
    refine mx_J.step (sn_130 0) (fun _ _ => rfl) ?_
    refine mx_J.step (sn_130 1) (fun _ _ => rfl) ?_
    obtain ⟨z1, hc1, b1⟩ := ct_144_1_y (d := d + 1) (l := l) (D := D) (b0 := b0) (ad := ad) (Hb := Hb) (tau := tau) hx hG (show 0 ≤ 2 ∧ 2 ≤ 3 by omega)
    refine Jcv hx (show mx_Sn _ _ 2 (mx_callv 144 2 11 5) from sn_130 2) a1 s1 hc1 rfl rfl rfl ?_
    refine Jif_eq (show mx_Sn _ _ 5 (mx_if_eq 11 8) from sn_130 5) (by omega) (fun q2 => ?_) (fun q2 => ?_)
    · skip
      refine mx_J.step (sn_130 11) (fun _ _ => rfl) ?_
      refine JgetR (g := 10) (b := 34) hx (show mx_Sn _ _ 12 (mx_getf 11 10 15) from sn_130 12) a1 s1 rfl rfl (hG.prr 1 10 rfl) ?_
      refine mx_J.step (sn_130 15) (fun _ _ => rfl) ?_
      refine JaaldR (i := 2) (b := 48) hx (show mx_Sn _ _ 16 (mx_aald 17) from sn_130 16) a34 s34 (by omega) (show Z 34 2 = 48 by have hq := GI_ex hG 34 2; replace hq : ((0 : Int) ≤ 2 → (2 : Int) ≤ 3 → (Z 34 2) = 44 + 2 * 2) := hq; omega) ?_
      have b5 : 0 ≤ Z 48 3 ∧ Z 48 3 ≤ 1 := hG.pr 48 3
      refine JgetI (g := 3) (z := Z 48 3) hx (show mx_Sn _ _ 17 (mx_getf 10 3 20) from sn_130 17) a48 s48 rfl rfl rfl ?_
      refine Jif_eq (show mx_Sn _ _ 20 (mx_if_eq 26 23) from sn_130 20) (by omega) (fun q6 => ?_) (fun q6 => ?_)
      · skip
        refine mx_J.step (sn_130 26) (fun _ _ => rfl) ?_
        have c41 : (x1 < 0 ∨ Z 7 5 ≤ x1) → mx_J (tB l D b0 ad Hb tau) mt_130 (d + 2) 41 [some (.ref 1), some (xI 2), some (xI x1), none, none] [] h Post := by
          intro f7_0
          refine JcI (z := (-3)) (show mx_Sn _ _ 41 (mx_const (.int (-3)) 43) from sn_130 41) rfl ?_
          have b8 : 0 ≤ Z 7 5 ∧ Z 7 5 ≤ 385 := hG.pr 7 5
          have b9 : 0 ≤ Z 10 x1 ∧ Z 10 x1 ≤ 18 := hG.pr 10 x1
          have b10 : 0 ≤ Z 44 2 ∧ Z 44 2 ≤ 40 := hG.pr 44 2
          have b11 : 0 ≤ Z 44 3 ∧ Z 44 3 ≤ 1 := hG.pr 44 3
          have b12 : 0 ≤ Z 46 2 ∧ Z 46 2 ≤ 40 := hG.pr 46 2
          have b13 : 0 ≤ Z 46 3 ∧ Z 46 3 ≤ 1 := hG.pr 46 3
          have b14 : 0 ≤ Z 48 2 ∧ Z 48 2 ≤ 40 := hG.pr 48 2
          have b15 : 0 ≤ Z 50 2 ∧ Z 50 2 ≤ 40 := hG.pr 50 2
          have b16 : 0 ≤ Z 50 3 ∧ Z 50 3 ≤ 1 := hG.pr 50 3
          exact mx_J.ret (sn_130 43) (fun _ _ => rfl) (hP (-3) Z h hx hG fr_rf ⟨(fun _ => (fun i => rfl)), (fun _ q => absurd q (by decide)), (fun _ => (fun i => rfl)), (fun _ q => absurd q (by decide)), (fun _ => (fun i => rfl)), (fun _ q => absurd q (by decide)), (fun _ => (fun i => rfl)), (fun _ q => absurd q (by decide)), by omega⟩)
        refine Jif_lt (show mx_Sn _ _ 27 (mx_if_lt 41 30) from sn_130 27) (by omega) (fun q17 => ?_) (fun q17 => ?_)
        · skip
          exact c41 (by omega)
        · skip
          refine mx_J.step (sn_130 30) (fun _ _ => rfl) ?_
          refine mx_J.step (sn_130 31) (fun _ _ => rfl) ?_
          refine JgetR (g := 5) (b := 7) hx (show mx_Sn _ _ 32 (mx_getf 11 5 35) from sn_130 32) a1 s1 rfl rfl (hG.prr 1 5 rfl) ?_
          have b20 : 0 ≤ Z 7 5 ∧ Z 7 5 ≤ 385 := hG.pr 7 5
          refine JgetI (g := 5) (z := Z 7 5) hx (show mx_Sn _ _ 35 (mx_getf 0 5 38) from sn_130 35) a7 s7 rfl rfl rfl ?_
          refine Jicmp_lt (show mx_Sn _ _ 38 (mx_icmp_lt 44 41) from sn_130 38) (by omega) (by omega) (fun q21 => ?_) (fun q21 => ?_)
          · skip
            refine mx_J.step (sn_130 44) (fun _ _ => rfl) ?_
            refine JgetR (g := 5) (b := 7) hx (show mx_Sn _ _ 45 (mx_getf 11 5 48) from sn_130 45) a1 s1 rfl rfl (hG.prr 1 5 rfl) ?_
            refine mx_J.step (sn_130 48) (fun _ _ => rfl) ?_
            have b24 : 0 ≤ Z 10 x1 ∧ Z 10 x1 ≤ 18 := hG.pr 10 x1
            obtain ⟨z23, hc23, b23⟩ := ct_5_7 (d := d + 1) (l := l) (D := D) (b0 := b0) (ad := ad) (Hb := Hb) (tau := tau) hx hG (show (-2147483648) ≤ x1 ∧ x1 ≤ 2147483647 by omega)
            refine Jcv hx (show mx_Sn _ _ 49 (mx_callv 5 2 0 52) from sn_130 49) a7 s7 hc23 rfl rfl rfl ?_
            refine mx_J.step (sn_130 52) (fun _ _ => rfl) ?_
            refine JgetR (g := 10) (b := 34) hx (show mx_Sn _ _ 53 (mx_getf 11 10 56) from sn_130 53) a1 s1 rfl rfl (hG.prr 1 10 rfl) ?_
            refine mx_J.step (sn_130 56) (fun _ _ => rfl) ?_
            refine JaaldR (i := 2) (b := 48) hx (show mx_Sn _ _ 57 (mx_aald 58) from sn_130 57) a34 s34 (by omega) (show Z 34 2 = 48 by have hq := GI_ex hG 34 2; replace hq : ((0 : Int) ≤ 2 → (2 : Int) ≤ 3 → (Z 34 2) = 44 + 2 * 2) := hq; omega) ?_
            have b27 : 0 ≤ Z 48 2 ∧ Z 48 2 ≤ 40 := hG.pr 48 2
            refine JgetI (g := 2) (z := Z 48 2) hx (show mx_Sn _ _ 58 (mx_getf 10 2 61) from sn_130 58) a48 s48 rfl rfl rfl ?_
            refine Jmmin (show mx_Sn _ _ 61 (mx_mmin 64) from sn_130 61) (by omega) (by omega) ⟨_, rfl⟩ rfl (fun y28 hy28 => ?_)
            refine mx_J.step (ls2 := [some (.ref 1), some (xI 2), some (xI x1), some (xI y28), none]) (sn_130 64) (fun _ _ => rfl) ?_
            refine JcI (z := 0) (show mx_Sn _ _ 65 (mx_const (.int 0) 66) from sn_130 65) rfl ?_
            refine mx_J.step (ls2 := [some (.ref 1), some (xI 2), some (xI x1), some (xI y28), some (xI 0)]) (sn_130 66) (fun _ _ => rfl) ?_
            have c68 : ∀ (m29 : Nat) (w29_4 : Int) (Z30 : xZ) (h30 : mx_H), 18 - w29_4 < (m29 : Int) → 0 ≤ w29_4 ∧ w29_4 ≤ 18 → w29_4 ≤ y28 → LI (hpk (Z 7 4) x1) (Z 49) (Z30 49) w29_4 → XH n s S Z30 h30 → GI n S Z30 → fr' [(49, (-1))] Z Z30 → mx_J (tB l D b0 ad Hb tau) mt_130 (d + 2) 68 [some (.ref 1), some (xI 2), some (xI x1), some (xI y28), some (xI w29_4)] [] h30 Post := by
              intro m29
              induction m29 with
              | zero => intro w29_4 Z30 h30 q29 f29_0 f29_1 f29_2 hx30 hG30 hf30; exact absurd q29 (by omega)
              | succ m29 ih29 =>
                intro w29_4 Z30 h30 q29 f29_0 f29_1 f29_2 hx30 hG30 hf30
                refine mx_J.step (sn_130 68) (fun _ _ => rfl) ?_
                refine mx_J.step (sn_130 70) (fun _ _ => rfl) ?_
                refine Jicmp_ge (show mx_Sn _ _ 71 (mx_icmp_ge 102 74) from sn_130 71) (by omega) (by omega) (fun q31 => ?_) (fun q31 => ?_)
                · skip
                  refine mx_J.step (sn_130 102) (fun _ _ => rfl) ?_
                  have eq32 : Z30 7 5 = Z 7 5 := (hf30 7 5 rfl)
                  have eq33 : Z30 10 x1 = Z 10 x1 := (hf30 10 x1 rfl)
                  have eq34 : Z30 44 2 = Z 44 2 := (hf30 44 2 rfl)
                  have b35 : 0 ≤ Z 44 2 ∧ Z 44 2 ≤ 40 := hG.pr 44 2
                  have eq36 : Z30 44 3 = Z 44 3 := (hf30 44 3 rfl)
                  have b37 : 0 ≤ Z 44 3 ∧ Z 44 3 ≤ 1 := hG.pr 44 3
                  have eq38 : Z30 46 2 = Z 46 2 := (hf30 46 2 rfl)
                  have b39 : 0 ≤ Z 46 2 ∧ Z 46 2 ≤ 40 := hG.pr 46 2
                  have eq40 : Z30 46 3 = Z 46 3 := (hf30 46 3 rfl)
                  have b41 : 0 ≤ Z 46 3 ∧ Z 46 3 ≤ 1 := hG.pr 46 3
                  have eq42 : Z30 48 2 = Z 48 2 := (hf30 48 2 rfl)
                  have eq43 : Z30 48 3 = Z 48 3 := (hf30 48 3 rfl)
                  have eq44 : Z30 50 2 = Z 50 2 := (hf30 50 2 rfl)
                  have b45 : 0 ≤ Z 50 2 ∧ Z 50 2 ≤ 40 := hG.pr 50 2
                  have eq46 : Z30 50 3 = Z 50 3 := (hf30 50 3 rfl)
                  have b47 : 0 ≤ Z 50 3 ∧ Z 50 3 ≤ 1 := hG.pr 50 3
                  exact mx_J.ret (sn_130 103) (fun _ _ => rfl) (hP y28 Z30 h30 hx30 hG30 (fr_tr (M := [(49, (-1))]) fr_rf (hf30) (M1 := []) rfl rfl) ⟨(fun _ => (fun i => (hf30 45 i rfl))), (fun q => absurd q (by decide)), (fun _ => (fun i => (hf30 47 i rfl))), (fun q => absurd q (by decide)), (fun q => absurd q (by omega)), (fun _ _ => (show w29_4 = y28 by omega) ▸ (by assumption : LI (hpk (Z 7 4) x1) (Z 49) (Z30 49) w29_4)), (fun _ => (fun i => (hf30 51 i rfl))), (fun q => absurd q (by decide)), by omega⟩)
                · skip
                  refine mx_J.step (sn_130 74) (fun _ _ => rfl) ?_
                  refine JgetR (g := 10) (b := 34) hx30 (show mx_Sn _ _ 75 (mx_getf 11 10 78) from sn_130 75) a1 s1 rfl rfl (hG30.prr 1 10 rfl) ?_
                  refine mx_J.step (sn_130 78) (fun _ _ => rfl) ?_
                  refine JaaldR (i := 2) (b := 48) hx30 (show mx_Sn _ _ 79 (mx_aald 80) from sn_130 79) a34 s34 (by omega) (show Z30 34 2 = 48 by have hq := GI_ex hG30 34 2; replace hq : ((0 : Int) ≤ 2 → (2 : Int) ≤ 3 → (Z30 34 2) = 44 + 2 * 2) := hq; omega) ?_
                  refine mx_J.step (sn_130 80) (fun _ _ => rfl) ?_
                  refine mx_J.step (sn_130 82) (fun _ _ => rfl) ?_
                  refine JgetR (g := 5) (b := 7) hx30 (show mx_Sn _ _ 83 (mx_getf 11 5 86) from sn_130 83) a1 s1 rfl rfl (hG30.prr 1 5 rfl) ?_
                  refine mx_J.step (sn_130 86) (fun _ _ => rfl) ?_
                  refine mx_J.step (sn_130 87) (fun _ _ => rfl) ?_
                  have eq51 : Z30 9 (x1 * 18 + w29_4) = Z 9 (x1 * 18 + w29_4) := (hf30 9 (x1 * 18 + w29_4) rfl)
                  have b52 : 0 ≤ Z 9 (x1 * 18 + w29_4) ∧ Z 9 (x1 * 18 + w29_4) ≤ 18 := hG.pr 9 (x1 * 18 + w29_4)
                  have eq53 : Z30 10 x1 = Z 10 x1 := (hf30 10 x1 rfl)
                  have eq54 : Z30 7 5 = Z 7 5 := (hf30 7 5 rfl)
                  obtain ⟨z50, hc50, b50⟩ := ct_6_7 (d := d + 0) (l := l) (D := D) (b0 := b0) (ad := ad) (Hb := Hb) (tau := tau) hx30 hG30 (show (-2147483648) ≤ x1 ∧ x1 ≤ 2147483647 by omega) (show (-2147483648) ≤ w29_4 ∧ w29_4 ≤ 2147483647 by omega)
                  try rw [eq51] at b50
                  try rw [eq53] at b50
                  try rw [eq54] at b50
                  refine Jcv hx30 (show mx_Sn _ _ 89 (mx_callv 6 3 0 92) from sn_130 89) a7 s7 hc50 rfl rfl rfl ?_
                  refine Ji2l (show mx_Sn _ _ 92 (mx_i2l 93) from sn_130 92) (by omega) ?_
                  have eq56 : Z30 48 1 = Z 48 1 := (hf30 48 1 rfl)
                  have b57 : 0 ≤ Z 48 1 ∧ Z 48 1 ≤ 3 := hG.pr 48 1
                  obtain ⟨Z55, h55, hc55, hx55, hG55, hf55, b55⟩ := ct_84_48 (d := d + 1) (l := l) (D := D) (b0 := b0) (ad := ad) (Hb := Hb) (tau := tau) hx30 hG30 (show (-2147483648) ≤ w29_4 ∧ w29_4 ≤ 2147483647 by omega) (show (-9223372036854775808) ≤ z50 ∧ z50 ≤ 9223372036854775807 by omega)
                  try rw [eq56] at b55
                  obtain ⟨bs55_0, b55⟩ := b55
                  have b58 : (-9223372036854775808) ≤ Z55 49 w29_4 ∧ Z55 49 w29_4 ≤ 9223372036854775807 := hG55.pr 49 w29_4
                  refine Jcv0 hx30 (show mx_Sn _ _ 93 (mx_callv 84 3 10 96) from sn_130 93) a48 s48 hc55 rfl rfl rfl ?_
                  have cs9 := CTB_s k0 (t := x1) (p := w29_4) (by omega) (by have := k0.2.1; omega) (by omega) (by have := CTB_h k0 (t := x1) (by omega) (by have := k0.2.1; omega); omega)
                  have li1 : LI (hpk (Z 7 4) x1) (Z 49) (Z55 49) (w29_4 + 1) := li_s (by assumption) ((ct_sz (b55 (by omega) (by omega)) (by omega)).trans (by omega)) bs55_0
                  refine Jiinc (z := w29_4) (cz := 1) (ls2 := [some (.ref 1), some (xI 2), some (xI x1), some (xI y28), some (xI (w29_4 + 1))]) (show mx_Sn _ _ 96 (mx_iinc 4 1 99) from sn_130 96) rfl rfl rfl rfl ?_
                  refine mx_J.step (sn_130 99) (fun _ _ => rfl) ?_
                  exact ih29 (w29_4 + 1) Z55 h55 (by omega) (by omega) (by omega) (by first | exact li_0 | assumption) hx55 hG55 (fr_tr (M := [(49, (-1))]) (fr_tr (M := [(49, (-1))]) fr_rf (hf30) (M1 := []) rfl rfl) (hf55) rfl rfl)
            exact c68 (Int.toNat (18 - 0) + 1) 0 Z h (by omega) (by omega) (by omega) (by first | exact li_0 | assumption) hx hG fr_rf
          · skip
            exact c41 (by omega)
      · skip
        refine JcI (z := (-6)) (show mx_Sn _ _ 23 (mx_const (.int (-6)) 25) from sn_130 23) rfl ?_
        have b59 : 0 ≤ Z 7 5 ∧ Z 7 5 ≤ 385 := hG.pr 7 5
        have b60 : 0 ≤ Z 10 x1 ∧ Z 10 x1 ≤ 18 := hG.pr 10 x1
        have b61 : 0 ≤ Z 44 2 ∧ Z 44 2 ≤ 40 := hG.pr 44 2
        have b62 : 0 ≤ Z 44 3 ∧ Z 44 3 ≤ 1 := hG.pr 44 3
        have b63 : 0 ≤ Z 46 2 ∧ Z 46 2 ≤ 40 := hG.pr 46 2
        have b64 : 0 ≤ Z 46 3 ∧ Z 46 3 ≤ 1 := hG.pr 46 3
        have b65 : 0 ≤ Z 48 2 ∧ Z 48 2 ≤ 40 := hG.pr 48 2
        have b66 : 0 ≤ Z 50 2 ∧ Z 50 2 ≤ 40 := hG.pr 50 2
        have b67 : 0 ≤ Z 50 3 ∧ Z 50 3 ≤ 1 := hG.pr 50 3
        exact mx_J.ret (sn_130 25) (fun _ _ => rfl) (hP (-6) Z h hx hG fr_rf ⟨(fun _ => (fun i => rfl)), (fun _ q => absurd q (by decide)), (fun _ => (fun i => rfl)), (fun _ q => absurd q (by decide)), (fun _ => (fun i => rfl)), (fun _ q => absurd q (by decide)), (fun _ => (fun i => rfl)), (fun _ q => absurd q (by decide)), by omega⟩)
    · skip
      exfalso; omega
theorem ct_130_1_i2 {l : Launch} {D : va_G} {b0 : Nat} {ad : Nat → Nat} {Hb : Heap} {tau : Nat → Int64} {d n s : Nat} {S : Nat → xS} {Z : xZ} {h : mx_H} (hx : XH n s S Z h) (hG : GI n S Z)  {x1 : Int} (p1 : (-2147483648) ≤ x1 ∧ x1 ≤ 2147483647) (k0 : CTB Z (Z 7 4)) (k1 : 1 ≤ Z 7 4) : ∃ (z : Int) (Z' : xZ) (h' : mx_H), mx_Ca (tB l D b0 ad Hb tau) (d + 3) 130 [.ref 1, xI 2, xI x1] h (some (xI z), h') ∧ XH n s S Z' h' ∧ GI n S Z' ∧ fr' [(49, (-1))] Z Z' ∧ (((¬ (2 : Int) = 0 ∨ z < 0) → ∀ i, Z' 45 i = Z 45 i) ∧ ((2 : Int) = 0 → 0 ≤ z → LI (hpk (Z 7 4) x1) (Z 45) (Z' 45) z) ∧ ((¬ (2 : Int) = 1 ∨ z < 0) → ∀ i, Z' 47 i = Z 47 i) ∧ ((2 : Int) = 1 → 0 ≤ z → LI (hpk (Z 7 4) x1) (Z 47) (Z' 47) z) ∧ ((¬ (2 : Int) = 2 ∨ z < 0) → ∀ i, Z' 49 i = Z 49 i) ∧ ((2 : Int) = 2 → 0 ≤ z → LI (hpk (Z 7 4) x1) (Z 49) (Z' 49) z) ∧ ((¬ (2 : Int) = 3 ∨ z < 0) → ∀ i, Z' 51 i = Z 51 i) ∧ ((2 : Int) = 3 → 0 ≤ z → LI (hpk (Z 7 4) x1) (Z 51) (Z' 51) z) ∧ (-6) ≤ z ∧ z ≤ 18 ∧ ((((2 : Int) < 0 ∨ 3 < (2 : Int)) → z = -2) ∧ ((2 : Int) = 0 → ((Z 44 3 = 1 → z = -6) ∧ (Z 44 3 = 0 → ((x1 < 0 ∨ Z 7 5 ≤ x1) → z = -3) ∧ (¬ (x1 < 0 ∨ Z 7 5 ≤ x1) → ((Z 10 x1 ≤ Z 44 2 → z = Z 10 x1) ∧ (Z 44 2 < Z 10 x1 → z = Z 44 2)))))) ∧ ((2 : Int) = 1 → ((Z 46 3 = 1 → z = -6) ∧ (Z 46 3 = 0 → ((x1 < 0 ∨ Z 7 5 ≤ x1) → z = -3) ∧ (¬ (x1 < 0 ∨ Z 7 5 ≤ x1) → ((Z 10 x1 ≤ Z 46 2 → z = Z 10 x1) ∧ (Z 46 2 < Z 10 x1 → z = Z 46 2)))))) ∧ ((2 : Int) = 2 → ((Z 48 3 = 1 → z = -6) ∧ (Z 48 3 = 0 → ((x1 < 0 ∨ Z 7 5 ≤ x1) → z = -3) ∧ (¬ (x1 < 0 ∨ Z 7 5 ≤ x1) → ((Z 10 x1 ≤ Z 48 2 → z = Z 10 x1) ∧ (Z 48 2 < Z 10 x1 → z = Z 48 2)))))) ∧ ((2 : Int) = 3 → ((Z 50 3 = 1 → z = -6) ∧ (Z 50 3 = 0 → ((x1 < 0 ∨ Z 7 5 ≤ x1) → z = -3) ∧ (¬ (x1 < 0 ∨ Z 7 5 ≤ x1) → ((Z 10 x1 ≤ Z 50 2 → z = Z 10 x1) ∧ (Z 50 2 < Z 10 x1 → z = Z 50 2)))))))) := by
  obtain ⟨r, hca, z, Z', h', e, q⟩ := Jmt (B := tB l D b0 ad Hb tau) (M := mt_130) (mi := 130) (as := [.ref 1, xI 2, xI x1]) (d := d + 2) (ls := [some (.ref 1), some (xI 2), some (xI x1), none, none]) rfl rfl rfl rfl rfl rfl (cw_130_1_i2 (l := l) (D := D) (b0 := b0) (ad := ad) (Hb := Hb) (tau := tau) (d := d) (Post := fun r => ∃ (z : Int) (Z' : xZ) (h' : mx_H), r = (some (xI z), h') ∧ XH n s S Z' h' ∧ GI n S Z' ∧ fr' [(49, (-1))] Z Z' ∧ (((¬ (2 : Int) = 0 ∨ z < 0) → ∀ i, Z' 45 i = Z 45 i) ∧ ((2 : Int) = 0 → 0 ≤ z → LI (hpk (Z 7 4) x1) (Z 45) (Z' 45) z) ∧ ((¬ (2 : Int) = 1 ∨ z < 0) → ∀ i, Z' 47 i = Z 47 i) ∧ ((2 : Int) = 1 → 0 ≤ z → LI (hpk (Z 7 4) x1) (Z 47) (Z' 47) z) ∧ ((¬ (2 : Int) = 2 ∨ z < 0) → ∀ i, Z' 49 i = Z 49 i) ∧ ((2 : Int) = 2 → 0 ≤ z → LI (hpk (Z 7 4) x1) (Z 49) (Z' 49) z) ∧ ((¬ (2 : Int) = 3 ∨ z < 0) → ∀ i, Z' 51 i = Z 51 i) ∧ ((2 : Int) = 3 → 0 ≤ z → LI (hpk (Z 7 4) x1) (Z 51) (Z' 51) z) ∧ (-6) ≤ z ∧ z ≤ 18 ∧ ((((2 : Int) < 0 ∨ 3 < (2 : Int)) → z = -2) ∧ ((2 : Int) = 0 → ((Z 44 3 = 1 → z = -6) ∧ (Z 44 3 = 0 → ((x1 < 0 ∨ Z 7 5 ≤ x1) → z = -3) ∧ (¬ (x1 < 0 ∨ Z 7 5 ≤ x1) → ((Z 10 x1 ≤ Z 44 2 → z = Z 10 x1) ∧ (Z 44 2 < Z 10 x1 → z = Z 44 2)))))) ∧ ((2 : Int) = 1 → ((Z 46 3 = 1 → z = -6) ∧ (Z 46 3 = 0 → ((x1 < 0 ∨ Z 7 5 ≤ x1) → z = -3) ∧ (¬ (x1 < 0 ∨ Z 7 5 ≤ x1) → ((Z 10 x1 ≤ Z 46 2 → z = Z 10 x1) ∧ (Z 46 2 < Z 10 x1 → z = Z 46 2)))))) ∧ ((2 : Int) = 2 → ((Z 48 3 = 1 → z = -6) ∧ (Z 48 3 = 0 → ((x1 < 0 ∨ Z 7 5 ≤ x1) → z = -3) ∧ (¬ (x1 < 0 ∨ Z 7 5 ≤ x1) → ((Z 10 x1 ≤ Z 48 2 → z = Z 10 x1) ∧ (Z 48 2 < Z 10 x1 → z = Z 48 2)))))) ∧ ((2 : Int) = 3 → ((Z 50 3 = 1 → z = -6) ∧ (Z 50 3 = 0 → ((x1 < 0 ∨ Z 7 5 ≤ x1) → z = -3) ∧ (¬ (x1 < 0 ∨ Z 7 5 ≤ x1) → ((Z 10 x1 ≤ Z 50 2 → z = Z 10 x1) ∧ (Z 50 2 < Z 10 x1 → z = Z 50 2))))))))) hx hG p1 k0 k1 (fun z Z' h' q1 q2 q3 q4 => ⟨z, Z', h', rfl, q1, q2, q3, q4⟩))
  subst e; exact ⟨z, Z', h', hca, q⟩
set_option maxRecDepth 100000 in
theorem cw_130_1_i3 {l : Launch} {D : va_G} {b0 : Nat} {ad : Nat → Nat} {Hb : Heap} {tau : Nat → Int64} {d n s : Nat} {S : Nat → xS} {Z : xZ} {h : mx_H} {Post : mx_R → Prop} (hx : XH n s S Z h) (hG : GI n S Z)  {x1 : Int} (p1 : (-2147483648) ≤ x1 ∧ x1 ≤ 2147483647) (k0 : CTB Z (Z 7 4)) (k1 : 1 ≤ Z 7 4) (hP : ∀ (z : Int) (Z' : xZ) (h' : mx_H), XH n s S Z' h' → GI n S Z' → fr' [(51, (-1))] Z Z' → ((¬ (3 : Int) = 0 ∨ z < 0) → ∀ i, Z' 45 i = Z 45 i) ∧ ((3 : Int) = 0 → 0 ≤ z → LI (hpk (Z 7 4) x1) (Z 45) (Z' 45) z) ∧ ((¬ (3 : Int) = 1 ∨ z < 0) → ∀ i, Z' 47 i = Z 47 i) ∧ ((3 : Int) = 1 → 0 ≤ z → LI (hpk (Z 7 4) x1) (Z 47) (Z' 47) z) ∧ ((¬ (3 : Int) = 2 ∨ z < 0) → ∀ i, Z' 49 i = Z 49 i) ∧ ((3 : Int) = 2 → 0 ≤ z → LI (hpk (Z 7 4) x1) (Z 49) (Z' 49) z) ∧ ((¬ (3 : Int) = 3 ∨ z < 0) → ∀ i, Z' 51 i = Z 51 i) ∧ ((3 : Int) = 3 → 0 ≤ z → LI (hpk (Z 7 4) x1) (Z 51) (Z' 51) z) ∧ (-6) ≤ z ∧ z ≤ 18 ∧ ((((3 : Int) < 0 ∨ 3 < (3 : Int)) → z = -2) ∧ ((3 : Int) = 0 → ((Z 44 3 = 1 → z = -6) ∧ (Z 44 3 = 0 → ((x1 < 0 ∨ Z 7 5 ≤ x1) → z = -3) ∧ (¬ (x1 < 0 ∨ Z 7 5 ≤ x1) → ((Z 10 x1 ≤ Z 44 2 → z = Z 10 x1) ∧ (Z 44 2 < Z 10 x1 → z = Z 44 2)))))) ∧ ((3 : Int) = 1 → ((Z 46 3 = 1 → z = -6) ∧ (Z 46 3 = 0 → ((x1 < 0 ∨ Z 7 5 ≤ x1) → z = -3) ∧ (¬ (x1 < 0 ∨ Z 7 5 ≤ x1) → ((Z 10 x1 ≤ Z 46 2 → z = Z 10 x1) ∧ (Z 46 2 < Z 10 x1 → z = Z 46 2)))))) ∧ ((3 : Int) = 2 → ((Z 48 3 = 1 → z = -6) ∧ (Z 48 3 = 0 → ((x1 < 0 ∨ Z 7 5 ≤ x1) → z = -3) ∧ (¬ (x1 < 0 ∨ Z 7 5 ≤ x1) → ((Z 10 x1 ≤ Z 48 2 → z = Z 10 x1) ∧ (Z 48 2 < Z 10 x1 → z = Z 48 2)))))) ∧ ((3 : Int) = 3 → ((Z 50 3 = 1 → z = -6) ∧ (Z 50 3 = 0 → ((x1 < 0 ∨ Z 7 5 ≤ x1) → z = -3) ∧ (¬ (x1 < 0 ∨ Z 7 5 ≤ x1) → ((Z 10 x1 ≤ Z 50 2 → z = Z 10 x1) ∧ (Z 50 2 < Z 10 x1 → z = Z 50 2))))))) → Post (some (xI z), h')) : mx_J (tB l D b0 ad Hb tau) mt_130 (d + 2) 0 [some (.ref 1), some (xI 3), some (xI x1), none, none] [] h Post := by
    have a1 : 1 < n := lt83 (GI_n hG) rfl
    have s1 : S 1 = .inl (11, [2, 0, 0, 0, 2, 2, 2, 2, 2, 2, 2, 2, 2, 2, 2, 2, 2]) := GI_s hG 1 rfl
    have a7 : 7 < n := lt83 (GI_n hG) rfl
    have s7 : S 7 = .inl (0, [2, 2, 2, 2, 0, 0]) := GI_s hG 7 rfl
    have a34 : 34 < n := lt83 (GI_n hG) rfl
    have s34 : S 34 = .inr ((.object "TitheHeap$Tray"), 4, 2) := GI_s hG 34 rfl
    have a50 : 50 < n := lt83 (GI_n hG) rfl
    have s50 : S 50 = .inl (10, [2, 0, 0, 0]) := GI_s hG 50 rfl
    refine mx_J.step (sn_130 0) (fun _ _ => rfl) ?_
    refine mx_J.step (sn_130 1) (fun _ _ => rfl) ?_
    obtain ⟨z1, hc1, b1⟩ := ct_144_1_y (d := d + 1) (l := l) (D := D) (b0 := b0) (ad := ad) (Hb := Hb) (tau := tau) hx hG (show 0 ≤ 3 ∧ 3 ≤ 3 by omega)
    refine Jcv hx (show mx_Sn _ _ 2 (mx_callv 144 2 11 5) from sn_130 2) a1 s1 hc1 rfl rfl rfl ?_
    refine Jif_eq (show mx_Sn _ _ 5 (mx_if_eq 11 8) from sn_130 5) (by omega) (fun q2 => ?_) (fun q2 => ?_)
    · skip
      refine mx_J.step (sn_130 11) (fun _ _ => rfl) ?_
      refine JgetR (g := 10) (b := 34) hx (show mx_Sn _ _ 12 (mx_getf 11 10 15) from sn_130 12) a1 s1 rfl rfl (hG.prr 1 10 rfl) ?_
      refine mx_J.step (sn_130 15) (fun _ _ => rfl) ?_
      refine JaaldR (i := 3) (b := 50) hx (show mx_Sn _ _ 16 (mx_aald 17) from sn_130 16) a34 s34 (by omega) (show Z 34 3 = 50 by have hq := GI_ex hG 34 3; replace hq : ((0 : Int) ≤ 3 → (3 : Int) ≤ 3 → (Z 34 3) = 44 + 2 * 3) := hq; omega) ?_
      have b5 : 0 ≤ Z 50 3 ∧ Z 50 3 ≤ 1 := hG.pr 50 3
      refine JgetI (g := 3) (z := Z 50 3) hx (show mx_Sn _ _ 17 (mx_getf 10 3 20) from sn_130 17) a50 s50 rfl rfl rfl ?_
      refine Jif_eq (show mx_Sn _ _ 20 (mx_if_eq 26 23) from sn_130 20) (by omega) (fun q6 => ?_) (fun q6 => ?_)
      · skip
        refine mx_J.step (sn_130 26) (fun _ _ => rfl) ?_
        have c41 : (x1 < 0 ∨ Z 7 5 ≤ x1) → mx_J (tB l D b0 ad Hb tau) mt_130 (d + 2) 41 [some (.ref 1), some (xI 3), some (xI x1), none, none] [] h Post := by
          intro f7_0
          refine JcI (z := (-3)) (show mx_Sn _ _ 41 (mx_const (.int (-3)) 43) from sn_130 41) rfl ?_
          have b8 : 0 ≤ Z 7 5 ∧ Z 7 5 ≤ 385 := hG.pr 7 5
          have b9 : 0 ≤ Z 10 x1 ∧ Z 10 x1 ≤ 18 := hG.pr 10 x1
          have b10 : 0 ≤ Z 44 2 ∧ Z 44 2 ≤ 40 := hG.pr 44 2
          have b11 : 0 ≤ Z 44 3 ∧ Z 44 3 ≤ 1 := hG.pr 44 3
          have b12 : 0 ≤ Z 46 2 ∧ Z 46 2 ≤ 40 := hG.pr 46 2
          have b13 : 0 ≤ Z 46 3 ∧ Z 46 3 ≤ 1 := hG.pr 46 3
          have b14 : 0 ≤ Z 48 2 ∧ Z 48 2 ≤ 40 := hG.pr 48 2
          have b15 : 0 ≤ Z 48 3 ∧ Z 48 3 ≤ 1 := hG.pr 48 3
          have b16 : 0 ≤ Z 50 2 ∧ Z 50 2 ≤ 40 := hG.pr 50 2
          exact mx_J.ret (sn_130 43) (fun _ _ => rfl) (hP (-3) Z h hx hG fr_rf ⟨(fun _ => (fun i => rfl)), (fun _ q => absurd q (by decide)), (fun _ => (fun i => rfl)), (fun _ q => absurd q (by decide)), (fun _ => (fun i => rfl)), (fun _ q => absurd q (by decide)), (fun _ => (fun i => rfl)), (fun _ q => absurd q (by decide)), by omega⟩)
        refine Jif_lt (show mx_Sn _ _ 27 (mx_if_lt 41 30) from sn_130 27) (by omega) (fun q17 => ?_) (fun q17 => ?_)
        · skip
          exact c41 (by omega)
        · skip
          refine mx_J.step (sn_130 30) (fun _ _ => rfl) ?_
          refine mx_J.step (sn_130 31) (fun _ _ => rfl) ?_
          refine JgetR (g := 5) (b := 7) hx (show mx_Sn _ _ 32 (mx_getf 11 5 35) from sn_130 32) a1 s1 rfl rfl (hG.prr 1 5 rfl) ?_
          have b20 : 0 ≤ Z 7 5 ∧ Z 7 5 ≤ 385 := hG.pr 7 5
          refine JgetI (g := 5) (z := Z 7 5) hx (show mx_Sn _ _ 35 (mx_getf 0 5 38) from sn_130 35) a7 s7 rfl rfl rfl ?_
          refine Jicmp_lt (show mx_Sn _ _ 38 (mx_icmp_lt 44 41) from sn_130 38) (by omega) (by omega) (fun q21 => ?_) (fun q21 => ?_)
          · skip
            refine mx_J.step (sn_130 44) (fun _ _ => rfl) ?_
            refine JgetR (g := 5) (b := 7) hx (show mx_Sn _ _ 45 (mx_getf 11 5 48) from sn_130 45) a1 s1 rfl rfl (hG.prr 1 5 rfl) ?_
            refine mx_J.step (sn_130 48) (fun _ _ => rfl) ?_
            have b24 : 0 ≤ Z 10 x1 ∧ Z 10 x1 ≤ 18 := hG.pr 10 x1
            obtain ⟨z23, hc23, b23⟩ := ct_5_7 (d := d + 1) (l := l) (D := D) (b0 := b0) (ad := ad) (Hb := Hb) (tau := tau) hx hG (show (-2147483648) ≤ x1 ∧ x1 ≤ 2147483647 by omega)
            refine Jcv hx (show mx_Sn _ _ 49 (mx_callv 5 2 0 52) from sn_130 49) a7 s7 hc23 rfl rfl rfl ?_
            refine mx_J.step (sn_130 52) (fun _ _ => rfl) ?_
            refine JgetR (g := 10) (b := 34) hx (show mx_Sn _ _ 53 (mx_getf 11 10 56) from sn_130 53) a1 s1 rfl rfl (hG.prr 1 10 rfl) ?_
            refine mx_J.step (sn_130 56) (fun _ _ => rfl) ?_
            refine JaaldR (i := 3) (b := 50) hx (show mx_Sn _ _ 57 (mx_aald 58) from sn_130 57) a34 s34 (by omega) (show Z 34 3 = 50 by have hq := GI_ex hG 34 3; replace hq : ((0 : Int) ≤ 3 → (3 : Int) ≤ 3 → (Z 34 3) = 44 + 2 * 3) := hq; omega) ?_
            have b27 : 0 ≤ Z 50 2 ∧ Z 50 2 ≤ 40 := hG.pr 50 2
            refine JgetI (g := 2) (z := Z 50 2) hx (show mx_Sn _ _ 58 (mx_getf 10 2 61) from sn_130 58) a50 s50 rfl rfl rfl ?_
            refine Jmmin (show mx_Sn _ _ 61 (mx_mmin 64) from sn_130 61) (by omega) (by omega) ⟨_, rfl⟩ rfl (fun y28 hy28 => ?_)
            refine mx_J.step (ls2 := [some (.ref 1), some (xI 3), some (xI x1), some (xI y28), none]) (sn_130 64) (fun _ _ => rfl) ?_
            refine JcI (z := 0) (show mx_Sn _ _ 65 (mx_const (.int 0) 66) from sn_130 65) rfl ?_
            refine mx_J.step (ls2 := [some (.ref 1), some (xI 3), some (xI x1), some (xI y28), some (xI 0)]) (sn_130 66) (fun _ _ => rfl) ?_
            have c68 : ∀ (m29 : Nat) (w29_4 : Int) (Z30 : xZ) (h30 : mx_H), 18 - w29_4 < (m29 : Int) → 0 ≤ w29_4 ∧ w29_4 ≤ 18 → w29_4 ≤ y28 → LI (hpk (Z 7 4) x1) (Z 51) (Z30 51) w29_4 → XH n s S Z30 h30 → GI n S Z30 → fr' [(51, (-1))] Z Z30 → mx_J (tB l D b0 ad Hb tau) mt_130 (d + 2) 68 [some (.ref 1), some (xI 3), some (xI x1), some (xI y28), some (xI w29_4)] [] h30 Post := by
              intro m29
              induction m29 with
              | zero => intro w29_4 Z30 h30 q29 f29_0 f29_1 f29_2 hx30 hG30 hf30; exact absurd q29 (by omega)
              | succ m29 ih29 =>
                intro w29_4 Z30 h30 q29 f29_0 f29_1 f29_2 hx30 hG30 hf30
                refine mx_J.step (sn_130 68) (fun _ _ => rfl) ?_
                refine mx_J.step (sn_130 70) (fun _ _ => rfl) ?_
                refine Jicmp_ge (show mx_Sn _ _ 71 (mx_icmp_ge 102 74) from sn_130 71) (by omega) (by omega) (fun q31 => ?_) (fun q31 => ?_)
                · skip
                  refine mx_J.step (sn_130 102) (fun _ _ => rfl) ?_
                  have eq32 : Z30 7 5 = Z 7 5 := (hf30 7 5 rfl)
                  have eq33 : Z30 10 x1 = Z 10 x1 := (hf30 10 x1 rfl)
                  have eq34 : Z30 44 2 = Z 44 2 := (hf30 44 2 rfl)
                  have b35 : 0 ≤ Z 44 2 ∧ Z 44 2 ≤ 40 := hG.pr 44 2
                  have eq36 : Z30 44 3 = Z 44 3 := (hf30 44 3 rfl)
                  have b37 : 0 ≤ Z 44 3 ∧ Z 44 3 ≤ 1 := hG.pr 44 3
                  have eq38 : Z30 46 2 = Z 46 2 := (hf30 46 2 rfl)
                  have b39 : 0 ≤ Z 46 2 ∧ Z 46 2 ≤ 40 := hG.pr 46 2
                  have eq40 : Z30 46 3 = Z 46 3 := (hf30 46 3 rfl)
                  have b41 : 0 ≤ Z 46 3 ∧ Z 46 3 ≤ 1 := hG.pr 46 3
                  have eq42 : Z30 48 2 = Z 48 2 := (hf30 48 2 rfl)
                  have b43 : 0 ≤ Z 48 2 ∧ Z 48 2 ≤ 40 := hG.pr 48 2
                  have eq44 : Z30 48 3 = Z 48 3 := (hf30 48 3 rfl)
                  have b45 : 0 ≤ Z 48 3 ∧ Z 48 3 ≤ 1 := hG.pr 48 3
                  have eq46 : Z30 50 2 = Z 50 2 := (hf30 50 2 rfl)
                  have eq47 : Z30 50 3 = Z 50 3 := (hf30 50 3 rfl)
                  exact mx_J.ret (sn_130 103) (fun _ _ => rfl) (hP y28 Z30 h30 hx30 hG30 (fr_tr (M := [(51, (-1))]) fr_rf (hf30) (M1 := []) rfl rfl) ⟨(fun _ => (fun i => (hf30 45 i rfl))), (fun q => absurd q (by decide)), (fun _ => (fun i => (hf30 47 i rfl))), (fun q => absurd q (by decide)), (fun _ => (fun i => (hf30 49 i rfl))), (fun q => absurd q (by decide)), (fun q => absurd q (by omega)), (fun _ _ => (show w29_4 = y28 by omega) ▸ (by assumption : LI (hpk (Z 7 4) x1) (Z 51) (Z30 51) w29_4)), by omega⟩)
                · skip
                  refine mx_J.step (sn_130 74) (fun _ _ => rfl) ?_
                  refine JgetR (g := 10) (b := 34) hx30 (show mx_Sn _ _ 75 (mx_getf 11 10 78) from sn_130 75) a1 s1 rfl rfl (hG30.prr 1 10 rfl) ?_
                  refine mx_J.step (sn_130 78) (fun _ _ => rfl) ?_
                  refine JaaldR (i := 3) (b := 50) hx30 (show mx_Sn _ _ 79 (mx_aald 80) from sn_130 79) a34 s34 (by omega) (show Z30 34 3 = 50 by have hq := GI_ex hG30 34 3; replace hq : ((0 : Int) ≤ 3 → (3 : Int) ≤ 3 → (Z30 34 3) = 44 + 2 * 3) := hq; omega) ?_
                  refine mx_J.step (sn_130 80) (fun _ _ => rfl) ?_
                  refine mx_J.step (sn_130 82) (fun _ _ => rfl) ?_
                  refine JgetR (g := 5) (b := 7) hx30 (show mx_Sn _ _ 83 (mx_getf 11 5 86) from sn_130 83) a1 s1 rfl rfl (hG30.prr 1 5 rfl) ?_
                  refine mx_J.step (sn_130 86) (fun _ _ => rfl) ?_
                  refine mx_J.step (sn_130 87) (fun _ _ => rfl) ?_
                  have eq51 : Z30 9 (x1 * 18 + w29_4) = Z 9 (x1 * 18 + w29_4) := (hf30 9 (x1 * 18 + w29_4) rfl)
                  have b52 : 0 ≤ Z 9 (x1 * 18 + w29_4) ∧ Z 9 (x1 * 18 + w29_4) ≤ 18 := hG.pr 9 (x1 * 18 + w29_4)
                  have eq53 : Z30 10 x1 = Z 10 x1 := (hf30 10 x1 rfl)
                  have eq54 : Z30 7 5 = Z 7 5 := (hf30 7 5 rfl)
                  obtain ⟨z50, hc50, b50⟩ := ct_6_7 (d := d + 0) (l := l) (D := D) (b0 := b0) (ad := ad) (Hb := Hb) (tau := tau) hx30 hG30 (show (-2147483648) ≤ x1 ∧ x1 ≤ 2147483647 by omega) (show (-2147483648) ≤ w29_4 ∧ w29_4 ≤ 2147483647 by omega)
                  try rw [eq51] at b50
                  try rw [eq53] at b50
                  try rw [eq54] at b50
                  refine Jcv hx30 (show mx_Sn _ _ 89 (mx_callv 6 3 0 92) from sn_130 89) a7 s7 hc50 rfl rfl rfl ?_
                  refine Ji2l (show mx_Sn _ _ 92 (mx_i2l 93) from sn_130 92) (by omega) ?_
                  have eq56 : Z30 50 1 = Z 50 1 := (hf30 50 1 rfl)
                  have b57 : 0 ≤ Z 50 1 ∧ Z 50 1 ≤ 3 := hG.pr 50 1
                  obtain ⟨Z55, h55, hc55, hx55, hG55, hf55, b55⟩ := ct_84_50 (d := d + 1) (l := l) (D := D) (b0 := b0) (ad := ad) (Hb := Hb) (tau := tau) hx30 hG30 (show (-2147483648) ≤ w29_4 ∧ w29_4 ≤ 2147483647 by omega) (show (-9223372036854775808) ≤ z50 ∧ z50 ≤ 9223372036854775807 by omega)
                  try rw [eq56] at b55
                  obtain ⟨bs55_0, b55⟩ := b55
                  have b58 : (-9223372036854775808) ≤ Z55 51 w29_4 ∧ Z55 51 w29_4 ≤ 9223372036854775807 := hG55.pr 51 w29_4
                  refine Jcv0 hx30 (show mx_Sn _ _ 93 (mx_callv 84 3 10 96) from sn_130 93) a50 s50 hc55 rfl rfl rfl ?_
                  have cs9 := CTB_s k0 (t := x1) (p := w29_4) (by omega) (by have := k0.2.1; omega) (by omega) (by have := CTB_h k0 (t := x1) (by omega) (by have := k0.2.1; omega); omega)
                  have li1 : LI (hpk (Z 7 4) x1) (Z 51) (Z55 51) (w29_4 + 1) := li_s (by assumption) ((ct_sz (b55 (by omega) (by omega)) (by omega)).trans (by omega)) bs55_0
                  refine Jiinc (z := w29_4) (cz := 1) (ls2 := [some (.ref 1), some (xI 3), some (xI x1), some (xI y28), some (xI (w29_4 + 1))]) (show mx_Sn _ _ 96 (mx_iinc 4 1 99) from sn_130 96) rfl rfl rfl rfl ?_
                  refine mx_J.step (sn_130 99) (fun _ _ => rfl) ?_
                  exact ih29 (w29_4 + 1) Z55 h55 (by omega) (by omega) (by omega) (by first | exact li_0 | assumption) hx55 hG55 (fr_tr (M := [(51, (-1))]) (fr_tr (M := [(51, (-1))]) fr_rf (hf30) (M1 := []) rfl rfl) (hf55) rfl rfl)
            exact c68 (Int.toNat (18 - 0) + 1) 0 Z h (by omega) (by omega) (by omega) (by first | exact li_0 | assumption) hx hG fr_rf
          · skip
            exact c41 (by omega)
      · skip
        refine JcI (z := (-6)) (show mx_Sn _ _ 23 (mx_const (.int (-6)) 25) from sn_130 23) rfl ?_
        have b59 : 0 ≤ Z 7 5 ∧ Z 7 5 ≤ 385 := hG.pr 7 5
        have b60 : 0 ≤ Z 10 x1 ∧ Z 10 x1 ≤ 18 := hG.pr 10 x1
        have b61 : 0 ≤ Z 44 2 ∧ Z 44 2 ≤ 40 := hG.pr 44 2
        have b62 : 0 ≤ Z 44 3 ∧ Z 44 3 ≤ 1 := hG.pr 44 3
        have b63 : 0 ≤ Z 46 2 ∧ Z 46 2 ≤ 40 := hG.pr 46 2
        have b64 : 0 ≤ Z 46 3 ∧ Z 46 3 ≤ 1 := hG.pr 46 3
        have b65 : 0 ≤ Z 48 2 ∧ Z 48 2 ≤ 40 := hG.pr 48 2
        have b66 : 0 ≤ Z 48 3 ∧ Z 48 3 ≤ 1 := hG.pr 48 3
        have b67 : 0 ≤ Z 50 2 ∧ Z 50 2 ≤ 40 := hG.pr 50 2
        exact mx_J.ret (sn_130 25) (fun _ _ => rfl) (hP (-6) Z h hx hG fr_rf ⟨(fun _ => (fun i => rfl)), (fun _ q => absurd q (by decide)), (fun _ => (fun i => rfl)), (fun _ q => absurd q (by decide)), (fun _ => (fun i => rfl)), (fun _ q => absurd q (by decide)), (fun _ => (fun i => rfl)), (fun _ q => absurd q (by decide)), by omega⟩)
    · skip
      exfalso; omega
theorem ct_130_1_i3 {l : Launch} {D : va_G} {b0 : Nat} {ad : Nat → Nat} {Hb : Heap} {tau : Nat → Int64} {d n s : Nat} {S : Nat → xS} {Z : xZ} {h : mx_H} (hx : XH n s S Z h) (hG : GI n S Z)  {x1 : Int} (p1 : (-2147483648) ≤ x1 ∧ x1 ≤ 2147483647) (k0 : CTB Z (Z 7 4)) (k1 : 1 ≤ Z 7 4) : ∃ (z : Int) (Z' : xZ) (h' : mx_H), mx_Ca (tB l D b0 ad Hb tau) (d + 3) 130 [.ref 1, xI 3, xI x1] h (some (xI z), h') ∧ XH n s S Z' h' ∧ GI n S Z' ∧ fr' [(51, (-1))] Z Z' ∧ (((¬ (3 : Int) = 0 ∨ z < 0) → ∀ i, Z' 45 i = Z 45 i) ∧ ((3 : Int) = 0 → 0 ≤ z → LI (hpk (Z 7 4) x1) (Z 45) (Z' 45) z) ∧ ((¬ (3 : Int) = 1 ∨ z < 0) → ∀ i, Z' 47 i = Z 47 i) ∧ ((3 : Int) = 1 → 0 ≤ z → LI (hpk (Z 7 4) x1) (Z 47) (Z' 47) z) ∧ ((¬ (3 : Int) = 2 ∨ z < 0) → ∀ i, Z' 49 i = Z 49 i) ∧ ((3 : Int) = 2 → 0 ≤ z → LI (hpk (Z 7 4) x1) (Z 49) (Z' 49) z) ∧ ((¬ (3 : Int) = 3 ∨ z < 0) → ∀ i, Z' 51 i = Z 51 i) ∧ ((3 : Int) = 3 → 0 ≤ z → LI (hpk (Z 7 4) x1) (Z 51) (Z' 51) z) ∧ (-6) ≤ z ∧ z ≤ 18 ∧ ((((3 : Int) < 0 ∨ 3 < (3 : Int)) → z = -2) ∧ ((3 : Int) = 0 → ((Z 44 3 = 1 → z = -6) ∧ (Z 44 3 = 0 → ((x1 < 0 ∨ Z 7 5 ≤ x1) → z = -3) ∧ (¬ (x1 < 0 ∨ Z 7 5 ≤ x1) → ((Z 10 x1 ≤ Z 44 2 → z = Z 10 x1) ∧ (Z 44 2 < Z 10 x1 → z = Z 44 2)))))) ∧ ((3 : Int) = 1 → ((Z 46 3 = 1 → z = -6) ∧ (Z 46 3 = 0 → ((x1 < 0 ∨ Z 7 5 ≤ x1) → z = -3) ∧ (¬ (x1 < 0 ∨ Z 7 5 ≤ x1) → ((Z 10 x1 ≤ Z 46 2 → z = Z 10 x1) ∧ (Z 46 2 < Z 10 x1 → z = Z 46 2)))))) ∧ ((3 : Int) = 2 → ((Z 48 3 = 1 → z = -6) ∧ (Z 48 3 = 0 → ((x1 < 0 ∨ Z 7 5 ≤ x1) → z = -3) ∧ (¬ (x1 < 0 ∨ Z 7 5 ≤ x1) → ((Z 10 x1 ≤ Z 48 2 → z = Z 10 x1) ∧ (Z 48 2 < Z 10 x1 → z = Z 48 2)))))) ∧ ((3 : Int) = 3 → ((Z 50 3 = 1 → z = -6) ∧ (Z 50 3 = 0 → ((x1 < 0 ∨ Z 7 5 ≤ x1) → z = -3) ∧ (¬ (x1 < 0 ∨ Z 7 5 ≤ x1) → ((Z 10 x1 ≤ Z 50 2 → z = Z 10 x1) ∧ (Z 50 2 < Z 10 x1 → z = Z 50 2)))))))) := by
  obtain ⟨r, hca, z, Z', h', e, q⟩ := Jmt (B := tB l D b0 ad Hb tau) (M := mt_130) (mi := 130) (as := [.ref 1, xI 3, xI x1]) (d := d + 2) (ls := [some (.ref 1), some (xI 3), some (xI x1), none, none]) rfl rfl rfl rfl rfl rfl (cw_130_1_i3 (l := l) (D := D) (b0 := b0) (ad := ad) (Hb := Hb) (tau := tau) (d := d) (Post := fun r => ∃ (z : Int) (Z' : xZ) (h' : mx_H), r = (some (xI z), h') ∧ XH n s S Z' h' ∧ GI n S Z' ∧ fr' [(51, (-1))] Z Z' ∧ (((¬ (3 : Int) = 0 ∨ z < 0) → ∀ i, Z' 45 i = Z 45 i) ∧ ((3 : Int) = 0 → 0 ≤ z → LI (hpk (Z 7 4) x1) (Z 45) (Z' 45) z) ∧ ((¬ (3 : Int) = 1 ∨ z < 0) → ∀ i, Z' 47 i = Z 47 i) ∧ ((3 : Int) = 1 → 0 ≤ z → LI (hpk (Z 7 4) x1) (Z 47) (Z' 47) z) ∧ ((¬ (3 : Int) = 2 ∨ z < 0) → ∀ i, Z' 49 i = Z 49 i) ∧ ((3 : Int) = 2 → 0 ≤ z → LI (hpk (Z 7 4) x1) (Z 49) (Z' 49) z) ∧ ((¬ (3 : Int) = 3 ∨ z < 0) → ∀ i, Z' 51 i = Z 51 i) ∧ ((3 : Int) = 3 → 0 ≤ z → LI (hpk (Z 7 4) x1) (Z 51) (Z' 51) z) ∧ (-6) ≤ z ∧ z ≤ 18 ∧ ((((3 : Int) < 0 ∨ 3 < (3 : Int)) → z = -2) ∧ ((3 : Int) = 0 → ((Z 44 3 = 1 → z = -6) ∧ (Z 44 3 = 0 → ((x1 < 0 ∨ Z 7 5 ≤ x1) → z = -3) ∧ (¬ (x1 < 0 ∨ Z 7 5 ≤ x1) → ((Z 10 x1 ≤ Z 44 2 → z = Z 10 x1) ∧ (Z 44 2 < Z 10 x1 → z = Z 44 2)))))) ∧ ((3 : Int) = 1 → ((Z 46 3 = 1 → z = -6) ∧ (Z 46 3 = 0 → ((x1 < 0 ∨ Z 7 5 ≤ x1) → z = -3) ∧ (¬ (x1 < 0 ∨ Z 7 5 ≤ x1) → ((Z 10 x1 ≤ Z 46 2 → z = Z 10 x1) ∧ (Z 46 2 < Z 10 x1 → z = Z 46 2)))))) ∧ ((3 : Int) = 2 → ((Z 48 3 = 1 → z = -6) ∧ (Z 48 3 = 0 → ((x1 < 0 ∨ Z 7 5 ≤ x1) → z = -3) ∧ (¬ (x1 < 0 ∨ Z 7 5 ≤ x1) → ((Z 10 x1 ≤ Z 48 2 → z = Z 10 x1) ∧ (Z 48 2 < Z 10 x1 → z = Z 48 2)))))) ∧ ((3 : Int) = 3 → ((Z 50 3 = 1 → z = -6) ∧ (Z 50 3 = 0 → ((x1 < 0 ∨ Z 7 5 ≤ x1) → z = -3) ∧ (¬ (x1 < 0 ∨ Z 7 5 ≤ x1) → ((Z 10 x1 ≤ Z 50 2 → z = Z 10 x1) ∧ (Z 50 2 < Z 10 x1 → z = Z 50 2))))))))) hx hG p1 k0 k1 (fun z Z' h' q1 q2 q3 q4 => ⟨z, Z', h', rfl, q1, q2, q3, q4⟩))
  subst e; exact ⟨z, Z', h', hca, q⟩
set_option maxRecDepth 100000 in
theorem cw_130_1_n {l : Launch} {D : va_G} {b0 : Nat} {ad : Nat → Nat} {Hb : Heap} {tau : Nat → Int64} {d n s : Nat} {S : Nat → xS} {Z : xZ} {h : mx_H} {Post : mx_R → Prop} (hx : XH n s S Z h) (hG : GI n S Z)  {x0 x1 : Int} (p0 : (-2147483648) ≤ x0 ∧ x0 ≤ (-1)) (p1 : (-2147483648) ≤ x1 ∧ x1 ≤ 2147483647) (k0 : CTB Z (Z 7 4)) (k1 : 1 ≤ Z 7 4) (hP : ∀ z : Int, ((¬ x0 = 0 ∨ z < 0) → ∀ i, Z 45 i = Z 45 i) ∧ (x0 = 0 → 0 ≤ z → LI (hpk (Z 7 4) x1) (Z 45) (Z 45) z) ∧ ((¬ x0 = 1 ∨ z < 0) → ∀ i, Z 47 i = Z 47 i) ∧ (x0 = 1 → 0 ≤ z → LI (hpk (Z 7 4) x1) (Z 47) (Z 47) z) ∧ ((¬ x0 = 2 ∨ z < 0) → ∀ i, Z 49 i = Z 49 i) ∧ (x0 = 2 → 0 ≤ z → LI (hpk (Z 7 4) x1) (Z 49) (Z 49) z) ∧ ((¬ x0 = 3 ∨ z < 0) → ∀ i, Z 51 i = Z 51 i) ∧ (x0 = 3 → 0 ≤ z → LI (hpk (Z 7 4) x1) (Z 51) (Z 51) z) ∧ (-2) ≤ z ∧ z ≤ (-2) ∧ (((x0 < 0 ∨ 3 < x0) → z = -2) ∧ (x0 = 0 → ((Z 44 3 = 1 → z = -6) ∧ (Z 44 3 = 0 → ((x1 < 0 ∨ Z 7 5 ≤ x1) → z = -3) ∧ (¬ (x1 < 0 ∨ Z 7 5 ≤ x1) → ((Z 10 x1 ≤ Z 44 2 → z = Z 10 x1) ∧ (Z 44 2 < Z 10 x1 → z = Z 44 2)))))) ∧ (x0 = 1 → ((Z 46 3 = 1 → z = -6) ∧ (Z 46 3 = 0 → ((x1 < 0 ∨ Z 7 5 ≤ x1) → z = -3) ∧ (¬ (x1 < 0 ∨ Z 7 5 ≤ x1) → ((Z 10 x1 ≤ Z 46 2 → z = Z 10 x1) ∧ (Z 46 2 < Z 10 x1 → z = Z 46 2)))))) ∧ (x0 = 2 → ((Z 48 3 = 1 → z = -6) ∧ (Z 48 3 = 0 → ((x1 < 0 ∨ Z 7 5 ≤ x1) → z = -3) ∧ (¬ (x1 < 0 ∨ Z 7 5 ≤ x1) → ((Z 10 x1 ≤ Z 48 2 → z = Z 10 x1) ∧ (Z 48 2 < Z 10 x1 → z = Z 48 2)))))) ∧ (x0 = 3 → ((Z 50 3 = 1 → z = -6) ∧ (Z 50 3 = 0 → ((x1 < 0 ∨ Z 7 5 ≤ x1) → z = -3) ∧ (¬ (x1 < 0 ∨ Z 7 5 ≤ x1) → ((Z 10 x1 ≤ Z 50 2 → z = Z 10 x1) ∧ (Z 50 2 < Z 10 x1 → z = Z 50 2))))))) → Post (some (xI z), h)) : mx_J (tB l D b0 ad Hb tau) mt_130 (d + 1) 0 [some (.ref 1), some (xI x0), some (xI x1), none, none] [] h Post := by
    have a1 : 1 < n := lt83 (GI_n hG) rfl
    have s1 : S 1 = .inl (11, [2, 0, 0, 0, 2, 2, 2, 2, 2, 2, 2, 2, 2, 2, 2, 2, 2]) := GI_s hG 1 rfl
    refine mx_J.step (sn_130 0) (fun _ _ => rfl) ?_
    refine mx_J.step (sn_130 1) (fun _ _ => rfl) ?_
    obtain ⟨z1, hc1, b1⟩ := ct_144_1_n (d := d + 0) (l := l) (D := D) (b0 := b0) (ad := ad) (Hb := Hb) (tau := tau) hx hG (show (-2147483648) ≤ x0 ∧ x0 ≤ (-1) by omega)
    refine Jcv hx (show mx_Sn _ _ 2 (mx_callv 144 2 11 5) from sn_130 2) a1 s1 hc1 rfl rfl rfl ?_
    refine Jif_eq (show mx_Sn _ _ 5 (mx_if_eq 11 8) from sn_130 5) (by omega) (fun q2 => ?_) (fun q2 => ?_)
    · skip
      exfalso; omega
    · skip
      refine JcI (z := (-2)) (show mx_Sn _ _ 8 (mx_const (.int (-2)) 10) from sn_130 8) rfl ?_
      have b3 : 0 ≤ Z 7 5 ∧ Z 7 5 ≤ 385 := hG.pr 7 5
      have b4 : 0 ≤ Z 10 x1 ∧ Z 10 x1 ≤ 18 := hG.pr 10 x1
      have b5 : 0 ≤ Z 44 2 ∧ Z 44 2 ≤ 40 := hG.pr 44 2
      have b6 : 0 ≤ Z 44 3 ∧ Z 44 3 ≤ 1 := hG.pr 44 3
      have b7 : 0 ≤ Z 46 2 ∧ Z 46 2 ≤ 40 := hG.pr 46 2
      have b8 : 0 ≤ Z 46 3 ∧ Z 46 3 ≤ 1 := hG.pr 46 3
      have b9 : 0 ≤ Z 48 2 ∧ Z 48 2 ≤ 40 := hG.pr 48 2
      have b10 : 0 ≤ Z 48 3 ∧ Z 48 3 ≤ 1 := hG.pr 48 3
      have b11 : 0 ≤ Z 50 2 ∧ Z 50 2 ≤ 40 := hG.pr 50 2
      have b12 : 0 ≤ Z 50 3 ∧ Z 50 3 ≤ 1 := hG.pr 50 3
      exact mx_J.ret (sn_130 10) (fun _ _ => rfl) (hP (-2) ⟨(fun _ => (fun i => rfl)), (fun _ q => absurd q (by decide)), (fun _ => (fun i => rfl)), (fun _ q => absurd q (by decide)), (fun _ => (fun i => rfl)), (fun _ q => absurd q (by decide)), (fun _ => (fun i => rfl)), (fun _ q => absurd q (by decide)), by omega⟩)
theorem ct_130_1_n {l : Launch} {D : va_G} {b0 : Nat} {ad : Nat → Nat} {Hb : Heap} {tau : Nat → Int64} {d n s : Nat} {S : Nat → xS} {Z : xZ} {h : mx_H} (hx : XH n s S Z h) (hG : GI n S Z)  {x0 x1 : Int} (p0 : (-2147483648) ≤ x0 ∧ x0 ≤ (-1)) (p1 : (-2147483648) ≤ x1 ∧ x1 ≤ 2147483647) (k0 : CTB Z (Z 7 4)) (k1 : 1 ≤ Z 7 4) : ∃ z : Int, mx_Ca (tB l D b0 ad Hb tau) (d + 2) 130 [.ref 1, xI x0, xI x1] h (some (xI z), h) ∧ (((¬ x0 = 0 ∨ z < 0) → ∀ i, Z 45 i = Z 45 i) ∧ (x0 = 0 → 0 ≤ z → LI (hpk (Z 7 4) x1) (Z 45) (Z 45) z) ∧ ((¬ x0 = 1 ∨ z < 0) → ∀ i, Z 47 i = Z 47 i) ∧ (x0 = 1 → 0 ≤ z → LI (hpk (Z 7 4) x1) (Z 47) (Z 47) z) ∧ ((¬ x0 = 2 ∨ z < 0) → ∀ i, Z 49 i = Z 49 i) ∧ (x0 = 2 → 0 ≤ z → LI (hpk (Z 7 4) x1) (Z 49) (Z 49) z) ∧ ((¬ x0 = 3 ∨ z < 0) → ∀ i, Z 51 i = Z 51 i) ∧ (x0 = 3 → 0 ≤ z → LI (hpk (Z 7 4) x1) (Z 51) (Z 51) z) ∧ (-2) ≤ z ∧ z ≤ (-2) ∧ (((x0 < 0 ∨ 3 < x0) → z = -2) ∧ (x0 = 0 → ((Z 44 3 = 1 → z = -6) ∧ (Z 44 3 = 0 → ((x1 < 0 ∨ Z 7 5 ≤ x1) → z = -3) ∧ (¬ (x1 < 0 ∨ Z 7 5 ≤ x1) → ((Z 10 x1 ≤ Z 44 2 → z = Z 10 x1) ∧ (Z 44 2 < Z 10 x1 → z = Z 44 2)))))) ∧ (x0 = 1 → ((Z 46 3 = 1 → z = -6) ∧ (Z 46 3 = 0 → ((x1 < 0 ∨ Z 7 5 ≤ x1) → z = -3) ∧ (¬ (x1 < 0 ∨ Z 7 5 ≤ x1) → ((Z 10 x1 ≤ Z 46 2 → z = Z 10 x1) ∧ (Z 46 2 < Z 10 x1 → z = Z 46 2)))))) ∧ (x0 = 2 → ((Z 48 3 = 1 → z = -6) ∧ (Z 48 3 = 0 → ((x1 < 0 ∨ Z 7 5 ≤ x1) → z = -3) ∧ (¬ (x1 < 0 ∨ Z 7 5 ≤ x1) → ((Z 10 x1 ≤ Z 48 2 → z = Z 10 x1) ∧ (Z 48 2 < Z 10 x1 → z = Z 48 2)))))) ∧ (x0 = 3 → ((Z 50 3 = 1 → z = -6) ∧ (Z 50 3 = 0 → ((x1 < 0 ∨ Z 7 5 ≤ x1) → z = -3) ∧ (¬ (x1 < 0 ∨ Z 7 5 ≤ x1) → ((Z 10 x1 ≤ Z 50 2 → z = Z 10 x1) ∧ (Z 50 2 < Z 10 x1 → z = Z 50 2)))))))) := by
  obtain ⟨r, hca, z, e, hp⟩ := Jmt (B := tB l D b0 ad Hb tau) (M := mt_130) (mi := 130) (as := [.ref 1, xI x0, xI x1]) (d := d + 1) (ls := [some (.ref 1), some (xI x0), some (xI x1), none, none]) rfl rfl rfl rfl rfl rfl (cw_130_1_n (l := l) (D := D) (b0 := b0) (ad := ad) (Hb := Hb) (tau := tau) (d := d) (Post := fun r => ∃ z : Int, r = (some (xI z), h) ∧ (((¬ x0 = 0 ∨ z < 0) → ∀ i, Z 45 i = Z 45 i) ∧ (x0 = 0 → 0 ≤ z → LI (hpk (Z 7 4) x1) (Z 45) (Z 45) z) ∧ ((¬ x0 = 1 ∨ z < 0) → ∀ i, Z 47 i = Z 47 i) ∧ (x0 = 1 → 0 ≤ z → LI (hpk (Z 7 4) x1) (Z 47) (Z 47) z) ∧ ((¬ x0 = 2 ∨ z < 0) → ∀ i, Z 49 i = Z 49 i) ∧ (x0 = 2 → 0 ≤ z → LI (hpk (Z 7 4) x1) (Z 49) (Z 49) z) ∧ ((¬ x0 = 3 ∨ z < 0) → ∀ i, Z 51 i = Z 51 i) ∧ (x0 = 3 → 0 ≤ z → LI (hpk (Z 7 4) x1) (Z 51) (Z 51) z) ∧ (-2) ≤ z ∧ z ≤ (-2) ∧ (((x0 < 0 ∨ 3 < x0) → z = -2) ∧ (x0 = 0 → ((Z 44 3 = 1 → z = -6) ∧ (Z 44 3 = 0 → ((x1 < 0 ∨ Z 7 5 ≤ x1) → z = -3) ∧ (¬ (x1 < 0 ∨ Z 7 5 ≤ x1) → ((Z 10 x1 ≤ Z 44 2 → z = Z 10 x1) ∧ (Z 44 2 < Z 10 x1 → z = Z 44 2)))))) ∧ (x0 = 1 → ((Z 46 3 = 1 → z = -6) ∧ (Z 46 3 = 0 → ((x1 < 0 ∨ Z 7 5 ≤ x1) → z = -3) ∧ (¬ (x1 < 0 ∨ Z 7 5 ≤ x1) → ((Z 10 x1 ≤ Z 46 2 → z = Z 10 x1) ∧ (Z 46 2 < Z 10 x1 → z = Z 46 2)))))) ∧ (x0 = 2 → ((Z 48 3 = 1 → z = -6) ∧ (Z 48 3 = 0 → ((x1 < 0 ∨ Z 7 5 ≤ x1) → z = -3) ∧ (¬ (x1 < 0 ∨ Z 7 5 ≤ x1) → ((Z 10 x1 ≤ Z 48 2 → z = Z 10 x1) ∧ (Z 48 2 < Z 10 x1 → z = Z 48 2)))))) ∧ (x0 = 3 → ((Z 50 3 = 1 → z = -6) ∧ (Z 50 3 = 0 → ((x1 < 0 ∨ Z 7 5 ≤ x1) → z = -3) ∧ (¬ (x1 < 0 ∨ Z 7 5 ≤ x1) → ((Z 10 x1 ≤ Z 50 2 → z = Z 10 x1) ∧ (Z 50 2 < Z 10 x1 → z = Z 50 2))))))))) hx hG p0 p1 k0 k1 (fun z hz => ⟨z, rfl, hz⟩))
  subst e; exact ⟨z, hca, hp⟩
set_option maxRecDepth 100000 in
theorem cw_130_1_p {l : Launch} {D : va_G} {b0 : Nat} {ad : Nat → Nat} {Hb : Heap} {tau : Nat → Int64} {d n s : Nat} {S : Nat → xS} {Z : xZ} {h : mx_H} {Post : mx_R → Prop} (hx : XH n s S Z h) (hG : GI n S Z)  {x0 x1 : Int} (p0 : 4 ≤ x0 ∧ x0 ≤ 2147483647) (p1 : (-2147483648) ≤ x1 ∧ x1 ≤ 2147483647) (k0 : CTB Z (Z 7 4)) (k1 : 1 ≤ Z 7 4) (hP : ∀ z : Int, ((¬ x0 = 0 ∨ z < 0) → ∀ i, Z 45 i = Z 45 i) ∧ (x0 = 0 → 0 ≤ z → LI (hpk (Z 7 4) x1) (Z 45) (Z 45) z) ∧ ((¬ x0 = 1 ∨ z < 0) → ∀ i, Z 47 i = Z 47 i) ∧ (x0 = 1 → 0 ≤ z → LI (hpk (Z 7 4) x1) (Z 47) (Z 47) z) ∧ ((¬ x0 = 2 ∨ z < 0) → ∀ i, Z 49 i = Z 49 i) ∧ (x0 = 2 → 0 ≤ z → LI (hpk (Z 7 4) x1) (Z 49) (Z 49) z) ∧ ((¬ x0 = 3 ∨ z < 0) → ∀ i, Z 51 i = Z 51 i) ∧ (x0 = 3 → 0 ≤ z → LI (hpk (Z 7 4) x1) (Z 51) (Z 51) z) ∧ (-2) ≤ z ∧ z ≤ (-2) ∧ (((x0 < 0 ∨ 3 < x0) → z = -2) ∧ (x0 = 0 → ((Z 44 3 = 1 → z = -6) ∧ (Z 44 3 = 0 → ((x1 < 0 ∨ Z 7 5 ≤ x1) → z = -3) ∧ (¬ (x1 < 0 ∨ Z 7 5 ≤ x1) → ((Z 10 x1 ≤ Z 44 2 → z = Z 10 x1) ∧ (Z 44 2 < Z 10 x1 → z = Z 44 2)))))) ∧ (x0 = 1 → ((Z 46 3 = 1 → z = -6) ∧ (Z 46 3 = 0 → ((x1 < 0 ∨ Z 7 5 ≤ x1) → z = -3) ∧ (¬ (x1 < 0 ∨ Z 7 5 ≤ x1) → ((Z 10 x1 ≤ Z 46 2 → z = Z 10 x1) ∧ (Z 46 2 < Z 10 x1 → z = Z 46 2)))))) ∧ (x0 = 2 → ((Z 48 3 = 1 → z = -6) ∧ (Z 48 3 = 0 → ((x1 < 0 ∨ Z 7 5 ≤ x1) → z = -3) ∧ (¬ (x1 < 0 ∨ Z 7 5 ≤ x1) → ((Z 10 x1 ≤ Z 48 2 → z = Z 10 x1) ∧ (Z 48 2 < Z 10 x1 → z = Z 48 2)))))) ∧ (x0 = 3 → ((Z 50 3 = 1 → z = -6) ∧ (Z 50 3 = 0 → ((x1 < 0 ∨ Z 7 5 ≤ x1) → z = -3) ∧ (¬ (x1 < 0 ∨ Z 7 5 ≤ x1) → ((Z 10 x1 ≤ Z 50 2 → z = Z 10 x1) ∧ (Z 50 2 < Z 10 x1 → z = Z 50 2))))))) → Post (some (xI z), h)) : mx_J (tB l D b0 ad Hb tau) mt_130 (d + 1) 0 [some (.ref 1), some (xI x0), some (xI x1), none, none] [] h Post := by
    have a1 : 1 < n := lt83 (GI_n hG) rfl
    have s1 : S 1 = .inl (11, [2, 0, 0, 0, 2, 2, 2, 2, 2, 2, 2, 2, 2, 2, 2, 2, 2]) := GI_s hG 1 rfl
    refine mx_J.step (sn_130 0) (fun _ _ => rfl) ?_
    refine mx_J.step (sn_130 1) (fun _ _ => rfl) ?_
    obtain ⟨z1, hc1, b1⟩ := ct_144_1_p (d := d + 0) (l := l) (D := D) (b0 := b0) (ad := ad) (Hb := Hb) (tau := tau) hx hG (show 4 ≤ x0 ∧ x0 ≤ 2147483647 by omega)
    refine Jcv hx (show mx_Sn _ _ 2 (mx_callv 144 2 11 5) from sn_130 2) a1 s1 hc1 rfl rfl rfl ?_
    refine Jif_eq (show mx_Sn _ _ 5 (mx_if_eq 11 8) from sn_130 5) (by omega) (fun q2 => ?_) (fun q2 => ?_)
    · skip
      exfalso; omega
    · skip
      refine JcI (z := (-2)) (show mx_Sn _ _ 8 (mx_const (.int (-2)) 10) from sn_130 8) rfl ?_
      have b3 : 0 ≤ Z 7 5 ∧ Z 7 5 ≤ 385 := hG.pr 7 5
      have b4 : 0 ≤ Z 10 x1 ∧ Z 10 x1 ≤ 18 := hG.pr 10 x1
      have b5 : 0 ≤ Z 44 2 ∧ Z 44 2 ≤ 40 := hG.pr 44 2
      have b6 : 0 ≤ Z 44 3 ∧ Z 44 3 ≤ 1 := hG.pr 44 3
      have b7 : 0 ≤ Z 46 2 ∧ Z 46 2 ≤ 40 := hG.pr 46 2
      have b8 : 0 ≤ Z 46 3 ∧ Z 46 3 ≤ 1 := hG.pr 46 3
      have b9 : 0 ≤ Z 48 2 ∧ Z 48 2 ≤ 40 := hG.pr 48 2
      have b10 : 0 ≤ Z 48 3 ∧ Z 48 3 ≤ 1 := hG.pr 48 3
      have b11 : 0 ≤ Z 50 2 ∧ Z 50 2 ≤ 40 := hG.pr 50 2
      have b12 : 0 ≤ Z 50 3 ∧ Z 50 3 ≤ 1 := hG.pr 50 3
      exact mx_J.ret (sn_130 10) (fun _ _ => rfl) (hP (-2) ⟨(fun _ => (fun i => rfl)), (fun _ q => absurd q (by decide)), (fun _ => (fun i => rfl)), (fun _ q => absurd q (by decide)), (fun _ => (fun i => rfl)), (fun _ q => absurd q (by decide)), (fun _ => (fun i => rfl)), (fun _ q => absurd q (by decide)), by omega⟩)
theorem ct_130_1_p {l : Launch} {D : va_G} {b0 : Nat} {ad : Nat → Nat} {Hb : Heap} {tau : Nat → Int64} {d n s : Nat} {S : Nat → xS} {Z : xZ} {h : mx_H} (hx : XH n s S Z h) (hG : GI n S Z)  {x0 x1 : Int} (p0 : 4 ≤ x0 ∧ x0 ≤ 2147483647) (p1 : (-2147483648) ≤ x1 ∧ x1 ≤ 2147483647) (k0 : CTB Z (Z 7 4)) (k1 : 1 ≤ Z 7 4) : ∃ z : Int, mx_Ca (tB l D b0 ad Hb tau) (d + 2) 130 [.ref 1, xI x0, xI x1] h (some (xI z), h) ∧ (((¬ x0 = 0 ∨ z < 0) → ∀ i, Z 45 i = Z 45 i) ∧ (x0 = 0 → 0 ≤ z → LI (hpk (Z 7 4) x1) (Z 45) (Z 45) z) ∧ ((¬ x0 = 1 ∨ z < 0) → ∀ i, Z 47 i = Z 47 i) ∧ (x0 = 1 → 0 ≤ z → LI (hpk (Z 7 4) x1) (Z 47) (Z 47) z) ∧ ((¬ x0 = 2 ∨ z < 0) → ∀ i, Z 49 i = Z 49 i) ∧ (x0 = 2 → 0 ≤ z → LI (hpk (Z 7 4) x1) (Z 49) (Z 49) z) ∧ ((¬ x0 = 3 ∨ z < 0) → ∀ i, Z 51 i = Z 51 i) ∧ (x0 = 3 → 0 ≤ z → LI (hpk (Z 7 4) x1) (Z 51) (Z 51) z) ∧ (-2) ≤ z ∧ z ≤ (-2) ∧ (((x0 < 0 ∨ 3 < x0) → z = -2) ∧ (x0 = 0 → ((Z 44 3 = 1 → z = -6) ∧ (Z 44 3 = 0 → ((x1 < 0 ∨ Z 7 5 ≤ x1) → z = -3) ∧ (¬ (x1 < 0 ∨ Z 7 5 ≤ x1) → ((Z 10 x1 ≤ Z 44 2 → z = Z 10 x1) ∧ (Z 44 2 < Z 10 x1 → z = Z 44 2)))))) ∧ (x0 = 1 → ((Z 46 3 = 1 → z = -6) ∧ (Z 46 3 = 0 → ((x1 < 0 ∨ Z 7 5 ≤ x1) → z = -3) ∧ (¬ (x1 < 0 ∨ Z 7 5 ≤ x1) → ((Z 10 x1 ≤ Z 46 2 → z = Z 10 x1) ∧ (Z 46 2 < Z 10 x1 → z = Z 46 2)))))) ∧ (x0 = 2 → ((Z 48 3 = 1 → z = -6) ∧ (Z 48 3 = 0 → ((x1 < 0 ∨ Z 7 5 ≤ x1) → z = -3) ∧ (¬ (x1 < 0 ∨ Z 7 5 ≤ x1) → ((Z 10 x1 ≤ Z 48 2 → z = Z 10 x1) ∧ (Z 48 2 < Z 10 x1 → z = Z 48 2)))))) ∧ (x0 = 3 → ((Z 50 3 = 1 → z = -6) ∧ (Z 50 3 = 0 → ((x1 < 0 ∨ Z 7 5 ≤ x1) → z = -3) ∧ (¬ (x1 < 0 ∨ Z 7 5 ≤ x1) → ((Z 10 x1 ≤ Z 50 2 → z = Z 10 x1) ∧ (Z 50 2 < Z 10 x1 → z = Z 50 2)))))))) := by
  obtain ⟨r, hca, z, e, hp⟩ := Jmt (B := tB l D b0 ad Hb tau) (M := mt_130) (mi := 130) (as := [.ref 1, xI x0, xI x1]) (d := d + 1) (ls := [some (.ref 1), some (xI x0), some (xI x1), none, none]) rfl rfl rfl rfl rfl rfl (cw_130_1_p (l := l) (D := D) (b0 := b0) (ad := ad) (Hb := Hb) (tau := tau) (d := d) (Post := fun r => ∃ z : Int, r = (some (xI z), h) ∧ (((¬ x0 = 0 ∨ z < 0) → ∀ i, Z 45 i = Z 45 i) ∧ (x0 = 0 → 0 ≤ z → LI (hpk (Z 7 4) x1) (Z 45) (Z 45) z) ∧ ((¬ x0 = 1 ∨ z < 0) → ∀ i, Z 47 i = Z 47 i) ∧ (x0 = 1 → 0 ≤ z → LI (hpk (Z 7 4) x1) (Z 47) (Z 47) z) ∧ ((¬ x0 = 2 ∨ z < 0) → ∀ i, Z 49 i = Z 49 i) ∧ (x0 = 2 → 0 ≤ z → LI (hpk (Z 7 4) x1) (Z 49) (Z 49) z) ∧ ((¬ x0 = 3 ∨ z < 0) → ∀ i, Z 51 i = Z 51 i) ∧ (x0 = 3 → 0 ≤ z → LI (hpk (Z 7 4) x1) (Z 51) (Z 51) z) ∧ (-2) ≤ z ∧ z ≤ (-2) ∧ (((x0 < 0 ∨ 3 < x0) → z = -2) ∧ (x0 = 0 → ((Z 44 3 = 1 → z = -6) ∧ (Z 44 3 = 0 → ((x1 < 0 ∨ Z 7 5 ≤ x1) → z = -3) ∧ (¬ (x1 < 0 ∨ Z 7 5 ≤ x1) → ((Z 10 x1 ≤ Z 44 2 → z = Z 10 x1) ∧ (Z 44 2 < Z 10 x1 → z = Z 44 2)))))) ∧ (x0 = 1 → ((Z 46 3 = 1 → z = -6) ∧ (Z 46 3 = 0 → ((x1 < 0 ∨ Z 7 5 ≤ x1) → z = -3) ∧ (¬ (x1 < 0 ∨ Z 7 5 ≤ x1) → ((Z 10 x1 ≤ Z 46 2 → z = Z 10 x1) ∧ (Z 46 2 < Z 10 x1 → z = Z 46 2)))))) ∧ (x0 = 2 → ((Z 48 3 = 1 → z = -6) ∧ (Z 48 3 = 0 → ((x1 < 0 ∨ Z 7 5 ≤ x1) → z = -3) ∧ (¬ (x1 < 0 ∨ Z 7 5 ≤ x1) → ((Z 10 x1 ≤ Z 48 2 → z = Z 10 x1) ∧ (Z 48 2 < Z 10 x1 → z = Z 48 2)))))) ∧ (x0 = 3 → ((Z 50 3 = 1 → z = -6) ∧ (Z 50 3 = 0 → ((x1 < 0 ∨ Z 7 5 ≤ x1) → z = -3) ∧ (¬ (x1 < 0 ∨ Z 7 5 ≤ x1) → ((Z 10 x1 ≤ Z 50 2 → z = Z 10 x1) ∧ (Z 50 2 < Z 10 x1 → z = Z 50 2))))))))) hx hG p0 p1 k0 k1 (fun z hz => ⟨z, rfl, hz⟩))
  subst e; exact ⟨z, hca, hp⟩
theorem ct_130_1 {l : Launch} {D : va_G} {b0 : Nat} {ad : Nat → Nat} {Hb : Heap} {tau : Nat → Int64} {d n s : Nat} {S : Nat → xS} {Z : xZ} {h : mx_H} (hx : XH n s S Z h) (hG : GI n S Z) {x0 x1 : Int} (p0 : (-2147483648) ≤ x0 ∧ x0 ≤ 2147483647) (p1 : (-2147483648) ≤ x1 ∧ x1 ≤ 2147483647) (k0 : CTB Z (Z 7 4)) (k1 : 1 ≤ Z 7 4) : ∃ (z : Int) (Z' : xZ) (h' : mx_H), mx_Ca (tB l D b0 ad Hb tau) (d + 3) 130 [.ref 1, xI x0, xI x1] h (some (xI z), h') ∧ XH n s S Z' h' ∧ GI n S Z' ∧ fr' [(45, (-1)), (47, (-1)), (49, (-1)), (51, (-1))] Z Z' ∧ (((¬ x0 = 0 ∨ z < 0) → ∀ i, Z' 45 i = Z 45 i) ∧ (x0 = 0 → 0 ≤ z → LI (hpk (Z 7 4) x1) (Z 45) (Z' 45) z) ∧ ((¬ x0 = 1 ∨ z < 0) → ∀ i, Z' 47 i = Z 47 i) ∧ (x0 = 1 → 0 ≤ z → LI (hpk (Z 7 4) x1) (Z 47) (Z' 47) z) ∧ ((¬ x0 = 2 ∨ z < 0) → ∀ i, Z' 49 i = Z 49 i) ∧ (x0 = 2 → 0 ≤ z → LI (hpk (Z 7 4) x1) (Z 49) (Z' 49) z) ∧ ((¬ x0 = 3 ∨ z < 0) → ∀ i, Z' 51 i = Z 51 i) ∧ (x0 = 3 → 0 ≤ z → LI (hpk (Z 7 4) x1) (Z 51) (Z' 51) z) ∧ (-6) ≤ z ∧ z ≤ 18 ∧ (((x0 < 0 ∨ 3 < x0) → z = -2) ∧ (x0 = 0 → ((Z 44 3 = 1 → z = -6) ∧ (Z 44 3 = 0 → ((x1 < 0 ∨ Z 7 5 ≤ x1) → z = -3) ∧ (¬ (x1 < 0 ∨ Z 7 5 ≤ x1) → ((Z 10 x1 ≤ Z 44 2 → z = Z 10 x1) ∧ (Z 44 2 < Z 10 x1 → z = Z 44 2)))))) ∧ (x0 = 1 → ((Z 46 3 = 1 → z = -6) ∧ (Z 46 3 = 0 → ((x1 < 0 ∨ Z 7 5 ≤ x1) → z = -3) ∧ (¬ (x1 < 0 ∨ Z 7 5 ≤ x1) → ((Z 10 x1 ≤ Z 46 2 → z = Z 10 x1) ∧ (Z 46 2 < Z 10 x1 → z = Z 46 2)))))) ∧ (x0 = 2 → ((Z 48 3 = 1 → z = -6) ∧ (Z 48 3 = 0 → ((x1 < 0 ∨ Z 7 5 ≤ x1) → z = -3) ∧ (¬ (x1 < 0 ∨ Z 7 5 ≤ x1) → ((Z 10 x1 ≤ Z 48 2 → z = Z 10 x1) ∧ (Z 48 2 < Z 10 x1 → z = Z 48 2)))))) ∧ (x0 = 3 → ((Z 50 3 = 1 → z = -6) ∧ (Z 50 3 = 0 → ((x1 < 0 ∨ Z 7 5 ≤ x1) → z = -3) ∧ (¬ (x1 < 0 ∨ Z 7 5 ≤ x1) → ((Z 10 x1 ≤ Z 50 2 → z = Z 10 x1) ∧ (Z 50 2 < Z 10 x1 → z = Z 50 2)))))))) := by
  have hc : x0 = 0 ∨ x0 = 1 ∨ x0 = 2 ∨ x0 = 3 ∨ ((-2147483648) ≤ x0 ∧ x0 ≤ (-1)) ∨ (4 ≤ x0 ∧ x0 ≤ 2147483647) := by omega
  rcases hc with hc | hc | hc | hc | hc | hc
  · subst hc
    obtain ⟨z, Z', h', hca, q1, q2, q3, b⟩ := ct_130_1_i0 (d := d + 0) (l := l) (D := D) (b0 := b0) (ad := ad) (Hb := Hb) (tau := tau) hx hG p1 k0 k1
    exact ⟨z, Z', h', hca, q1, q2, fr_tr (M1 := []) fr_rf q3 rfl rfl, ⟨b.1, b.2.1, b.2.2.1, b.2.2.2.1, b.2.2.2.2.1, b.2.2.2.2.2.1, b.2.2.2.2.2.2.1, b.2.2.2.2.2.2.2.1, Int.le_trans (by decide) b.2.2.2.2.2.2.2.2.1, Int.le_trans b.2.2.2.2.2.2.2.2.2.1 (by decide), b.2.2.2.2.2.2.2.2.2.2⟩⟩
  · subst hc
    obtain ⟨z, Z', h', hca, q1, q2, q3, b⟩ := ct_130_1_i1 (d := d + 0) (l := l) (D := D) (b0 := b0) (ad := ad) (Hb := Hb) (tau := tau) hx hG p1 k0 k1
    exact ⟨z, Z', h', hca, q1, q2, fr_tr (M1 := []) fr_rf q3 rfl rfl, ⟨b.1, b.2.1, b.2.2.1, b.2.2.2.1, b.2.2.2.2.1, b.2.2.2.2.2.1, b.2.2.2.2.2.2.1, b.2.2.2.2.2.2.2.1, Int.le_trans (by decide) b.2.2.2.2.2.2.2.2.1, Int.le_trans b.2.2.2.2.2.2.2.2.2.1 (by decide), b.2.2.2.2.2.2.2.2.2.2⟩⟩
  · subst hc
    obtain ⟨z, Z', h', hca, q1, q2, q3, b⟩ := ct_130_1_i2 (d := d + 0) (l := l) (D := D) (b0 := b0) (ad := ad) (Hb := Hb) (tau := tau) hx hG p1 k0 k1
    exact ⟨z, Z', h', hca, q1, q2, fr_tr (M1 := []) fr_rf q3 rfl rfl, ⟨b.1, b.2.1, b.2.2.1, b.2.2.2.1, b.2.2.2.2.1, b.2.2.2.2.2.1, b.2.2.2.2.2.2.1, b.2.2.2.2.2.2.2.1, Int.le_trans (by decide) b.2.2.2.2.2.2.2.2.1, Int.le_trans b.2.2.2.2.2.2.2.2.2.1 (by decide), b.2.2.2.2.2.2.2.2.2.2⟩⟩
  · subst hc
    obtain ⟨z, Z', h', hca, q1, q2, q3, b⟩ := ct_130_1_i3 (d := d + 0) (l := l) (D := D) (b0 := b0) (ad := ad) (Hb := Hb) (tau := tau) hx hG p1 k0 k1
    exact ⟨z, Z', h', hca, q1, q2, fr_tr (M1 := []) fr_rf q3 rfl rfl, ⟨b.1, b.2.1, b.2.2.1, b.2.2.2.1, b.2.2.2.2.1, b.2.2.2.2.2.1, b.2.2.2.2.2.2.1, b.2.2.2.2.2.2.2.1, Int.le_trans (by decide) b.2.2.2.2.2.2.2.2.1, Int.le_trans b.2.2.2.2.2.2.2.2.2.1 (by decide), b.2.2.2.2.2.2.2.2.2.2⟩⟩
  · skip
    obtain ⟨z, hca, b⟩ := ct_130_1_n (d := d + 1) (l := l) (D := D) (b0 := b0) (ad := ad) (Hb := Hb) (tau := tau) hx hG hc p1 k0 k1
    exact ⟨z, Z, h, hca, hx, hG, fr_rf, ⟨b.1, b.2.1, b.2.2.1, b.2.2.2.1, b.2.2.2.2.1, b.2.2.2.2.2.1, b.2.2.2.2.2.2.1, b.2.2.2.2.2.2.2.1, Int.le_trans (by decide) b.2.2.2.2.2.2.2.2.1, Int.le_trans b.2.2.2.2.2.2.2.2.2.1 (by decide), b.2.2.2.2.2.2.2.2.2.2⟩⟩
  · skip
    obtain ⟨z, hca, b⟩ := ct_130_1_p (d := d + 1) (l := l) (D := D) (b0 := b0) (ad := ad) (Hb := Hb) (tau := tau) hx hG hc p1 k0 k1
    exact ⟨z, Z, h, hca, hx, hG, fr_rf, ⟨b.1, b.2.1, b.2.2.1, b.2.2.2.1, b.2.2.2.2.1, b.2.2.2.2.2.1, b.2.2.2.2.2.2.1, b.2.2.2.2.2.2.2.1, Int.le_trans (by decide) b.2.2.2.2.2.2.2.2.1, Int.le_trans b.2.2.2.2.2.2.2.2.2.1 (by decide), b.2.2.2.2.2.2.2.2.2.2⟩⟩
set_option maxRecDepth 100000 in
theorem cw_287_ {l : Launch} {D : va_G} {b0 : Nat} {ad : Nat → Nat} {Hb : Heap} {tau : Nat → Int64} {d n s : Nat} {S : Nat → xS} {Z : xZ} {h : mx_H} {Post : mx_R → Prop} (hx : XH n s S Z h) (hG : GI n S Z)  {x0 x1 : Int} (p0 : 0 ≤ x0 ∧ x0 ≤ 100) (p1 : 0 ≤ x1 ∧ x1 ≤ 100) (k0 : x0 < x1) (hP : Post (none, h)) : mx_J (tB l D b0 ad Hb tau) mt_287 (d + 1) 0 [some (xI x0), some (xI x1)] [] h Post := by
    refine mx_J.step (sn_287 0) (fun _ _ => rfl) ?_
    refine mx_J.step (sn_287 1) (fun _ _ => rfl) ?_
    refine Jsio (show mx_Sn _ _ 2 (mx_sio 9) from sn_287 2) (by omega) (by omega) ⟨_, rfl⟩ rfl ?_
    exact mx_J.ret (sn_287 9) (fun _ _ => rfl) hP
theorem ct_287_ {l : Launch} {D : va_G} {b0 : Nat} {ad : Nat → Nat} {Hb : Heap} {tau : Nat → Int64} {d n s : Nat} {S : Nat → xS} {Z : xZ} {h : mx_H} (hx : XH n s S Z h) (hG : GI n S Z)  {x0 x1 : Int} (p0 : 0 ≤ x0 ∧ x0 ≤ 100) (p1 : 0 ≤ x1 ∧ x1 ≤ 100) (k0 : x0 < x1) : mx_Ca (tB l D b0 ad Hb tau) (d + 2) 287 [xI x0, xI x1] h (none, h) := by
  obtain ⟨r, hca, e⟩ := Jmt (B := tB l D b0 ad Hb tau) (M := mt_287) (mi := 287) (as := [xI x0, xI x1]) (d := d + 1) (ls := [some (xI x0), some (xI x1)]) rfl rfl rfl rfl rfl rfl (cw_287_ (l := l) (D := D) (b0 := b0) (ad := ad) (Hb := Hb) (tau := tau) (d := d) (Post := fun r => r = (none, h)) hx hG p0 p1 k0 rfl)
  subst e; exact hca
set_option maxRecDepth 100000 in
theorem cw_290_4096 {l : Launch} {D : va_G} {b0 : Nat} {ad : Nat → Nat} {Hb : Heap} {tau : Nat → Int64} {d n s : Nat} {S : Nat → xS} {Z : xZ} {h : mx_H} {Post : mx_R → Prop} (hx : XH n s S Z h) (hG : GI n S Z)   (hP : ∀ z : Int, 0 ≤ z ∧ z ≤ 0 → Post (some (xI z), h)) : mx_J (tB l D b0 ad Hb tau) mt_290 (d + 0) 0 [some (.ref 4096)] [] h Post := by
    refine JcI (z := 1) (show mx_Sn _ _ 0 (mx_const (.int 1) 3) from sn_290 0) rfl ?_
    refine Jif_eq (show mx_Sn _ _ 3 (mx_if_eq 13 6) from sn_290 3) (by omega) (fun q1 => ?_) (fun q1 => ?_)
    · skip
      exfalso; omega
    · skip
      refine mx_J.step (sn_290 6) (fun _ _ => rfl) ?_
      refine Jscod (L := sb_0) (show mx_Sn _ _ 7 (mx_scod 10) from sn_290 7) rfl ?_
      refine mx_J.step (sn_290 10) (fun _ _ => rfl) ?_
      exact mx_J.ret (show mx_Sn _ _ 14 (mx_nret .byte) from sn_290 14) (fun _ _ => nr_ok_byte (by omega)) (hP 0 (by omega))
theorem ct_290_4096 {l : Launch} {D : va_G} {b0 : Nat} {ad : Nat → Nat} {Hb : Heap} {tau : Nat → Int64} {d n s : Nat} {S : Nat → xS} {Z : xZ} {h : mx_H} (hx : XH n s S Z h) (hG : GI n S Z)   : ∃ z : Int, mx_Ca (tB l D b0 ad Hb tau) (d + 1) 290 [.ref 4096] h (some (xI z), h) ∧ (0 ≤ z ∧ z ≤ 0) := by
  obtain ⟨r, hca, z, e, hp⟩ := Jmt (B := tB l D b0 ad Hb tau) (M := mt_290) (mi := 290) (as := [.ref 4096]) (d := d + 0) (ls := [some (.ref 4096)]) rfl rfl rfl rfl rfl rfl (cw_290_4096 (l := l) (D := D) (b0 := b0) (ad := ad) (Hb := Hb) (tau := tau) (d := d) (Post := fun r => ∃ z : Int, r = (some (xI z), h) ∧ (0 ≤ z ∧ z ≤ 0)) hx hG  (fun z hz => ⟨z, rfl, hz⟩))
  subst e; exact ⟨z, hca, hp⟩
set_option maxRecDepth 100000 in
theorem cw_289_4096 {l : Launch} {D : va_G} {b0 : Nat} {ad : Nat → Nat} {Hb : Heap} {tau : Nat → Int64} {d n s : Nat} {S : Nat → xS} {Z : xZ} {h : mx_H} {Post : mx_R → Prop} (hx : XH n s S Z h) (hG : GI n S Z)   (hP : ∀ z : Int, 1 ≤ z ∧ z ≤ 1 → Post (some (xI z), h)) : mx_J (tB l D b0 ad Hb tau) mt_289 (d + 0) 0 [some (.ref 4096)] [] h Post := by
    refine JcI (z := 1) (show mx_Sn _ _ 0 (mx_const (.int 1) 3) from sn_289 0) rfl ?_
    refine Jif_eq (show mx_Sn _ _ 3 (mx_if_eq 17 6) from sn_289 3) (by omega) (fun q1 => ?_) (fun q1 => ?_)
    · skip
      exfalso; omega
    · skip
      refine mx_J.step (sn_289 6) (fun _ _ => rfl) ?_
      refine Jscod (L := sb_0) (show mx_Sn _ _ 7 (mx_scod 10) from sn_289 7) rfl ?_
      refine Jif_ne (show mx_Sn _ _ 10 (mx_if_ne 17 13) from sn_289 10) (by omega) (fun q2 => ?_) (fun q2 => ?_)
      · skip
        exfalso; omega
      · skip
        refine JcI (z := 1) (show mx_Sn _ _ 13 (mx_const (.int 1) 14) from sn_289 13) rfl ?_
        refine mx_J.step (sn_289 14) (fun _ _ => rfl) ?_
        exact mx_J.ret (show mx_Sn _ _ 18 (mx_zret) from sn_289 18) (fun _ _ => zr_ok (by omega)) (hP 1 (by omega))
theorem ct_289_4096 {l : Launch} {D : va_G} {b0 : Nat} {ad : Nat → Nat} {Hb : Heap} {tau : Nat → Int64} {d n s : Nat} {S : Nat → xS} {Z : xZ} {h : mx_H} (hx : XH n s S Z h) (hG : GI n S Z)   : ∃ z : Int, mx_Ca (tB l D b0 ad Hb tau) (d + 1) 289 [.ref 4096] h (some (xI z), h) ∧ (1 ≤ z ∧ z ≤ 1) := by
  obtain ⟨r, hca, z, e, hp⟩ := Jmt (B := tB l D b0 ad Hb tau) (M := mt_289) (mi := 289) (as := [.ref 4096]) (d := d + 0) (ls := [some (.ref 4096)]) rfl rfl rfl rfl rfl rfl (cw_289_4096 (l := l) (D := D) (b0 := b0) (ad := ad) (Hb := Hb) (tau := tau) (d := d) (Post := fun r => ∃ z : Int, r = (some (xI z), h) ∧ (1 ≤ z ∧ z ≤ 1)) hx hG  (fun z hz => ⟨z, rfl, hz⟩))
  subst e; exact ⟨z, hca, hp⟩
set_option maxRecDepth 100000 in
theorem cw_291_4096 {l : Launch} {D : va_G} {b0 : Nat} {ad : Nat → Nat} {Hb : Heap} {tau : Nat → Int64} {d n s : Nat} {S : Nat → xS} {Z : xZ} {h : mx_H} {Post : mx_R → Prop} (hx : XH n s S Z h) (hG : GI n S Z)   (hP : ∀ z : Int, 76 ≤ z ∧ z ≤ 76 → Post (some (xI z), h)) : mx_J (tB l D b0 ad Hb tau) mt_291 (d + 1) 0 [some (.ref 4096)] [] h Post := by
    refine mx_J.step (sn_291 0) (fun _ _ => rfl) ?_
    refine mx_J.step (sn_291 1) (fun _ _ => rfl) ?_
    refine Jsalen (L := sb_0) (z := 76) (show mx_Sn _ _ 4 (mx_salen 5) from sn_291 4) rfl rfl ?_
    refine mx_J.step (sn_291 5) (fun _ _ => rfl) ?_
    obtain ⟨z1, hc1, b1⟩ := ct_290_4096 (d := d + 0) (l := l) (D := D) (b0 := b0) (ad := ad) (Hb := Hb) (tau := tau) hx hG 
    refine Jck (show mx_Sn _ _ 6 (mx_callk 290 1 9) from sn_291 6) rfl hc1 rfl rfl rfl ?_
    refine Jishr0 (show mx_Sn _ _ 9 (mx_ishr 10) from sn_291 9) (by omega) ?_
    exact mx_J.ret (sn_291 10) (fun _ _ => rfl) (hP 76 (by omega))
theorem ct_291_4096 {l : Launch} {D : va_G} {b0 : Nat} {ad : Nat → Nat} {Hb : Heap} {tau : Nat → Int64} {d n s : Nat} {S : Nat → xS} {Z : xZ} {h : mx_H} (hx : XH n s S Z h) (hG : GI n S Z)   : ∃ z : Int, mx_Ca (tB l D b0 ad Hb tau) (d + 2) 291 [.ref 4096] h (some (xI z), h) ∧ (76 ≤ z ∧ z ≤ 76) := by
  obtain ⟨r, hca, z, e, hp⟩ := Jmt (B := tB l D b0 ad Hb tau) (M := mt_291) (mi := 291) (as := [.ref 4096]) (d := d + 1) (ls := [some (.ref 4096)]) rfl rfl rfl rfl rfl rfl (cw_291_4096 (l := l) (D := D) (b0 := b0) (ad := ad) (Hb := Hb) (tau := tau) (d := d) (Post := fun r => ∃ z : Int, r = (some (xI z), h) ∧ (76 ≤ z ∧ z ≤ 76)) hx hG  (fun z hz => ⟨z, rfl, hz⟩))
  subst e; exact ⟨z, hca, hp⟩
set_option maxRecDepth 100000 in
theorem cw_288_4097 {l : Launch} {D : va_G} {b0 : Nat} {ad : Nat → Nat} {Hb : Heap} {tau : Nat → Int64} {d n s : Nat} {S : Nat → xS} {Z : xZ} {h : mx_H} {Post : mx_R → Prop} (hx : XH n s S Z h) (hG : GI n S Z)  {x0 : Int} (p0 : 0 ≤ x0 ∧ x0 ≤ 75) (hP : ∀ z : Int, 32 ≤ z ∧ z ≤ 122 ∧ z = cw0 x0 → Post (some (xI z), h)) : mx_J (tB l D b0 ad Hb tau) mt_288 (d + 2) 0 [some (.ref 4097), some (xI x0)] [] h Post := by
    refine mx_J.step (sn_288 0) (fun _ _ => rfl) ?_
    refine mx_J.step (sn_288 1) (fun _ _ => rfl) ?_
    refine Jsalen (L := sb_0) (z := 76) (show mx_Sn _ _ 2 (mx_salen 3) from sn_288 2) rfl rfl ?_
    have hc1 := ct_287_ (d := d + 0) (l := l) (D := D) (b0 := b0) (ad := ad) (Hb := Hb) (tau := tau) hx hG (show 0 ≤ x0 ∧ x0 ≤ 100 by omega) (show 0 ≤ 76 ∧ 76 ≤ 100 by omega) (show x0 < 76 by omega)
    refine Jcs0 (show mx_Sn _ _ 3 (mx_calls 287 2 6) from sn_288 3) hc1 rfl rfl rfl ?_
    refine mx_J.step (sn_288 6) (fun _ _ => rfl) ?_
    refine mx_J.step (sn_288 7) (fun _ _ => rfl) ?_
    refine Jsw_0 (show mx_Sn _ _ 8 (mx_sbald 9) from sn_288 8) rfl (by omega) (fun hy2 => ?_)
    refine JcI (z := 255) (show mx_Sn _ _ 9 (mx_const (.int 255) 12) from sn_288 9) rfl ?_
    refine JiandM (q := 256) 8 (show mx_Sn _ _ 12 (mx_iand 13) from sn_288 12) rfl rfl rfl ?_
    refine Ji2c (show mx_Sn _ _ 13 (mx_i2c 14) from sn_288 13) (by omega) ?_
    exact mx_J.ret (show mx_Sn _ _ 14 (mx_nret .char) from sn_288 14) (fun _ _ => nr_ok_char (by omega)) (hP ((cw0 x0) % 256) (by omega))
theorem ct_288_4097 {l : Launch} {D : va_G} {b0 : Nat} {ad : Nat → Nat} {Hb : Heap} {tau : Nat → Int64} {d n s : Nat} {S : Nat → xS} {Z : xZ} {h : mx_H} (hx : XH n s S Z h) (hG : GI n S Z)  {x0 : Int} (p0 : 0 ≤ x0 ∧ x0 ≤ 75) : ∃ z : Int, mx_Ca (tB l D b0 ad Hb tau) (d + 3) 288 [.ref 4097, xI x0] h (some (xI z), h) ∧ (32 ≤ z ∧ z ≤ 122 ∧ z = cw0 x0) := by
  obtain ⟨r, hca, z, e, hp⟩ := Jmt (B := tB l D b0 ad Hb tau) (M := mt_288) (mi := 288) (as := [.ref 4097, xI x0]) (d := d + 2) (ls := [some (.ref 4097), some (xI x0)]) rfl rfl rfl rfl rfl rfl (cw_288_4097 (l := l) (D := D) (b0 := b0) (ad := ad) (Hb := Hb) (tau := tau) (d := d) (Post := fun r => ∃ z : Int, r = (some (xI z), h) ∧ (32 ≤ z ∧ z ≤ 122 ∧ z = cw0 x0)) hx hG p0 (fun z hz => ⟨z, rfl, hz⟩))
  subst e; exact ⟨z, hca, hp⟩
set_option maxRecDepth 100000 in
theorem cw_292_4096 {l : Launch} {D : va_G} {b0 : Nat} {ad : Nat → Nat} {Hb : Heap} {tau : Nat → Int64} {d n s : Nat} {S : Nat → xS} {Z : xZ} {h : mx_H} {Post : mx_R → Prop} (hx : XH n s S Z h) (hG : GI n S Z)  {x0 : Int} (p0 : 0 ≤ x0 ∧ x0 ≤ 75) (hP : ∀ z : Int, 32 ≤ z ∧ z ≤ 122 ∧ z = cw0 x0 → Post (some (xI z), h)) : mx_J (tB l D b0 ad Hb tau) mt_292 (d + 3) 0 [some (.ref 4096), some (xI x0)] [] h Post := by
    refine mx_J.step (sn_292 0) (fun _ _ => rfl) ?_
    obtain ⟨z1, hc1, b1⟩ := ct_289_4096 (d := d + 2) (l := l) (D := D) (b0 := b0) (ad := ad) (Hb := Hb) (tau := tau) hx hG 
    refine Jck (show mx_Sn _ _ 1 (mx_callk 289 1 4) from sn_292 1) rfl hc1 rfl rfl rfl ?_
    refine Jif_eq (show mx_Sn _ _ 4 (mx_if_eq 16 7) from sn_292 4) (by omega) (fun q2 => ?_) (fun q2 => ?_)
    · skip
      exfalso; omega
    · skip
      refine mx_J.step (sn_292 7) (fun _ _ => rfl) ?_
      refine mx_J.step (sn_292 8) (fun _ _ => rfl) ?_
      refine mx_J.step (sn_292 11) (fun _ _ => rfl) ?_
      obtain ⟨z3, hc3, b3⟩ := ct_288_4097 (d := d + 0) (l := l) (D := D) (b0 := b0) (ad := ad) (Hb := Hb) (tau := tau) hx hG (show 0 ≤ x0 ∧ x0 ≤ 75 by omega)
      refine Jcs (show mx_Sn _ _ 12 (mx_calls 288 2 15) from sn_292 12) hc3 rfl rfl rfl ?_
      exact mx_J.ret (show mx_Sn _ _ 15 (mx_nret .char) from sn_292 15) (fun _ _ => nr_ok_char (by omega)) (hP z3 (by omega))
theorem ct_292_4096 {l : Launch} {D : va_G} {b0 : Nat} {ad : Nat → Nat} {Hb : Heap} {tau : Nat → Int64} {d n s : Nat} {S : Nat → xS} {Z : xZ} {h : mx_H} (hx : XH n s S Z h) (hG : GI n S Z)  {x0 : Int} (p0 : 0 ≤ x0 ∧ x0 ≤ 75) : ∃ z : Int, mx_Ca (tB l D b0 ad Hb tau) (d + 4) 292 [.ref 4096, xI x0] h (some (xI z), h) ∧ (32 ≤ z ∧ z ≤ 122 ∧ z = cw0 x0) := by
  obtain ⟨r, hca, z, e, hp⟩ := Jmt (B := tB l D b0 ad Hb tau) (M := mt_292) (mi := 292) (as := [.ref 4096, xI x0]) (d := d + 3) (ls := [some (.ref 4096), some (xI x0)]) rfl rfl rfl rfl rfl rfl (cw_292_4096 (l := l) (D := D) (b0 := b0) (ad := ad) (Hb := Hb) (tau := tau) (d := d) (Post := fun r => ∃ z : Int, r = (some (xI z), h) ∧ (32 ≤ z ∧ z ≤ 122 ∧ z = cw0 x0)) hx hG p0 (fun z hz => ⟨z, rfl, hz⟩))
  subst e; exact ⟨z, hca, hp⟩
set_option maxRecDepth 100000 in
theorem cw_290_4098 {l : Launch} {D : va_G} {b0 : Nat} {ad : Nat → Nat} {Hb : Heap} {tau : Nat → Int64} {d n s : Nat} {S : Nat → xS} {Z : xZ} {h : mx_H} {Post : mx_R → Prop} (hx : XH n s S Z h) (hG : GI n S Z)   (hP : ∀ z : Int, 0 ≤ z ∧ z ≤ 0 → Post (some (xI z), h)) : mx_J (tB l D b0 ad Hb tau) mt_290 (d + 0) 0 [some (.ref 4098)] [] h Post := by
    refine JcI (z := 1) (show mx_Sn _ _ 0 (mx_const (.int 1) 3) from sn_290 0) rfl ?_
    refine Jif_eq (show mx_Sn _ _ 3 (mx_if_eq 13 6) from sn_290 3) (by omega) (fun q1 => ?_) (fun q1 => ?_)
    · skip
      exfalso; omega
    · skip
      refine mx_J.step (sn_290 6) (fun _ _ => rfl) ?_
      refine Jscod (L := sb_1) (show mx_Sn _ _ 7 (mx_scod 10) from sn_290 7) rfl ?_
      refine mx_J.step (sn_290 10) (fun _ _ => rfl) ?_
      exact mx_J.ret (show mx_Sn _ _ 14 (mx_nret .byte) from sn_290 14) (fun _ _ => nr_ok_byte (by omega)) (hP 0 (by omega))
theorem ct_290_4098 {l : Launch} {D : va_G} {b0 : Nat} {ad : Nat → Nat} {Hb : Heap} {tau : Nat → Int64} {d n s : Nat} {S : Nat → xS} {Z : xZ} {h : mx_H} (hx : XH n s S Z h) (hG : GI n S Z)   : ∃ z : Int, mx_Ca (tB l D b0 ad Hb tau) (d + 1) 290 [.ref 4098] h (some (xI z), h) ∧ (0 ≤ z ∧ z ≤ 0) := by
  obtain ⟨r, hca, z, e, hp⟩ := Jmt (B := tB l D b0 ad Hb tau) (M := mt_290) (mi := 290) (as := [.ref 4098]) (d := d + 0) (ls := [some (.ref 4098)]) rfl rfl rfl rfl rfl rfl (cw_290_4098 (l := l) (D := D) (b0 := b0) (ad := ad) (Hb := Hb) (tau := tau) (d := d) (Post := fun r => ∃ z : Int, r = (some (xI z), h) ∧ (0 ≤ z ∧ z ≤ 0)) hx hG  (fun z hz => ⟨z, rfl, hz⟩))
  subst e; exact ⟨z, hca, hp⟩
set_option maxRecDepth 100000 in
theorem cw_289_4098 {l : Launch} {D : va_G} {b0 : Nat} {ad : Nat → Nat} {Hb : Heap} {tau : Nat → Int64} {d n s : Nat} {S : Nat → xS} {Z : xZ} {h : mx_H} {Post : mx_R → Prop} (hx : XH n s S Z h) (hG : GI n S Z)   (hP : ∀ z : Int, 1 ≤ z ∧ z ≤ 1 → Post (some (xI z), h)) : mx_J (tB l D b0 ad Hb tau) mt_289 (d + 0) 0 [some (.ref 4098)] [] h Post := by
    refine JcI (z := 1) (show mx_Sn _ _ 0 (mx_const (.int 1) 3) from sn_289 0) rfl ?_
    refine Jif_eq (show mx_Sn _ _ 3 (mx_if_eq 17 6) from sn_289 3) (by omega) (fun q1 => ?_) (fun q1 => ?_)
    · skip
      exfalso; omega
    · skip
      refine mx_J.step (sn_289 6) (fun _ _ => rfl) ?_
      refine Jscod (L := sb_1) (show mx_Sn _ _ 7 (mx_scod 10) from sn_289 7) rfl ?_
      refine Jif_ne (show mx_Sn _ _ 10 (mx_if_ne 17 13) from sn_289 10) (by omega) (fun q2 => ?_) (fun q2 => ?_)
      · skip
        exfalso; omega
      · skip
        refine JcI (z := 1) (show mx_Sn _ _ 13 (mx_const (.int 1) 14) from sn_289 13) rfl ?_
        refine mx_J.step (sn_289 14) (fun _ _ => rfl) ?_
        exact mx_J.ret (show mx_Sn _ _ 18 (mx_zret) from sn_289 18) (fun _ _ => zr_ok (by omega)) (hP 1 (by omega))
theorem ct_289_4098 {l : Launch} {D : va_G} {b0 : Nat} {ad : Nat → Nat} {Hb : Heap} {tau : Nat → Int64} {d n s : Nat} {S : Nat → xS} {Z : xZ} {h : mx_H} (hx : XH n s S Z h) (hG : GI n S Z)   : ∃ z : Int, mx_Ca (tB l D b0 ad Hb tau) (d + 1) 289 [.ref 4098] h (some (xI z), h) ∧ (1 ≤ z ∧ z ≤ 1) := by
  obtain ⟨r, hca, z, e, hp⟩ := Jmt (B := tB l D b0 ad Hb tau) (M := mt_289) (mi := 289) (as := [.ref 4098]) (d := d + 0) (ls := [some (.ref 4098)]) rfl rfl rfl rfl rfl rfl (cw_289_4098 (l := l) (D := D) (b0 := b0) (ad := ad) (Hb := Hb) (tau := tau) (d := d) (Post := fun r => ∃ z : Int, r = (some (xI z), h) ∧ (1 ≤ z ∧ z ≤ 1)) hx hG  (fun z hz => ⟨z, rfl, hz⟩))
  subst e; exact ⟨z, hca, hp⟩
set_option maxRecDepth 100000 in
theorem cw_291_4098 {l : Launch} {D : va_G} {b0 : Nat} {ad : Nat → Nat} {Hb : Heap} {tau : Nat → Int64} {d n s : Nat} {S : Nat → xS} {Z : xZ} {h : mx_H} {Post : mx_R → Prop} (hx : XH n s S Z h) (hG : GI n S Z)   (hP : ∀ z : Int, 12 ≤ z ∧ z ≤ 12 → Post (some (xI z), h)) : mx_J (tB l D b0 ad Hb tau) mt_291 (d + 1) 0 [some (.ref 4098)] [] h Post := by
    refine mx_J.step (sn_291 0) (fun _ _ => rfl) ?_
    refine mx_J.step (sn_291 1) (fun _ _ => rfl) ?_
    refine Jsalen (L := sb_1) (z := 12) (show mx_Sn _ _ 4 (mx_salen 5) from sn_291 4) rfl rfl ?_
    refine mx_J.step (sn_291 5) (fun _ _ => rfl) ?_
    obtain ⟨z1, hc1, b1⟩ := ct_290_4098 (d := d + 0) (l := l) (D := D) (b0 := b0) (ad := ad) (Hb := Hb) (tau := tau) hx hG 
    refine Jck (show mx_Sn _ _ 6 (mx_callk 290 1 9) from sn_291 6) rfl hc1 rfl rfl rfl ?_
    refine Jishr0 (show mx_Sn _ _ 9 (mx_ishr 10) from sn_291 9) (by omega) ?_
    exact mx_J.ret (sn_291 10) (fun _ _ => rfl) (hP 12 (by omega))
theorem ct_291_4098 {l : Launch} {D : va_G} {b0 : Nat} {ad : Nat → Nat} {Hb : Heap} {tau : Nat → Int64} {d n s : Nat} {S : Nat → xS} {Z : xZ} {h : mx_H} (hx : XH n s S Z h) (hG : GI n S Z)   : ∃ z : Int, mx_Ca (tB l D b0 ad Hb tau) (d + 2) 291 [.ref 4098] h (some (xI z), h) ∧ (12 ≤ z ∧ z ≤ 12) := by
  obtain ⟨r, hca, z, e, hp⟩ := Jmt (B := tB l D b0 ad Hb tau) (M := mt_291) (mi := 291) (as := [.ref 4098]) (d := d + 1) (ls := [some (.ref 4098)]) rfl rfl rfl rfl rfl rfl (cw_291_4098 (l := l) (D := D) (b0 := b0) (ad := ad) (Hb := Hb) (tau := tau) (d := d) (Post := fun r => ∃ z : Int, r = (some (xI z), h) ∧ (12 ≤ z ∧ z ≤ 12)) hx hG  (fun z hz => ⟨z, rfl, hz⟩))
  subst e; exact ⟨z, hca, hp⟩
set_option maxRecDepth 100000 in
theorem cw_288_4099 {l : Launch} {D : va_G} {b0 : Nat} {ad : Nat → Nat} {Hb : Heap} {tau : Nat → Int64} {d n s : Nat} {S : Nat → xS} {Z : xZ} {h : mx_H} {Post : mx_R → Prop} (hx : XH n s S Z h) (hG : GI n S Z)  {x0 : Int} (p0 : 0 ≤ x0 ∧ x0 ≤ 11) (hP : ∀ z : Int, 32 ≤ z ∧ z ≤ 122 ∧ z = cw1 x0 → Post (some (xI z), h)) : mx_J (tB l D b0 ad Hb tau) mt_288 (d + 2) 0 [some (.ref 4099), some (xI x0)] [] h Post := by
    refine mx_J.step (sn_288 0) (fun _ _ => rfl) ?_
    refine mx_J.step (sn_288 1) (fun _ _ => rfl) ?_
    refine Jsalen (L := sb_1) (z := 12) (show mx_Sn _ _ 2 (mx_salen 3) from sn_288 2) rfl rfl ?_
    have hc1 := ct_287_ (d := d + 0) (l := l) (D := D) (b0 := b0) (ad := ad) (Hb := Hb) (tau := tau) hx hG (show 0 ≤ x0 ∧ x0 ≤ 100 by omega) (show 0 ≤ 12 ∧ 12 ≤ 100 by omega) (show x0 < 12 by omega)
    refine Jcs0 (show mx_Sn _ _ 3 (mx_calls 287 2 6) from sn_288 3) hc1 rfl rfl rfl ?_
    refine mx_J.step (sn_288 6) (fun _ _ => rfl) ?_
    refine mx_J.step (sn_288 7) (fun _ _ => rfl) ?_
    refine Jsw_1 (show mx_Sn _ _ 8 (mx_sbald 9) from sn_288 8) rfl (by omega) (fun hy2 => ?_)
    refine JcI (z := 255) (show mx_Sn _ _ 9 (mx_const (.int 255) 12) from sn_288 9) rfl ?_
    refine JiandM (q := 256) 8 (show mx_Sn _ _ 12 (mx_iand 13) from sn_288 12) rfl rfl rfl ?_
    refine Ji2c (show mx_Sn _ _ 13 (mx_i2c 14) from sn_288 13) (by omega) ?_
    exact mx_J.ret (show mx_Sn _ _ 14 (mx_nret .char) from sn_288 14) (fun _ _ => nr_ok_char (by omega)) (hP ((cw1 x0) % 256) (by omega))
theorem ct_288_4099 {l : Launch} {D : va_G} {b0 : Nat} {ad : Nat → Nat} {Hb : Heap} {tau : Nat → Int64} {d n s : Nat} {S : Nat → xS} {Z : xZ} {h : mx_H} (hx : XH n s S Z h) (hG : GI n S Z)  {x0 : Int} (p0 : 0 ≤ x0 ∧ x0 ≤ 11) : ∃ z : Int, mx_Ca (tB l D b0 ad Hb tau) (d + 3) 288 [.ref 4099, xI x0] h (some (xI z), h) ∧ (32 ≤ z ∧ z ≤ 122 ∧ z = cw1 x0) := by
  obtain ⟨r, hca, z, e, hp⟩ := Jmt (B := tB l D b0 ad Hb tau) (M := mt_288) (mi := 288) (as := [.ref 4099, xI x0]) (d := d + 2) (ls := [some (.ref 4099), some (xI x0)]) rfl rfl rfl rfl rfl rfl (cw_288_4099 (l := l) (D := D) (b0 := b0) (ad := ad) (Hb := Hb) (tau := tau) (d := d) (Post := fun r => ∃ z : Int, r = (some (xI z), h) ∧ (32 ≤ z ∧ z ≤ 122 ∧ z = cw1 x0)) hx hG p0 (fun z hz => ⟨z, rfl, hz⟩))
  subst e; exact ⟨z, hca, hp⟩
set_option maxRecDepth 100000 in
theorem cw_292_4098 {l : Launch} {D : va_G} {b0 : Nat} {ad : Nat → Nat} {Hb : Heap} {tau : Nat → Int64} {d n s : Nat} {S : Nat → xS} {Z : xZ} {h : mx_H} {Post : mx_R → Prop} (hx : XH n s S Z h) (hG : GI n S Z)  {x0 : Int} (p0 : 0 ≤ x0 ∧ x0 ≤ 11) (hP : ∀ z : Int, 32 ≤ z ∧ z ≤ 122 ∧ z = cw1 x0 → Post (some (xI z), h)) : mx_J (tB l D b0 ad Hb tau) mt_292 (d + 3) 0 [some (.ref 4098), some (xI x0)] [] h Post := by
    refine mx_J.step (sn_292 0) (fun _ _ => rfl) ?_
    obtain ⟨z1, hc1, b1⟩ := ct_289_4098 (d := d + 2) (l := l) (D := D) (b0 := b0) (ad := ad) (Hb := Hb) (tau := tau) hx hG 
    refine Jck (show mx_Sn _ _ 1 (mx_callk 289 1 4) from sn_292 1) rfl hc1 rfl rfl rfl ?_
    refine Jif_eq (show mx_Sn _ _ 4 (mx_if_eq 16 7) from sn_292 4) (by omega) (fun q2 => ?_) (fun q2 => ?_)
    · skip
      exfalso; omega
    · skip
      refine mx_J.step (sn_292 7) (fun _ _ => rfl) ?_
      refine mx_J.step (sn_292 8) (fun _ _ => rfl) ?_
      refine mx_J.step (sn_292 11) (fun _ _ => rfl) ?_
      obtain ⟨z3, hc3, b3⟩ := ct_288_4099 (d := d + 0) (l := l) (D := D) (b0 := b0) (ad := ad) (Hb := Hb) (tau := tau) hx hG (show 0 ≤ x0 ∧ x0 ≤ 11 by omega)
      refine Jcs (show mx_Sn _ _ 12 (mx_calls 288 2 15) from sn_292 12) hc3 rfl rfl rfl ?_
      exact mx_J.ret (show mx_Sn _ _ 15 (mx_nret .char) from sn_292 15) (fun _ _ => nr_ok_char (by omega)) (hP z3 (by omega))
theorem ct_292_4098 {l : Launch} {D : va_G} {b0 : Nat} {ad : Nat → Nat} {Hb : Heap} {tau : Nat → Int64} {d n s : Nat} {S : Nat → xS} {Z : xZ} {h : mx_H} (hx : XH n s S Z h) (hG : GI n S Z)  {x0 : Int} (p0 : 0 ≤ x0 ∧ x0 ≤ 11) : ∃ z : Int, mx_Ca (tB l D b0 ad Hb tau) (d + 4) 292 [.ref 4098, xI x0] h (some (xI z), h) ∧ (32 ≤ z ∧ z ≤ 122 ∧ z = cw1 x0) := by
  obtain ⟨r, hca, z, e, hp⟩ := Jmt (B := tB l D b0 ad Hb tau) (M := mt_292) (mi := 292) (as := [.ref 4098, xI x0]) (d := d + 3) (ls := [some (.ref 4098), some (xI x0)]) rfl rfl rfl rfl rfl rfl (cw_292_4098 (l := l) (D := D) (b0 := b0) (ad := ad) (Hb := Hb) (tau := tau) (d := d) (Post := fun r => ∃ z : Int, r = (some (xI z), h) ∧ (32 ≤ z ∧ z ≤ 122 ∧ z = cw1 x0)) hx hG p0 (fun z hz => ⟨z, rfl, hz⟩))
  subst e; exact ⟨z, hca, hp⟩
set_option maxRecDepth 100000 in
theorem cw_293_ {l : Launch} {D : va_G} {b0 : Nat} {ad : Nat → Nat} {Hb : Heap} {tau : Nat → Int64} {d n s : Nat} {S : Nat → xS} {Z : xZ} {h : mx_H} {Post : mx_R → Prop} (hx : XH n s S Z h) (hG : GI n S Z)  {x0 : Int} (p0 : 0 ≤ x0 ∧ x0 ≤ 255) (hP : ∀ z : Int, 1 ≤ z ∧ z ≤ 1 → Post (some (xI z), h)) : mx_J (tB l D b0 ad Hb tau) mt_293 (d + 0) 0 [some (xI x0)] [] h Post := by
    refine mx_J.step (sn_293 0) (fun _ _ => rfl) ?_
    refine Jif_lt (show mx_Sn _ _ 1 (mx_if_lt 15 4) from sn_293 1) (by omega) (fun q1 => ?_) (fun q1 => ?_)
    · skip
      exfalso; omega
    · skip
      refine mx_J.step (sn_293 4) (fun _ _ => rfl) ?_
      refine JcI (z := 255) (show mx_Sn _ _ 5 (mx_const (.int 255) 8) from sn_293 5) rfl ?_
      refine Jicmp_gt (show mx_Sn _ _ 8 (mx_icmp_gt 15 11) from sn_293 8) (by omega) (by omega) (fun q2 => ?_) (fun q2 => ?_)
      · skip
        exfalso; omega
      · skip
        refine JcI (z := 1) (show mx_Sn _ _ 11 (mx_const (.int 1) 12) from sn_293 11) rfl ?_
        refine mx_J.step (sn_293 12) (fun _ _ => rfl) ?_
        exact mx_J.ret (show mx_Sn _ _ 16 (mx_zret) from sn_293 16) (fun _ _ => zr_ok (by omega)) (hP 1 (by omega))
theorem ct_293_ {l : Launch} {D : va_G} {b0 : Nat} {ad : Nat → Nat} {Hb : Heap} {tau : Nat → Int64} {d n s : Nat} {S : Nat → xS} {Z : xZ} {h : mx_H} (hx : XH n s S Z h) (hG : GI n S Z)  {x0 : Int} (p0 : 0 ≤ x0 ∧ x0 ≤ 255) : ∃ z : Int, mx_Ca (tB l D b0 ad Hb tau) (d + 1) 293 [xI x0] h (some (xI z), h) ∧ (1 ≤ z ∧ z ≤ 1) := by
  obtain ⟨r, hca, z, e, hp⟩ := Jmt (B := tB l D b0 ad Hb tau) (M := mt_293) (mi := 293) (as := [xI x0]) (d := d + 0) (ls := [some (xI x0)]) rfl rfl rfl rfl rfl rfl (cw_293_ (l := l) (D := D) (b0 := b0) (ad := ad) (Hb := Hb) (tau := tau) (d := d) (Post := fun r => ∃ z : Int, r = (some (xI z), h) ∧ (1 ≤ z ∧ z ≤ 1)) hx hG p0 (fun z hz => ⟨z, rfl, hz⟩))
  subst e; exact ⟨z, hca, hp⟩
set_option maxRecDepth 100000 in
theorem cw_294_4099_i0_i12 {l : Launch} {D : va_G} {b0 : Nat} {ad : Nat → Nat} {Hb : Heap} {tau : Nat → Int64} {d n s : Nat} {S : Nat → xS} {Z : xZ} {h : mx_H} {Post : mx_R → Prop} (hx : XH n s S Z h) (hG : GI n S Z)  {x0 : Int} (p0 : 0 ≤ x0 ∧ x0 ≤ 255) (hP : ∀ z : Int, SGN x0 z ∧ (-1) ≤ z ∧ z ≤ 11 → Post (some (xI z), h)) : mx_J (tB l D b0 ad Hb tau) mt_294 (d + 0) 0 [some (.ref 4099), some (xI x0), some (xI 0), some (xI 12), none, none] [] h Post := by
    refine mx_J.step (sn_294 0) (fun _ _ => rfl) ?_
    refine Ji2bY (show mx_Sn _ _ 1 (mx_i2b 2) from sn_294 1) (by omega) (fun y1 hy1 hq1 => ?_)
    refine mx_J.step (ls2 := [some (.ref 4099), some (xI x0), some (xI 0), some (xI 12), some (xI y1), none]) (sn_294 2) (fun _ _ => rfl) ?_
    refine mx_J.step (sn_294 4) (fun _ _ => rfl) ?_
    refine mx_J.step (ls2 := [some (.ref 4099), some (xI x0), some (xI 0), some (xI 12), some (xI y1), some (xI 0)]) (sn_294 5) (fun _ _ => rfl) ?_
    have c7 : ∀ (m2 : Nat) (w2_5 : Int), 12 - w2_5 < (m2 : Int) → 0 ≤ w2_5 ∧ w2_5 ≤ 12 → NI x0 w2_5 → mx_J (tB l D b0 ad Hb tau) mt_294 (d + 0) 7 [some (.ref 4099), some (xI x0), some (xI 0), some (xI 12), some (xI y1), some (xI w2_5)] [] h Post := by
      intro m2
      induction m2 with
      | zero => intro w2_5 q2 f2_0 f2_1; exact absurd q2 (by omega)
      | succ m2 ih2 =>
        intro w2_5 q2 f2_0 f2_1
        refine mx_J.step (sn_294 7) (fun _ _ => rfl) ?_
        refine mx_J.step (sn_294 9) (fun _ _ => rfl) ?_
        refine Jicmp_ge (show mx_Sn _ _ 10 (mx_icmp_ge 31 13) from sn_294 10) (by omega) (by omega) (fun q3 => ?_) (fun q3 => ?_)
        · skip
          refine JcI (z := (-1)) (show mx_Sn _ _ 31 (mx_const (.int (-1)) 32) from sn_294 31) rfl ?_
          have ni : NI x0 w2_5 := (by assumption)
          have sh0 : SGN x0 (-1) := SGN_n ((show w2_5 = (12 : Int) by omega) ▸ ni)
          exact mx_J.ret (sn_294 32) (fun _ _ => rfl) (hP (-1) ⟨(sh0), by omega⟩)
        · skip
          refine mx_J.step (sn_294 13) (fun _ _ => rfl) ?_
          refine mx_J.step (sn_294 14) (fun _ _ => rfl) ?_
          refine Jsw_1 (show mx_Sn _ _ 16 (mx_sbald 17) from sn_294 16) rfl (by omega) (fun hy4 => ?_)
          refine mx_J.step (sn_294 17) (fun _ _ => rfl) ?_
          refine Jicmp_ne (show mx_Sn _ _ 19 (mx_icmp_ne 25 22) from sn_294 19) (by omega) (by omega) (fun q5 => ?_) (fun q5 => ?_)
          · skip
            refine Jiinc (z := w2_5) (cz := 1) (ls2 := [some (.ref 4099), some (xI x0), some (xI 0), some (xI 12), some (xI y1), some (xI (w2_5 + 1))]) (show mx_Sn _ _ 25 (mx_iinc 5 1 28) from sn_294 25) rfl rfl rfl rfl ?_
            refine mx_J.step (sn_294 28) (fun _ _ => rfl) ?_
            exact ih2 (w2_5 + 1) (by omega) (by omega) (by first | exact NI_0 | exact NI_s (by assumption) (by omega) (by omega))
          · skip
            refine mx_J.step (sn_294 22) (fun _ _ => rfl) ?_
            have sh0 : SGN x0 w2_5 := SGN_y (by omega) (by omega)
            exact mx_J.ret (sn_294 24) (fun _ _ => rfl) (hP w2_5 ⟨(sh0), by omega⟩)
    exact c7 (Int.toNat (12 - 0) + 1) 0 (by omega) (by omega) (by first | exact NI_0 | exact NI_s (by assumption) (by omega) (by omega))
theorem ct_294_4099_i0_i12 {l : Launch} {D : va_G} {b0 : Nat} {ad : Nat → Nat} {Hb : Heap} {tau : Nat → Int64} {d n s : Nat} {S : Nat → xS} {Z : xZ} {h : mx_H} (hx : XH n s S Z h) (hG : GI n S Z)  {x0 : Int} (p0 : 0 ≤ x0 ∧ x0 ≤ 255) : ∃ z : Int, mx_Ca (tB l D b0 ad Hb tau) (d + 1) 294 [.ref 4099, xI x0, xI 0, xI 12] h (some (xI z), h) ∧ (SGN x0 z ∧ (-1) ≤ z ∧ z ≤ 11) := by
  obtain ⟨r, hca, z, e, hp⟩ := Jmt (B := tB l D b0 ad Hb tau) (M := mt_294) (mi := 294) (as := [.ref 4099, xI x0, xI 0, xI 12]) (d := d + 0) (ls := [some (.ref 4099), some (xI x0), some (xI 0), some (xI 12), none, none]) rfl rfl rfl rfl rfl rfl (cw_294_4099_i0_i12 (l := l) (D := D) (b0 := b0) (ad := ad) (Hb := Hb) (tau := tau) (d := d) (Post := fun r => ∃ z : Int, r = (some (xI z), h) ∧ (SGN x0 z ∧ (-1) ≤ z ∧ z ≤ 11)) hx hG p0 (fun z hz => ⟨z, rfl, hz⟩))
  subst e; exact ⟨z, hca, hp⟩
set_option maxRecDepth 100000 in
theorem cw_295_4099_i0_i12 {l : Launch} {D : va_G} {b0 : Nat} {ad : Nat → Nat} {Hb : Heap} {tau : Nat → Int64} {d n s : Nat} {S : Nat → xS} {Z : xZ} {h : mx_H} {Post : mx_R → Prop} (hx : XH n s S Z h) (hG : GI n S Z)  {x0 : Int} (p0 : 0 ≤ x0 ∧ x0 ≤ 255) (hP : ∀ z : Int, SGN x0 z ∧ (-1) ≤ z ∧ z ≤ 11 → Post (some (xI z), h)) : mx_J (tB l D b0 ad Hb tau) mt_295 (d + 1) 0 [some (.ref 4099), some (xI x0), some (xI 0), some (xI 12)] [] h Post := by
    refine mx_J.step (sn_295 0) (fun _ _ => rfl) ?_
    obtain ⟨z1, hc1, b1⟩ := ct_293_ (d := d + 0) (l := l) (D := D) (b0 := b0) (ad := ad) (Hb := Hb) (tau := tau) hx hG (show 0 ≤ x0 ∧ x0 ≤ 255 by omega)
    refine Jcs (show mx_Sn _ _ 1 (mx_calls 293 1 4) from sn_295 1) hc1 rfl rfl rfl ?_
    refine Jif_ne (show mx_Sn _ _ 4 (mx_if_ne 9 7) from sn_295 4) (by omega) (fun q2 => ?_) (fun q2 => ?_)
    · skip
      refine mx_J.step (sn_295 9) (fun _ _ => rfl) ?_
      refine JcI (z := 0) (show mx_Sn _ _ 10 (mx_const (.int 0) 11) from sn_295 10) rfl ?_
      refine Jmmax (show mx_Sn _ _ 11 (mx_mmax 14) from sn_295 11) (by omega) (by omega) ⟨_, rfl⟩ rfl (fun y3 hy3 => ?_)
      refine mx_J.step (ls2 := [some (.ref 4099), some (xI x0), some (xI y3), some (xI 12)]) (sn_295 14) (fun _ _ => rfl) ?_
      refine mx_J.step (sn_295 15) (fun _ _ => rfl) ?_
      refine mx_J.step (sn_295 16) (fun _ _ => rfl) ?_
      refine Jsalen (L := sb_1) (z := 12) (show mx_Sn _ _ 17 (mx_salen 18) from sn_295 17) rfl rfl ?_
      refine Jmmin (show mx_Sn _ _ 18 (mx_mmin 21) from sn_295 18) (by omega) (by omega) ⟨_, rfl⟩ rfl (fun y4 hy4 => ?_)
      refine mx_J.step (ls2 := [some (.ref 4099), some (xI x0), some (xI y3), some (xI y4)]) (sn_295 21) (fun _ _ => rfl) ?_
      refine mx_J.step (sn_295 22) (fun _ _ => rfl) ?_
      refine mx_J.step (sn_295 23) (fun _ _ => rfl) ?_
      refine Jicmp_lt (show mx_Sn _ _ 24 (mx_icmp_lt 29 27) from sn_295 24) (by omega) (by omega) (fun q5 => ?_) (fun q5 => ?_)
      · skip
        refine mx_J.step (sn_295 29) (fun _ _ => rfl) ?_
        refine mx_J.step (sn_295 30) (fun _ _ => rfl) ?_
        refine mx_J.step (sn_295 31) (fun _ _ => rfl) ?_
        refine mx_J.step (sn_295 32) (fun _ _ => rfl) ?_
        have el6 : y3 = 0 := by omega
        rw [el6]
        have el6 : y4 = 12 := by omega
        rw [el6]
        obtain ⟨z6, hc6, b6⟩ := ct_294_4099_i0_i12 (d := d + 0) (l := l) (D := D) (b0 := b0) (ad := ad) (Hb := Hb) (tau := tau) hx hG (show 0 ≤ x0 ∧ x0 ≤ 255 by omega)
        obtain ⟨bs6_0, b6⟩ := b6
        refine Jcs (show mx_Sn _ _ 33 (mx_calls 294 4 36) from sn_295 33) hc6 rfl rfl rfl ?_
        exact mx_J.ret (sn_295 36) (fun _ _ => rfl) (hP z6 ⟨(by assumption), by omega⟩)
      · skip
        exfalso; omega
    · skip
      exfalso; omega
theorem ct_295_4099_i0_i12 {l : Launch} {D : va_G} {b0 : Nat} {ad : Nat → Nat} {Hb : Heap} {tau : Nat → Int64} {d n s : Nat} {S : Nat → xS} {Z : xZ} {h : mx_H} (hx : XH n s S Z h) (hG : GI n S Z)  {x0 : Int} (p0 : 0 ≤ x0 ∧ x0 ≤ 255) : ∃ z : Int, mx_Ca (tB l D b0 ad Hb tau) (d + 2) 295 [.ref 4099, xI x0, xI 0, xI 12] h (some (xI z), h) ∧ (SGN x0 z ∧ (-1) ≤ z ∧ z ≤ 11) := by
  obtain ⟨r, hca, z, e, hp⟩ := Jmt (B := tB l D b0 ad Hb tau) (M := mt_295) (mi := 295) (as := [.ref 4099, xI x0, xI 0, xI 12]) (d := d + 1) (ls := [some (.ref 4099), some (xI x0), some (xI 0), some (xI 12)]) rfl rfl rfl rfl rfl rfl (cw_295_4099_i0_i12 (l := l) (D := D) (b0 := b0) (ad := ad) (Hb := Hb) (tau := tau) (d := d) (Post := fun r => ∃ z : Int, r = (some (xI z), h) ∧ (SGN x0 z ∧ (-1) ≤ z ∧ z ≤ 11)) hx hG p0 (fun z hz => ⟨z, rfl, hz⟩))
  subst e; exact ⟨z, hca, hp⟩
set_option maxRecDepth 100000 in
theorem cw_296_4098_i0 {l : Launch} {D : va_G} {b0 : Nat} {ad : Nat → Nat} {Hb : Heap} {tau : Nat → Int64} {d n s : Nat} {S : Nat → xS} {Z : xZ} {h : mx_H} {Post : mx_R → Prop} (hx : XH n s S Z h) (hG : GI n S Z)  {x0 : Int} (p0 : 0 ≤ x0 ∧ x0 ≤ 255) (hP : ∀ z : Int, SGN x0 z ∧ (-1) ≤ z ∧ z ≤ 11 → Post (some (xI z), h)) : mx_J (tB l D b0 ad Hb tau) mt_296 (d + 2) 0 [some (.ref 4098), some (xI x0), some (xI 0)] [] h Post := by
    refine mx_J.step (sn_296 0) (fun _ _ => rfl) ?_
    obtain ⟨z1, hc1, b1⟩ := ct_289_4098 (d := d + 1) (l := l) (D := D) (b0 := b0) (ad := ad) (Hb := Hb) (tau := tau) hx hG 
    refine Jck (show mx_Sn _ _ 1 (mx_callk 289 1 4) from sn_296 1) rfl hc1 rfl rfl rfl ?_
    refine Jif_eq (show mx_Sn _ _ 4 (mx_if_eq 23 7) from sn_296 4) (by omega) (fun q2 => ?_) (fun q2 => ?_)
    · skip
      exfalso; omega
    · skip
      refine mx_J.step (sn_296 7) (fun _ _ => rfl) ?_
      refine mx_J.step (sn_296 8) (fun _ _ => rfl) ?_
      refine mx_J.step (sn_296 11) (fun _ _ => rfl) ?_
      refine mx_J.step (sn_296 12) (fun _ _ => rfl) ?_
      refine mx_J.step (sn_296 13) (fun _ _ => rfl) ?_
      obtain ⟨z3, hc3, b3⟩ := ct_291_4098 (d := d + 0) (l := l) (D := D) (b0 := b0) (ad := ad) (Hb := Hb) (tau := tau) hx hG 
      refine Jck (show mx_Sn _ _ 14 (mx_callk 291 1 17) from sn_296 14) rfl hc3 rfl rfl rfl ?_
      have el4 : z3 = 12 := by omega
      rw [el4]
      obtain ⟨z4, hc4, b4⟩ := ct_295_4099_i0_i12 (d := d + 0) (l := l) (D := D) (b0 := b0) (ad := ad) (Hb := Hb) (tau := tau) hx hG (show 0 ≤ x0 ∧ x0 ≤ 255 by omega)
      obtain ⟨bs4_0, b4⟩ := b4
      refine Jcs (show mx_Sn _ _ 17 (mx_calls 295 4 20) from sn_296 17) hc4 rfl rfl rfl ?_
      refine mx_J.step (sn_296 20) (fun _ _ => rfl) ?_
      exact mx_J.ret (sn_296 36) (fun _ _ => rfl) (hP z4 ⟨(by assumption), by omega⟩)
theorem ct_296_4098_i0 {l : Launch} {D : va_G} {b0 : Nat} {ad : Nat → Nat} {Hb : Heap} {tau : Nat → Int64} {d n s : Nat} {S : Nat → xS} {Z : xZ} {h : mx_H} (hx : XH n s S Z h) (hG : GI n S Z)  {x0 : Int} (p0 : 0 ≤ x0 ∧ x0 ≤ 255) : ∃ z : Int, mx_Ca (tB l D b0 ad Hb tau) (d + 3) 296 [.ref 4098, xI x0, xI 0] h (some (xI z), h) ∧ (SGN x0 z ∧ (-1) ≤ z ∧ z ≤ 11) := by
  obtain ⟨r, hca, z, e, hp⟩ := Jmt (B := tB l D b0 ad Hb tau) (M := mt_296) (mi := 296) (as := [.ref 4098, xI x0, xI 0]) (d := d + 2) (ls := [some (.ref 4098), some (xI x0), some (xI 0)]) rfl rfl rfl rfl rfl rfl (cw_296_4098_i0 (l := l) (D := D) (b0 := b0) (ad := ad) (Hb := Hb) (tau := tau) (d := d) (Post := fun r => ∃ z : Int, r = (some (xI z), h) ∧ (SGN x0 z ∧ (-1) ≤ z ∧ z ≤ 11)) hx hG p0 (fun z hz => ⟨z, rfl, hz⟩))
  subst e; exact ⟨z, hca, hp⟩
set_option maxRecDepth 100000 in
theorem cw_297_4098 {l : Launch} {D : va_G} {b0 : Nat} {ad : Nat → Nat} {Hb : Heap} {tau : Nat → Int64} {d n s : Nat} {S : Nat → xS} {Z : xZ} {h : mx_H} {Post : mx_R → Prop} (hx : XH n s S Z h) (hG : GI n S Z)  {x0 : Int} (p0 : 0 ≤ x0 ∧ x0 ≤ 255) (hP : ∀ z : Int, SGN x0 z ∧ (-1) ≤ z ∧ z ≤ 11 → Post (some (xI z), h)) : mx_J (tB l D b0 ad Hb tau) mt_297 (d + 3) 0 [some (.ref 4098), some (xI x0)] [] h Post := by
    refine mx_J.step (sn_297 0) (fun _ _ => rfl) ?_
    refine mx_J.step (sn_297 1) (fun _ _ => rfl) ?_
    refine JcI (z := 0) (show mx_Sn _ _ 2 (mx_const (.int 0) 3) from sn_297 2) rfl ?_
    obtain ⟨z1, hc1, b1⟩ := ct_296_4098_i0 (d := d + 0) (l := l) (D := D) (b0 := b0) (ad := ad) (Hb := Hb) (tau := tau) hx hG (show 0 ≤ x0 ∧ x0 ≤ 255 by omega)
    obtain ⟨bs1_0, b1⟩ := b1
    refine Jck (show mx_Sn _ _ 3 (mx_callk 296 3 6) from sn_297 3) rfl hc1 rfl rfl rfl ?_
    exact mx_J.ret (sn_297 6) (fun _ _ => rfl) (hP z1 ⟨(by assumption), by omega⟩)
theorem ct_297_4098 {l : Launch} {D : va_G} {b0 : Nat} {ad : Nat → Nat} {Hb : Heap} {tau : Nat → Int64} {d n s : Nat} {S : Nat → xS} {Z : xZ} {h : mx_H} (hx : XH n s S Z h) (hG : GI n S Z)  {x0 : Int} (p0 : 0 ≤ x0 ∧ x0 ≤ 255) : ∃ z : Int, mx_Ca (tB l D b0 ad Hb tau) (d + 4) 297 [.ref 4098, xI x0] h (some (xI z), h) ∧ (SGN x0 z ∧ (-1) ≤ z ∧ z ≤ 11) := by
  obtain ⟨r, hca, z, e, hp⟩ := Jmt (B := tB l D b0 ad Hb tau) (M := mt_297) (mi := 297) (as := [.ref 4098, xI x0]) (d := d + 3) (ls := [some (.ref 4098), some (xI x0)]) rfl rfl rfl rfl rfl rfl (cw_297_4098 (l := l) (D := D) (b0 := b0) (ad := ad) (Hb := Hb) (tau := tau) (d := d) (Post := fun r => ∃ z : Int, r = (some (xI z), h) ∧ (SGN x0 z ∧ (-1) ≤ z ∧ z ≤ 11)) hx hG p0 (fun z hz => ⟨z, rfl, hz⟩))
  subst e; exact ⟨z, hca, hp⟩
set_option maxRecDepth 100000 in
theorem cw_57_3 {l : Launch} {D : va_G} {b0 : Nat} {ad : Nat → Nat} {Hb : Heap} {tau : Nat → Int64} {d n s : Nat} {S : Nat → xS} {Z : xZ} {h : mx_H} {Post : mx_R → Prop} (hx : XH n s S Z h) (hG : GI n S Z)  {x0 x1 x2 : Int} (p0 : 0 ≤ x0 ∧ x0 ≤ 900) (p1 : 48 ≤ x1 ∧ x1 ≤ 97) (p2 : 57 ≤ x2 ∧ x2 ≤ 122) (k0 : Z 3 0 = 2) (hP : ∀ z : Int, 0 ≤ z ∧ z ≤ 1 ∧ ((z = 1 ∧ x0 < Z 3 1 ∧ x1 ≤ Z 2 x0 ∧ Z 2 x0 ≤ x2) ∨ (z = 0 ∧ ¬ (x0 < Z 3 1 ∧ x1 ≤ Z 2 x0 ∧ Z 2 x0 ≤ x2))) → Post (some (xI z), h)) : mx_J (tB l D b0 ad Hb tau) mt_57 (d + 0) 0 [some (.ref 3), some (xI x0), some (xI x1), some (xI x2)] [] h Post := by
    have a2 : 2 < n := lt83 (GI_n hG) rfl
    have s2 : S 2 = .inr (.byte, 900, 0) := GI_s hG 2 rfl
    have a3 : 3 < n := lt83 (GI_n hG) rfl
    have s3 : S 3 = .inl (7, [2, 0, 0, 0, 0, 0, 2, 0, 2, 2, 0, 2, 0, 0, 0, 0]) := GI_s hG 3 rfl
    have b1 : 0 ≤ Z 3 1 ∧ Z 3 1 ≤ 900 := hG.pr 3 1
    have b2 : (-128) ≤ Z 2 x0 ∧ Z 2 x0 ≤ 127 := hG.pr 2 x0
    refine mx_J.step (sn_57 0) (fun _ _ => rfl) ?_
    refine mx_J.step (sn_57 1) (fun _ _ => rfl) ?_
    refine JgetI (g := 1) (z := Z 3 1) hx (show mx_Sn _ _ 2 (mx_getf 7 1 5) from sn_57 2) a3 s3 rfl rfl rfl ?_
    have c33 : ∀ (k4_0 : Int), 0 ≤ k4_0 ∧ k4_0 ≤ 1 → ((k4_0 = 1 ∧ x0 < Z 3 1 ∧ x1 ≤ Z 2 x0 ∧ Z 2 x0 ≤ x2) ∨ (k4_0 = 0 ∧ ¬ (x0 < Z 3 1 ∧ x1 ≤ Z 2 x0 ∧ Z 2 x0 ≤ x2))) → mx_J (tB l D b0 ad Hb tau) mt_57 (d + 0) 33 [some (.ref 3), some (xI x0), some (xI x1), some (xI x2)] [xI k4_0] h Post := by
      intro k4_0 f4_0 f4_1
      have b5 : 2 ≤ Z 3 0 ∧ Z 3 0 ≤ 4 := hG.pr 3 0
      exact mx_J.ret (show mx_Sn _ _ 33 (mx_zret) from sn_57 33) (fun _ _ => zr_ok (by omega)) (hP k4_0 (by omega))
    have c32 : ¬ (x0 < Z 3 1 ∧ x1 ≤ Z 2 x0 ∧ Z 2 x0 ≤ x2) → mx_J (tB l D b0 ad Hb tau) mt_57 (d + 0) 32 [some (.ref 3), some (xI x0), some (xI x1), some (xI x2)] [] h Post := by
      intro f6_0
      refine JcI (z := 0) (show mx_Sn _ _ 32 (mx_const (.int 0) 33) from sn_57 32) rfl ?_
      exact c33 0 (by omega) (by omega)
    refine Jicmp_ge (show mx_Sn _ _ 5 (mx_icmp_ge 32 8) from sn_57 5) (by omega) (by omega) (fun q7 => ?_) (fun q7 => ?_)
    · skip
      exact c32 (by omega)
    · skip
      refine mx_J.step (sn_57 8) (fun _ _ => rfl) ?_
      refine JgetR (g := 0) (b := 2) hx (show mx_Sn _ _ 9 (mx_getf 7 0 12) from sn_57 9) a3 s3 rfl rfl (show Z 3 0 = ((2 : Nat) : Int) from k0) ?_
      refine mx_J.step (sn_57 12) (fun _ _ => rfl) ?_
      refine JbaldI (z := Z 2 x0) hx (show mx_Sn _ _ 13 (mx_bald 14) from sn_57 13) a2 s2 (by omega) rfl ?_
      refine mx_J.step (sn_57 14) (fun _ _ => rfl) ?_
      refine Jicmp_lt (show mx_Sn _ _ 15 (mx_icmp_lt 32 18) from sn_57 15) (by omega) (by omega) (fun q9 => ?_) (fun q9 => ?_)
      · skip
        exact c32 (by omega)
      · skip
        refine mx_J.step (sn_57 18) (fun _ _ => rfl) ?_
        refine JgetR (g := 0) (b := 2) hx (show mx_Sn _ _ 19 (mx_getf 7 0 22) from sn_57 19) a3 s3 rfl rfl (show Z 3 0 = ((2 : Nat) : Int) from k0) ?_
        refine mx_J.step (sn_57 22) (fun _ _ => rfl) ?_
        refine JbaldI (z := Z 2 x0) hx (show mx_Sn _ _ 23 (mx_bald 24) from sn_57 23) a2 s2 (by omega) rfl ?_
        refine mx_J.step (sn_57 24) (fun _ _ => rfl) ?_
        refine Jicmp_gt (show mx_Sn _ _ 25 (mx_icmp_gt 32 28) from sn_57 25) (by omega) (by omega) (fun q11 => ?_) (fun q11 => ?_)
        · skip
          exact c32 (by omega)
        · skip
          refine JcI (z := 1) (show mx_Sn _ _ 28 (mx_const (.int 1) 29) from sn_57 28) rfl ?_
          refine mx_J.step (sn_57 29) (fun _ _ => rfl) ?_
          exact c33 1 (by omega) (by omega)
theorem ct_57_3 {l : Launch} {D : va_G} {b0 : Nat} {ad : Nat → Nat} {Hb : Heap} {tau : Nat → Int64} {d n s : Nat} {S : Nat → xS} {Z : xZ} {h : mx_H} (hx : XH n s S Z h) (hG : GI n S Z)  {x0 x1 x2 : Int} (p0 : 0 ≤ x0 ∧ x0 ≤ 900) (p1 : 48 ≤ x1 ∧ x1 ≤ 97) (p2 : 57 ≤ x2 ∧ x2 ≤ 122) (k0 : Z 3 0 = 2) : ∃ z : Int, mx_Ca (tB l D b0 ad Hb tau) (d + 1) 57 [.ref 3, xI x0, xI x1, xI x2] h (some (xI z), h) ∧ (0 ≤ z ∧ z ≤ 1 ∧ ((z = 1 ∧ x0 < Z 3 1 ∧ x1 ≤ Z 2 x0 ∧ Z 2 x0 ≤ x2) ∨ (z = 0 ∧ ¬ (x0 < Z 3 1 ∧ x1 ≤ Z 2 x0 ∧ Z 2 x0 ≤ x2)))) := by
  obtain ⟨r, hca, z, e, hp⟩ := Jmt (B := tB l D b0 ad Hb tau) (M := mt_57) (mi := 57) (as := [.ref 3, xI x0, xI x1, xI x2]) (d := d + 0) (ls := [some (.ref 3), some (xI x0), some (xI x1), some (xI x2)]) rfl rfl rfl rfl rfl rfl (cw_57_3 (l := l) (D := D) (b0 := b0) (ad := ad) (Hb := Hb) (tau := tau) (d := d) (Post := fun r => ∃ z : Int, r = (some (xI z), h) ∧ (0 ≤ z ∧ z ≤ 1 ∧ ((z = 1 ∧ x0 < Z 3 1 ∧ x1 ≤ Z 2 x0 ∧ Z 2 x0 ≤ x2) ∨ (z = 0 ∧ ¬ (x0 < Z 3 1 ∧ x1 ≤ Z 2 x0 ∧ Z 2 x0 ≤ x2))))) hx hG p0 p1 p2 k0 (fun z hz => ⟨z, rfl, hz⟩))
  subst e; exact ⟨z, hca, hp⟩
set_option maxRecDepth 100000 in
theorem cw_59_3 {l : Launch} {D : va_G} {b0 : Nat} {ad : Nat → Nat} {Hb : Heap} {tau : Nat → Int64} {d n s : Nat} {S : Nat → xS} {Z : xZ} {h : mx_H} {Post : mx_R → Prop} {T : Int → Int} {N : Int} (hx : XH n s S Z h) (hG : GI n S Z)   (k0 : Z 3 0 = 2) (k1 : Z 3 3 = Z 3 2) (k2 : Z 3 2 < Z 3 1) (k3 : (97 ≤ Z 2 (Z 3 2) ∧ Z 2 (Z 3 2) ≤ 122)) (k4 : TX T N Z) (k5 : Z 3 1 = N) (hP : ∀ (z : Int) (Z' : xZ) (h' : mx_H), XH n s S Z' h' → GI n S Z' → fr' [(3, 2)] Z Z' → z = tCk (tKey T (Z 3 3) (Z' 3 2)) ∧ Z' 3 2 = tWe T N (Z 3 2) ∧ 299 ≤ z ∧ z ≤ 376 ∧ (Z 3 2 < Z' 3 2 ∧ Z' 3 2 ≤ Z 3 1) → Post (some (xI z), h')) : mx_J (tB l D b0 ad Hb tau) mt_59 (d + 4) 0 [some (.ref 3), none, none, none, none, none, none] [] h Post := by
    have a2 : 2 < n := lt83 (GI_n hG) rfl
    have s2 : S 2 = .inr (.byte, 900, 0) := GI_s hG 2 rfl
    have a3 : 3 < n := lt83 (GI_n hG) rfl
    have s3 : S 3 = .inl (7, [2, 0, 0, 0, 0, 0, 2, 0, 2, 2, 0, 2, 0, 0, 0, 0]) := GI_s hG 3 rfl
    have c0 : ∀ (m1 : Nat)  (Z2 : xZ) (h2 : mx_H), Z 3 1 - Z2 3 2 < (m1 : Int) → (Z 3 2 ≤ Z2 3 2 ∧ Z2 3 2 ≤ Z 3 1) → tWe T N (Z2 3 2) = tWe T N (Z 3 2) → XH n s S Z2 h2 → GI n S Z2 → fr' [(3, 2)] Z Z2 → mx_J (tB l D b0 ad Hb tau) mt_59 (d + 4) 0 [some (.ref 3), none, none, none, none, none, none] [] h2 Post := by
      intro m1
      induction m1 with
      | zero => intro Z2 h2 q1 f1_0 f1_1 hx2 hG2 hf2; exact absurd q1 (by omega)
      | succ m1 ih1 =>
        intro Z2 h2 q1 f1_0 f1_1 hx2 hG2 hf2
        have b3 : 0 ≤ Z2 3 2 ∧ Z2 3 2 ≤ 900 := hG2.pr 3 2
        have cg2 : (Z2 3 2) = Z 3 2 → Z 2 (Z2 3 2) = Z 2 (Z 3 2) := fun e => by rw [e]
        refine mx_J.step (sn_59 0) (fun _ _ => rfl) ?_
        refine JgetI (g := 2) (z := Z2 3 2) hx2 (show mx_Sn _ _ 1 (mx_getf 7 2 4) from sn_59 1) a3 s3 rfl rfl rfl ?_
        refine mx_J.step (sn_59 4) (fun _ _ => rfl) ?_
        have b6 : 0 ≤ Z 3 1 ∧ Z 3 1 ≤ 900 := hG.pr 3 1
        refine JgetI (g := 1) (z := Z 3 1) hx2 (show mx_Sn _ _ 5 (mx_getf 7 1 8) from sn_59 5) a3 s3 rfl rfl (hf2 3 1 rfl) ?_
        have c39 : (Z 3 2 < Z2 3 2) → tWe T N (Z 3 2) = (Z2 3 2) → mx_J (tB l D b0 ad Hb tau) mt_59 (d + 4) 39 [some (.ref 3), none, none, none, none, none, none] [] h2 Post := by
          intro f7_0 f7_1
          refine JcI (z := 300) (show mx_Sn _ _ 39 (mx_const (.int 300) 42) from sn_59 39) rfl ?_
          refine mx_J.step (ls2 := [some (.ref 3), some (xI 300), none, none, none, none, none]) (sn_59 42) (fun _ _ => rfl) ?_
          refine JcI (z := 0) (show mx_Sn _ _ 43 (mx_const (.int 0) 44) from sn_59 43) rfl ?_
          refine mx_J.step (ls2 := [some (.ref 3), some (xI 300), some (xI 0), none, none, none, none]) (sn_59 44) (fun _ _ => rfl) ?_
          refine JcI (z := 1) (show mx_Sn _ _ 45 (mx_const (.int 1) 46) from sn_59 45) rfl ?_
          refine mx_J.step (ls2 := [some (.ref 3), some (xI 300), some (xI 0), some (xI 1), none, none, none]) (sn_59 46) (fun _ _ => rfl) ?_
          refine JcI (z := 0) (show mx_Sn _ _ 47 (mx_const (.int 0) 48) from sn_59 47) rfl ?_
          refine mx_J.step (ls2 := [some (.ref 3), some (xI 300), some (xI 0), some (xI 1), some (xI 0), none, none]) (sn_59 48) (fun _ _ => rfl) ?_
          have c50 : ∀ (m8 : Nat) (w8_1 : Int) (w8_2 : Int) (w8_3 : Int) (w8_4 : Int) (u8_5 : Option Value) (u8_6 : Option Value), 76 - w8_4 < (m8 : Int) → 300 ≤ w8_1 ∧ w8_1 ≤ 376 → 0 ≤ w8_2 ∧ w8_2 ≤ 76 → 0 ≤ w8_3 ∧ w8_3 ≤ 1 → 0 ≤ w8_4 ∧ w8_4 ≤ 76 → (w8_2 ≤ w8_4 ∧ w8_1 ≤ 300 + w8_4) → KW T (Z 3 3) (Z2 3 2) w8_4 w8_1 w8_2 w8_3 → mx_J (tB l D b0 ad Hb tau) mt_59 (d + 4) 50 [some (.ref 3), some (xI w8_1), some (xI w8_2), some (xI w8_3), some (xI w8_4), u8_5, u8_6] [] h2 Post := by
            intro m8
            induction m8 with
            | zero => intro w8_1 w8_2 w8_3 w8_4 u8_5 u8_6 q8 f8_0 f8_1 f8_2 f8_3 f8_4 f8_5; exact absurd q8 (by omega)
            | succ m8 ih8 =>
              intro w8_1 w8_2 w8_3 w8_4 u8_5 u8_6 q8 f8_0 f8_1 f8_2 f8_3 f8_4 f8_5
              refine mx_J.step (sn_59 50) (fun _ _ => rfl) ?_
              refine mx_J.step (sn_59 52) (fun _ _ => rfl) ?_
              obtain ⟨z9, hc9, b9⟩ := ct_291_4096 (d := d + 2) (l := l) (D := D) (b0 := b0) (ad := ad) (Hb := Hb) (tau := tau) hx2 hG2 
              refine Jck (show mx_Sn _ _ 54 (mx_callk 291 1 57) from sn_59 54) rfl hc9 rfl rfl rfl ?_
              refine Jicmp_ge (show mx_Sn _ _ 57 (mx_icmp_ge 152 60) from sn_59 57) (by omega) (by omega) (fun q10 => ?_) (fun q10 => ?_)
              · skip
                refine JcI (z := 299) (show mx_Sn _ _ 152 (mx_const (.int 299) 155) from sn_59 152) rfl ?_
                have eq11 : Z2 3 0 = Z 3 0 := (hf2 3 0 rfl)
                have b12 : 2 ≤ Z 3 0 ∧ Z 3 0 ≤ 4 := hG.pr 3 0
                have eq13 : Z2 3 1 = Z 3 1 := (hf2 3 1 rfl)
                have eq14 : Z2 3 3 = Z 3 3 := (hf2 3 3 rfl)
                have b15 : 0 ≤ Z 3 3 ∧ Z 3 3 ≤ 900 := hG.pr 3 3
                exact mx_J.ret (sn_59 155) (fun _ _ => rfl) (hP 299 Z2 h2 hx2 hG2 (fr_tr (M := [(3, 2)]) fr_rf (hf2) (M1 := []) rfl rfl) ⟨(KW_e (by assumption) (by omega)), ((by assumption : tWe T N (Z 3 2) = (Z2 3 2)).symm), by omega⟩)
              · skip
                refine mx_J.step (sn_59 60) (fun _ _ => rfl) ?_
                refine mx_J.step (sn_59 62) (fun _ _ => rfl) ?_
                obtain ⟨z16, hc16, b16⟩ := ct_292_4096 (d := d + 0) (l := l) (D := D) (b0 := b0) (ad := ad) (Hb := Hb) (tau := tau) hx2 hG2 (show 0 ≤ w8_4 ∧ w8_4 ≤ 75 by omega)
                refine Jck (show mx_Sn _ _ 64 (mx_callk 292 2 67) from sn_59 64) rfl hc16 rfl rfl rfl ?_
                refine mx_J.step (ls2 := [some (.ref 3), some (xI w8_1), some (xI w8_2), some (xI w8_3), some (xI w8_4), some (xI z16), u8_6]) (sn_59 67) (fun _ _ => rfl) ?_
                refine mx_J.step (sn_59 69) (fun _ _ => rfl) ?_
                have b18 : 0 ≤ Z 3 3 ∧ Z 3 3 ≤ 900 := hG.pr 3 3
                refine JgetI (g := 3) (z := Z 3 3) hx2 (show mx_Sn _ _ 70 (mx_getf 7 3 73) from sn_59 70) a3 s3 rfl rfl (hf2 3 3 rfl) ?_
                refine mx_J.step (sn_59 73) (fun _ _ => rfl) ?_
                refine Jiadd (show mx_Sn _ _ 75 (mx_iadd 76) from sn_59 75) ?_
                refine mx_J.step (sn_59 76) (fun _ _ => rfl) ?_
                refine Jisub (show mx_Sn _ _ 77 (mx_isub 78) from sn_59 77) ?_
                refine mx_J.step (ls2 := [some (.ref 3), some (xI w8_1), some (xI w8_2), some (xI w8_3), some (xI w8_4), some (xI z16), some (xI (((Z 3 3) + w8_4) - w8_2))]) (sn_59 78) (fun _ _ => rfl) ?_
                have bz : -128 ≤ Z 2 (((Z 3 3) + w8_4) - w8_2) ∧ Z 2 (((Z 3 3) + w8_4) - w8_2) ≤ 127 := (GI_pr2 hG (((Z 3 3) + w8_4) - w8_2))
                have tj : (((Z 3 3) + w8_4) - w8_2) < (Z2 3 2) → T (((Z 3 3) + w8_4) - w8_2) = Z 2 (((Z 3 3) + w8_4) - w8_2) % 256 := fun q => TX_i k4 (by omega) (by omega)
                refine mx_J.step (sn_59 80) (fun _ _ => rfl) ?_
                refine JcI (z := 32) (show mx_Sn _ _ 82 (mx_const (.int 32) 84) from sn_59 82) rfl ?_
                have c146 : ∀ (w19_1 : Int) (w19_2 : Int) (w19_3 : Int), 300 ≤ w19_1 ∧ w19_1 ≤ 376 → 0 ≤ w19_2 ∧ w19_2 ≤ 76 → 0 ≤ w19_3 ∧ w19_3 ≤ 1 → (w19_1 ≤ 301 + w8_4 ∧ w19_2 ≤ w8_4 + 1) → KW T (Z 3 3) (Z2 3 2) (w8_4 + 1) w19_1 w19_2 w19_3 → mx_J (tB l D b0 ad Hb tau) mt_59 (d + 4) 146 [some (.ref 3), some (xI w19_1), some (xI w19_2), some (xI w19_3), some (xI w8_4), some (xI z16), some (xI (((Z 3 3) + w8_4) - w8_2))] [] h2 Post := by
                  intro w19_1 w19_2 w19_3 f19_0 f19_1 f19_2 f19_3 f19_4
                  refine Jiinc (z := w8_4) (cz := 1) (ls2 := [some (.ref 3), some (xI w19_1), some (xI w19_2), some (xI w19_3), some (xI (w8_4 + 1)), some (xI z16), some (xI (((Z 3 3) + w8_4) - w8_2))]) (show mx_Sn _ _ 146 (mx_iinc 4 1 149) from sn_59 146) rfl rfl rfl rfl ?_
                  refine mx_J.step (sn_59 149) (fun _ _ => rfl) ?_
                  exact ih8 w19_1 w19_2 w19_3 (w8_4 + 1) (some (xI z16)) (some (xI (((Z 3 3) + w8_4) - w8_2))) (by omega) (by omega) (by omega) (by omega) (by omega) (by omega) (by first | exact KW_0 | assumption)
                refine Jicmp_eq (show mx_Sn _ _ 84 (mx_icmp_eq 121 87) from sn_59 84) (by omega) (by omega) (fun q20 => ?_) (fun q20 => ?_)
                · skip
                  refine mx_J.step (sn_59 121) (fun _ _ => rfl) ?_
                  have c136 : ¬ (w8_3 = 1 ∧ (((Z 3 3) + w8_4) - w8_2) = (Z2 3 2)) → mx_J (tB l D b0 ad Hb tau) mt_59 (d + 4) 136 [some (.ref 3), some (xI w8_1), some (xI w8_2), some (xI w8_3), some (xI w8_4), some (xI z16), some (xI (((Z 3 3) + w8_4) - w8_2))] [] h2 Post := by
                    intro f21_0
                    refine Jiinc (z := w8_1) (cz := 1) (ls2 := [some (.ref 3), some (xI (w8_1 + 1)), some (xI w8_2), some (xI w8_3), some (xI w8_4), some (xI z16), some (xI (((Z 3 3) + w8_4) - w8_2))]) (show mx_Sn _ _ 136 (mx_iinc 1 1 139) from sn_59 136) rfl rfl rfl rfl ?_
                    refine mx_J.step (sn_59 139) (fun _ _ => rfl) ?_
                    refine JcI (z := 1) (show mx_Sn _ _ 141 (mx_const (.int 1) 142) from sn_59 141) rfl ?_
                    refine Jiadd (show mx_Sn _ _ 142 (mx_iadd 143) from sn_59 142) ?_
                    refine mx_J.step (ls2 := [some (.ref 3), some (xI (w8_1 + 1)), some (xI (w8_4 + 1)), some (xI w8_3), some (xI w8_4), some (xI z16), some (xI (((Z 3 3) + w8_4) - w8_2))]) (sn_59 143) (fun _ _ => rfl) ?_
                    refine JcI (z := 1) (show mx_Sn _ _ 144 (mx_const (.int 1) 145) from sn_59 144) rfl ?_
                    refine mx_J.step (ls2 := [some (.ref 3), some (xI (w8_1 + 1)), some (xI (w8_4 + 1)), some (xI 1), some (xI w8_4), some (xI z16), some (xI (((Z 3 3) + w8_4) - w8_2))]) (sn_59 145) (fun _ _ => rfl) ?_
                    exact c146 (w8_1 + 1) (w8_4 + 1) 1 (by omega) (by omega) (by omega) (by omega) (KW_s (by assumption) (by omega) (by omega) (by omega))
                  refine Jif_eq (show mx_Sn _ _ 122 (mx_if_eq 136 125) from sn_59 122) (by omega) (fun q22 => ?_) (fun q22 => ?_)
                  · skip
                    exact c136 (by omega)
                  · skip
                    refine mx_J.step (sn_59 125) (fun _ _ => rfl) ?_
                    refine mx_J.step (sn_59 127) (fun _ _ => rfl) ?_
                    refine JgetI (g := 2) (z := Z2 3 2) hx2 (show mx_Sn _ _ 128 (mx_getf 7 2 131) from sn_59 128) a3 s3 rfl rfl rfl ?_
                    refine Jicmp_ne (show mx_Sn _ _ 131 (mx_icmp_ne 136 134) from sn_59 131) (by omega) (by omega) (fun q24 => ?_) (fun q24 => ?_)
                    · skip
                      exact c136 (by omega)
                    · skip
                      refine mx_J.step (sn_59 134) (fun _ _ => rfl) ?_
                      have eq25 : Z2 3 0 = Z 3 0 := (hf2 3 0 rfl)
                      have b26 : 2 ≤ Z 3 0 ∧ Z 3 0 ≤ 4 := hG.pr 3 0
                      have eq27 : Z2 3 1 = Z 3 1 := (hf2 3 1 rfl)
                      have eq28 : Z2 3 3 = Z 3 3 := (hf2 3 3 rfl)
                      exact mx_J.ret (sn_59 135) (fun _ _ => rfl) (hP w8_1 Z2 h2 hx2 hG2 (fr_tr (M := [(3, 2)]) fr_rf (hf2) (M1 := []) rfl rfl) ⟨(KW_r (by assumption) (by omega) (by omega) (by omega) (by omega)), ((by assumption : tWe T N (Z 3 2) = (Z2 3 2)).symm), by omega⟩)
                · skip
                  refine mx_J.step (sn_59 87) (fun _ _ => rfl) ?_
                  have c117 : ∀ (k29_0 : Int), 0 ≤ k29_0 ∧ k29_0 ≤ 1 → ((k29_0 = 1 ∧ (w8_3 = 1 ∧ (((Z 3 3) + w8_4) - w8_2) < (Z2 3 2) ∧ Z 2 (((Z 3 3) + w8_4) - w8_2) = z16)) ∨ (k29_0 = 0 ∧ ¬ (w8_3 = 1 ∧ (((Z 3 3) + w8_4) - w8_2) < (Z2 3 2) ∧ Z 2 (((Z 3 3) + w8_4) - w8_2) = z16))) → mx_J (tB l D b0 ad Hb tau) mt_59 (d + 4) 117 [some (.ref 3), some (xI w8_1), some (xI w8_2), some (xI w8_3), some (xI w8_4), some (xI z16), some (xI (((Z 3 3) + w8_4) - w8_2))] [xI k29_0] h2 Post := by
                    intro k29_0 f29_0 f29_1
                    refine mx_J.step (ls2 := [some (.ref 3), some (xI w8_1), some (xI w8_2), some (xI k29_0), some (xI w8_4), some (xI z16), some (xI (((Z 3 3) + w8_4) - w8_2))]) (sn_59 117) (fun _ _ => rfl) ?_
                    refine mx_J.step (sn_59 118) (fun _ _ => rfl) ?_
                    exact c146 w8_1 w8_2 k29_0 (by omega) (by omega) (by omega) (by omega) (KW_l (by assumption) (by omega) (fun e => by omega) (by omega))
                  have c116 : ¬ (w8_3 = 1 ∧ (((Z 3 3) + w8_4) - w8_2) < (Z2 3 2) ∧ Z 2 (((Z 3 3) + w8_4) - w8_2) = z16) → mx_J (tB l D b0 ad Hb tau) mt_59 (d + 4) 116 [some (.ref 3), some (xI w8_1), some (xI w8_2), some (xI w8_3), some (xI w8_4), some (xI z16), some (xI (((Z 3 3) + w8_4) - w8_2))] [] h2 Post := by
                    intro f30_0
                    refine JcI (z := 0) (show mx_Sn _ _ 116 (mx_const (.int 0) 117) from sn_59 116) rfl ?_
                    exact c117 0 (by omega) (by omega)
                  refine Jif_eq (show mx_Sn _ _ 88 (mx_if_eq 116 91) from sn_59 88) (by omega) (fun q31 => ?_) (fun q31 => ?_)
                  · skip
                    exact c116 (by omega)
                  · skip
                    refine mx_J.step (sn_59 91) (fun _ _ => rfl) ?_
                    refine mx_J.step (sn_59 93) (fun _ _ => rfl) ?_
                    refine JgetI (g := 2) (z := Z2 3 2) hx2 (show mx_Sn _ _ 94 (mx_getf 7 2 97) from sn_59 94) a3 s3 rfl rfl rfl ?_
                    refine Jicmp_ge (show mx_Sn _ _ 97 (mx_icmp_ge 116 100) from sn_59 97) (by omega) (by omega) (fun q33 => ?_) (fun q33 => ?_)
                    · skip
                      exact c116 (by omega)
                    · skip
                      refine mx_J.step (sn_59 100) (fun _ _ => rfl) ?_
                      refine JgetR (g := 0) (b := 2) hx2 (show mx_Sn _ _ 101 (mx_getf 7 0 104) from sn_59 101) a3 s3 rfl rfl (show Z2 3 0 = ((2 : Nat) : Int) from ((hf2 3 0 rfl)).trans k0) ?_
                      refine mx_J.step (sn_59 104) (fun _ _ => rfl) ?_
                      have b35 : (-128) ≤ Z 2 (((Z 3 3) + w8_4) - w8_2) ∧ Z 2 (((Z 3 3) + w8_4) - w8_2) ≤ 127 := hG.pr 2 (((Z 3 3) + w8_4) - w8_2)
                      refine JbaldI (z := Z 2 (((Z 3 3) + w8_4) - w8_2)) hx2 (show mx_Sn _ _ 106 (mx_bald 107) from sn_59 106) a2 s2 (by omega) (hf2 2 (((Z 3 3) + w8_4) - w8_2) rfl) ?_
                      refine mx_J.step (sn_59 107) (fun _ _ => rfl) ?_
                      refine Jicmp_ne (show mx_Sn _ _ 109 (mx_icmp_ne 116 112) from sn_59 109) (by omega) (by omega) (fun q36 => ?_) (fun q36 => ?_)
                      · skip
                        exact c116 (by omega)
                      · skip
                        refine JcI (z := 1) (show mx_Sn _ _ 112 (mx_const (.int 1) 113) from sn_59 112) rfl ?_
                        refine mx_J.step (sn_59 113) (fun _ _ => rfl) ?_
                        exact c117 1 (by omega) (by omega)
          exact c50 (Int.toNat (76 - 0) + 1) 300 0 1 0 none none (by omega) (by omega) (by omega) (by omega) (by omega) (by omega) (by first | exact KW_0 | assumption)
        refine Jicmp_ge (show mx_Sn _ _ 8 (mx_icmp_ge 39 11) from sn_59 8) (by omega) (by omega) (fun q37 => ?_) (fun q37 => ?_)
        · skip
          exact c39 (by omega) ((by assumption : tWe T N (Z2 3 2) = tWe T N (Z 3 2)).symm.trans ((tWe_e (T := T) (N := N) (Z2 3 2)).2.1 (fun q => by omega)))
        · skip
          refine mx_J.step (sn_59 11) (fun _ _ => rfl) ?_
          refine mx_J.step (sn_59 12) (fun _ _ => rfl) ?_
          refine JgetI (g := 2) (z := Z2 3 2) hx2 (show mx_Sn _ _ 13 (mx_getf 7 2 16) from sn_59 13) a3 s3 rfl rfl rfl ?_
          refine JcI (z := 97) (show mx_Sn _ _ 16 (mx_const (.int 97) 18) from sn_59 16) rfl ?_
          refine JcI (z := 122) (show mx_Sn _ _ 18 (mx_const (.int 122) 20) from sn_59 18) rfl ?_
          have eq40 : Z2 3 0 = Z 3 0 := (hf2 3 0 rfl)
          have b41 : 2 ≤ Z 3 0 ∧ Z 3 0 ≤ 4 := hG.pr 3 0
          have eq42 : Z2 3 1 = Z 3 1 := (hf2 3 1 rfl)
          have eq43 : Z2 2 (Z2 3 2) = Z 2 (Z2 3 2) := (hf2 2 (Z2 3 2) rfl)
          have b44 : (-128) ≤ Z 2 (Z2 3 2) ∧ Z 2 (Z2 3 2) ≤ 127 := hG.pr 2 (Z2 3 2)
          obtain ⟨z39, hc39, b39⟩ := ct_57_3 (d := d + 3) (l := l) (D := D) (b0 := b0) (ad := ad) (Hb := Hb) (tau := tau) hx2 hG2 (show 0 ≤ Z2 3 2 ∧ Z2 3 2 ≤ 900 by omega) (show 48 ≤ 97 ∧ 97 ≤ 97 by omega) (show 57 ≤ 122 ∧ 122 ≤ 122 by omega) (show Z2 3 0 = 2 by first | omega | (simp only [eq40, eq42, eq43]; omega))
          try rw [eq40] at b39
          try rw [eq42] at b39
          try rw [eq43] at b39
          refine Jcv hx2 (show mx_Sn _ _ 20 (mx_callv 57 4 7 23) from sn_59 20) a3 s3 hc39 rfl rfl rfl ?_
          refine Jif_eq (show mx_Sn _ _ 23 (mx_if_eq 39 26) from sn_59 23) (by omega) (fun q45 => ?_) (fun q45 => ?_)
          · skip
            exact c39 (by omega) ((by assumption : tWe T N (Z2 3 2) = tWe T N (Z 3 2)).symm.trans ((tWe_e (T := T) (N := N) (Z2 3 2)).2.1 (fun q => by have tx := TX_i k4 (i := (Z2 3 2)) (by omega) q.1; have bz := GI_pr2 hG (Z2 3 2); omega)))
          · skip
            have bz : -128 ≤ Z 2 (Z2 3 2) ∧ Z 2 (Z2 3 2) ≤ 127 := (GI_pr2 hG (Z2 3 2))
            have tx : (Z2 3 2) < N → T (Z2 3 2) = Z 2 (Z2 3 2) % 256 := fun q => TX_i k4 (by omega) q
            have tw := (tWe_e (T := T) (N := N) (Z2 3 2)).1 (by omega) (by have := tx (by omega); omega) (by have := tx (by omega); omega)
            refine mx_J.step (sn_59 26) (fun _ _ => rfl) ?_
            refine mx_J.step (sn_59 27) (fun _ _ => rfl) ?_
            refine JgetI (g := 2) (z := Z2 3 2) hx2 (show mx_Sn _ _ 28 (mx_getf 7 2 31) from sn_59 28) a3 s3 rfl rfl rfl ?_
            refine JcI (z := 1) (show mx_Sn _ _ 31 (mx_const (.int 1) 32) from sn_59 31) rfl ?_
            refine Jiadd (show mx_Sn _ _ 32 (mx_iadd 33) from sn_59 32) ?_
            refine JputI (g := 2) hx2 (show mx_Sn _ _ 33 (mx_putf 1 7 2 (.int) 36) from sn_59 33) a3 s3 rfl rfl rfl rfl (fun Z47 h47 hx47 hE47 => ?_)
            have hG47 := GI_up hG2 hE47 (show 0 ≤ (Z2 3 2) + 1 ∧ (Z2 3 2) + 1 ≤ 900 by omega) trivial rfl
            refine mx_J.step (sn_59 36) (fun _ _ => rfl) ?_
            have eq48 : Z47 3 2 = (Z2 3 2) + 1 := (up_at hE47)
            have eq49 : Z47 3 2 = (Z2 3 2) + 1 := (up_at hE47)
            exact ih1 Z47 h47 (by omega) (by omega) (by rw [(show Z47 3 2 = (Z2 3 2) + 1 from (up_at hE47))]; exact tw.symm.trans (by assumption)) hx47 hG47 (fr_tr (M := [(3, 2)]) (fr_tr (M := [(3, 2)]) fr_rf (hf2) (M1 := []) rfl rfl) (fr_up hE47) rfl rfl)
    have b50 : 0 ≤ Z 3 2 ∧ Z 3 2 ≤ 900 := hG.pr 3 2
    exact c0 (Int.toNat (Z 3 1 - Z 3 2) + 1) Z h (by omega) (by omega) (rfl) hx hG fr_rf
theorem ct_59_3 {l : Launch} {D : va_G} {b0 : Nat} {ad : Nat → Nat} {Hb : Heap} {tau : Nat → Int64} {d n s : Nat} {S : Nat → xS} {Z : xZ} {h : mx_H} {T : Int → Int} {N : Int} (hx : XH n s S Z h) (hG : GI n S Z)   (k0 : Z 3 0 = 2) (k1 : Z 3 3 = Z 3 2) (k2 : Z 3 2 < Z 3 1) (k3 : (97 ≤ Z 2 (Z 3 2) ∧ Z 2 (Z 3 2) ≤ 122)) (k4 : TX T N Z) (k5 : Z 3 1 = N) : ∃ (z : Int) (Z' : xZ) (h' : mx_H), mx_Ca (tB l D b0 ad Hb tau) (d + 5) 59 [.ref 3] h (some (xI z), h') ∧ XH n s S Z' h' ∧ GI n S Z' ∧ fr' [(3, 2)] Z Z' ∧ (z = tCk (tKey T (Z 3 3) (Z' 3 2)) ∧ Z' 3 2 = tWe T N (Z 3 2) ∧ 299 ≤ z ∧ z ≤ 376 ∧ (Z 3 2 < Z' 3 2 ∧ Z' 3 2 ≤ Z 3 1)) := by
  obtain ⟨r, hca, z, Z', h', e, q⟩ := Jmt (B := tB l D b0 ad Hb tau) (M := mt_59) (mi := 59) (as := [.ref 3]) (d := d + 4) (ls := [some (.ref 3), none, none, none, none, none, none]) rfl rfl rfl rfl rfl rfl (cw_59_3 (l := l) (D := D) (b0 := b0) (ad := ad) (Hb := Hb) (tau := tau) (d := d) (Post := fun r => ∃ (z : Int) (Z' : xZ) (h' : mx_H), r = (some (xI z), h') ∧ XH n s S Z' h' ∧ GI n S Z' ∧ fr' [(3, 2)] Z Z' ∧ (z = tCk (tKey T (Z 3 3) (Z' 3 2)) ∧ Z' 3 2 = tWe T N (Z 3 2) ∧ 299 ≤ z ∧ z ≤ 376 ∧ (Z 3 2 < Z' 3 2 ∧ Z' 3 2 ≤ Z 3 1))) hx hG k0 k1 k2 k3 k4 k5 (fun z Z' h' q1 q2 q3 q4 => ⟨z, Z', h', rfl, q1, q2, q3, q4⟩))
  subst e; exact ⟨z, Z', h', hca, q⟩
set_option maxRecDepth 100000 in
theorem cw_58_3 {l : Launch} {D : va_G} {b0 : Nat} {ad : Nat → Nat} {Hb : Heap} {tau : Nat → Int64} {d n s : Nat} {S : Nat → xS} {Z : xZ} {h : mx_H} {Post : mx_R → Prop} {T : Int → Int} {N : Int} (hx : XH n s S Z h) (hG : GI n S Z)   (k0 : Z 3 0 = 2) (k1 : Z 3 3 = Z 3 2) (k2 : Z 3 2 < Z 3 1) (k3 : (48 ≤ Z 2 (Z 3 2) ∧ Z 2 (Z 3 2) ≤ 57)) (k4 : TX T N Z) (k5 : Z 3 1 = N) (hP : ∀ (z : Int) (Z' : xZ) (h' : mx_H), XH n s S Z' h' → GI n S Z' → fr' [(3, 2), (3, 5)] Z Z' → Z' 3 2 = tDe T N (Z 3 2) ∧ Z' 3 5 = tNv T (Z 3 3) (Z' 3 2) ∧ 1 ≤ z ∧ z ≤ 2 ∧ ((Z 3 2 < Z' 3 2 ∧ Z' 3 2 ≤ Z 3 1) ∧ ((3 < Z' 3 2 - Z 3 3 ∧ z = 2) ∨ (¬ 3 < Z' 3 2 - Z 3 3 ∧ z = 1))) → Post (some (xI z), h')) : mx_J (tB l D b0 ad Hb tau) mt_58 (d + 1) 0 [some (.ref 3)] [] h Post := by
    have a2 : 2 < n := lt83 (GI_n hG) rfl
    have s2 : S 2 = .inr (.byte, 900, 0) := GI_s hG 2 rfl
    have a3 : 3 < n := lt83 (GI_n hG) rfl
    have s3 : S 3 = .inl (7, [2, 0, 0, 0, 0, 0, 2, 0, 2, 2, 0, 2, 0, 0, 0, 0]) := GI_s hG 3 rfl
    have b1 : 0 ≤ Z 3 3 ∧ Z 3 3 ≤ 900 := hG.pr 3 3
    refine mx_J.step (sn_58 0) (fun _ _ => rfl) ?_
    refine JcI (z := 0) (show mx_Sn _ _ 1 (mx_const (.int 0) 2) from sn_58 1) rfl ?_
    refine JputI (g := 5) hx (show mx_Sn _ _ 2 (mx_putf 1 7 5 (.int) 5) from sn_58 2) a3 s3 rfl rfl rfl rfl (fun Z2 h2 hx2 hE2 => ?_)
    have hG2 := GI_up hG hE2 (show 0 ≤ 0 ∧ 0 ≤ 999 by omega) trivial rfl
    have c5 : ∀ (m3 : Nat)  (Z4 : xZ) (h4 : mx_H), Z 3 1 - Z4 3 2 < (m3 : Int) → (Z 3 2 ≤ Z4 3 2 ∧ Z4 3 2 ≤ Z 3 1) → (Z4 3 2 = Z 3 2 → Z4 3 5 = 0) → (Z4 3 2 ≤ Z 3 2 + 1 → Z4 3 5 ≤ 9) → (Z4 3 2 ≤ Z 3 2 + 2 → Z4 3 5 ≤ 99) → tDe T N (Z4 3 2) = tDe T N (Z 3 2) → Z4 3 5 = tNv T (Z 3 3) (Z4 3 2) → XH n s S Z4 h4 → GI n S Z4 → fr' [(3, 2), (3, 5)] Z2 Z4 → mx_J (tB l D b0 ad Hb tau) mt_58 (d + 1) 5 [some (.ref 3)] [] h4 Post := by
      intro m3
      induction m3 with
      | zero => intro Z4 h4 q3 f3_0 f3_1 f3_2 f3_3 f3_4 f3_5 hx4 hG4 hf4; exact absurd q3 (by omega)
      | succ m3 ih3 =>
        intro Z4 h4 q3 f3_0 f3_1 f3_2 f3_3 f3_4 f3_5 hx4 hG4 hf4
        have b5 : 0 ≤ Z4 3 2 ∧ Z4 3 2 ≤ 900 := hG4.pr 3 2
        have b6 : 0 ≤ Z4 3 5 ∧ Z4 3 5 ≤ 999 := hG4.pr 3 5
        have cg4 : (Z4 3 2) = Z 3 2 → Z 2 (Z4 3 2) = Z 2 (Z 3 2) := fun e => by rw [e]
        refine mx_J.step (sn_58 5) (fun _ _ => rfl) ?_
        refine JgetI (g := 2) (z := Z4 3 2) hx4 (show mx_Sn _ _ 6 (mx_getf 7 2 9) from sn_58 6) a3 s3 rfl rfl rfl ?_
        refine mx_J.step (sn_58 9) (fun _ _ => rfl) ?_
        have b9 : 0 ≤ Z 3 1 ∧ Z 3 1 ≤ 900 := hG.pr 3 1
        refine JgetI (g := 1) (z := Z 3 1) hx4 (show mx_Sn _ _ 10 (mx_getf 7 1 13) from sn_58 10) a3 s3 rfl rfl ((hf4 3 1 rfl).trans (up_ni hE2 (by decide))) ?_
        have c81 : (Z 3 2 < Z4 3 2) → tDe T N (Z 3 2) = (Z4 3 2) → mx_J (tB l D b0 ad Hb tau) mt_58 (d + 1) 81 [some (.ref 3)] [] h4 Post := by
          intro f10_0 f10_1
          refine mx_J.step (sn_58 81) (fun _ _ => rfl) ?_
          refine JgetI (g := 2) (z := Z4 3 2) hx4 (show mx_Sn _ _ 82 (mx_getf 7 2 85) from sn_58 82) a3 s3 rfl rfl rfl ?_
          refine mx_J.step (sn_58 85) (fun _ _ => rfl) ?_
          refine JgetI (g := 3) (z := Z 3 3) hx4 (show mx_Sn _ _ 86 (mx_getf 7 3 89) from sn_58 86) a3 s3 rfl rfl ((hf4 3 3 rfl).trans (up_ni hE2 (by decide))) ?_
          refine Jisub (show mx_Sn _ _ 89 (mx_isub 90) from sn_58 89) ?_
          refine JcI (z := 3) (show mx_Sn _ _ 90 (mx_const (.int 3) 91) from sn_58 90) rfl ?_
          have c99 : ∀ (k13_0 : Int), 1 ≤ k13_0 ∧ k13_0 ≤ 2 → ((3 < (Z4 3 2) - Z 3 3 ∧ k13_0 = 2) ∨ (¬ 3 < (Z4 3 2) - Z 3 3 ∧ k13_0 = 1)) → mx_J (tB l D b0 ad Hb tau) mt_58 (d + 1) 99 [some (.ref 3)] [xI k13_0] h4 Post := by
            intro k13_0 f13_0 f13_1
            have eq14 : Z4 3 0 = Z 3 0 := ((hf4 3 0 rfl).trans (up_ni hE2 (by decide)))
            have b15 : 2 ≤ Z 3 0 ∧ Z 3 0 ≤ 4 := hG.pr 3 0
            have eq16 : Z4 3 1 = Z 3 1 := ((hf4 3 1 rfl).trans (up_ni hE2 (by decide)))
            have eq17 : Z4 3 3 = Z 3 3 := ((hf4 3 3 rfl).trans (up_ni hE2 (by decide)))
            exact mx_J.ret (sn_58 99) (fun _ _ => rfl) (hP k13_0 Z4 h4 hx4 hG4 (fr_tr (M := [(3, 2), (3, 5)]) (fr_tr (M := [(3, 2), (3, 5)]) fr_rf (fr_up hE2) (M1 := []) rfl rfl) (hf4) rfl rfl) ⟨((by assumption : tDe T N (Z 3 2) = (Z4 3 2)).symm), (by assumption), by omega⟩)
          refine Jicmp_le (show mx_Sn _ _ 91 (mx_icmp_le 98 94) from sn_58 91) (by omega) (by omega) (fun q18 => ?_) (fun q18 => ?_)
          · skip
            refine JcI (z := 1) (show mx_Sn _ _ 98 (mx_const (.int 1) 99) from sn_58 98) rfl ?_
            exact c99 1 (by omega) (by omega)
          · skip
            refine JcI (z := 2) (show mx_Sn _ _ 94 (mx_const (.int 2) 95) from sn_58 94) rfl ?_
            refine mx_J.step (sn_58 95) (fun _ _ => rfl) ?_
            exact c99 2 (by omega) (by omega)
        refine Jicmp_ge (show mx_Sn _ _ 13 (mx_icmp_ge 81 16) from sn_58 13) (by omega) (by omega) (fun q19 => ?_) (fun q19 => ?_)
        · skip
          exact c81 (by omega) ((by assumption : tDe T N (Z4 3 2) = tDe T N (Z 3 2)).symm.trans ((tDe_e (T := T) (N := N) (Z4 3 2)).2.1 (fun q => by omega)))
        · skip
          refine mx_J.step (sn_58 16) (fun _ _ => rfl) ?_
          refine mx_J.step (sn_58 17) (fun _ _ => rfl) ?_
          refine JgetI (g := 2) (z := Z4 3 2) hx4 (show mx_Sn _ _ 18 (mx_getf 7 2 21) from sn_58 18) a3 s3 rfl rfl rfl ?_
          refine JcI (z := 48) (show mx_Sn _ _ 21 (mx_const (.int 48) 23) from sn_58 21) rfl ?_
          refine JcI (z := 57) (show mx_Sn _ _ 23 (mx_const (.int 57) 25) from sn_58 23) rfl ?_
          have eq22 : Z4 3 0 = Z 3 0 := ((hf4 3 0 rfl).trans (up_ni hE2 (by decide)))
          have b23 : 2 ≤ Z 3 0 ∧ Z 3 0 ≤ 4 := hG.pr 3 0
          have eq24 : Z4 3 1 = Z 3 1 := ((hf4 3 1 rfl).trans (up_ni hE2 (by decide)))
          have eq25 : Z4 2 (Z4 3 2) = Z 2 (Z4 3 2) := ((hf4 2 (Z4 3 2) rfl).trans (up_nk hE2 rfl))
          have b26 : (-128) ≤ Z 2 (Z4 3 2) ∧ Z 2 (Z4 3 2) ≤ 127 := hG.pr 2 (Z4 3 2)
          obtain ⟨z21, hc21, b21⟩ := ct_57_3 (d := d + 0) (l := l) (D := D) (b0 := b0) (ad := ad) (Hb := Hb) (tau := tau) hx4 hG4 (show 0 ≤ Z4 3 2 ∧ Z4 3 2 ≤ 900 by omega) (show 48 ≤ 48 ∧ 48 ≤ 97 by omega) (show 57 ≤ 57 ∧ 57 ≤ 122 by omega) (show Z4 3 0 = 2 by first | omega | (simp only [eq22, eq24, eq25]; omega))
          try rw [eq22] at b21
          try rw [eq24] at b21
          try rw [eq25] at b21
          refine Jcv hx4 (show mx_Sn _ _ 25 (mx_callv 57 4 7 28) from sn_58 25) a3 s3 hc21 rfl rfl rfl ?_
          refine Jif_eq (show mx_Sn _ _ 28 (mx_if_eq 81 31) from sn_58 28) (by omega) (fun q27 => ?_) (fun q27 => ?_)
          · skip
            exact c81 (by omega) ((by assumption : tDe T N (Z4 3 2) = tDe T N (Z 3 2)).symm.trans ((tDe_e (T := T) (N := N) (Z4 3 2)).2.1 (fun q => by have tx := TX_i k4 (i := (Z4 3 2)) (by omega) q.1; have bz := GI_pr2 hG (Z4 3 2); omega)))
          · skip
            have bz : -128 ≤ Z 2 (Z4 3 2) ∧ Z 2 (Z4 3 2) ≤ 127 := (GI_pr2 hG (Z4 3 2))
            have tx : (Z4 3 2) < N → T (Z4 3 2) = Z 2 (Z4 3 2) % 256 := fun q => TX_i k4 (by omega) q
            have td := (tDe_e (T := T) (N := N) (Z4 3 2)).1 (by omega) (by have := tx (by omega); omega) (by have := tx (by omega); omega)
            refine mx_J.step (sn_58 31) (fun _ _ => rfl) ?_
            refine JgetI (g := 2) (z := Z4 3 2) hx4 (show mx_Sn _ _ 32 (mx_getf 7 2 35) from sn_58 32) a3 s3 rfl rfl rfl ?_
            refine mx_J.step (sn_58 35) (fun _ _ => rfl) ?_
            refine JgetI (g := 3) (z := Z 3 3) hx4 (show mx_Sn _ _ 36 (mx_getf 7 3 39) from sn_58 36) a3 s3 rfl rfl ((hf4 3 3 rfl).trans (up_ni hE2 (by decide))) ?_
            refine Jisub (show mx_Sn _ _ 39 (mx_isub 40) from sn_58 39) ?_
            refine JcI (z := 3) (show mx_Sn _ _ 40 (mx_const (.int 3) 41) from sn_58 40) rfl ?_
            have c68 : ∀  (Z31 : xZ) (h31 : mx_H), ((Z31 3 2 ≤ Z 3 2 → Z31 3 5 ≤ 9) ∧ (Z31 3 2 ≤ Z 3 2 + 1 → Z31 3 5 ≤ 99) ∧ Z31 3 2 < Z 3 1) → Z31 3 5 = tNv T (Z 3 3) ((Z4 3 2) + 1) → XH n s S Z31 h31 → GI n S Z31 → fr' [(3, 5)] Z4 Z31 → mx_J (tB l D b0 ad Hb tau) mt_58 (d + 1) 68 [some (.ref 3)] [] h31 Post := by
              intro Z31 h31 f30_0 f30_1 hx31 hG31 hf31
              have eq32 : Z31 3 2 = Z4 3 2 := (hf31 3 2 rfl)
              have b33 : 0 ≤ Z31 3 5 ∧ Z31 3 5 ≤ 999 := hG31.pr 3 5
              refine mx_J.step (sn_58 68) (fun _ _ => rfl) ?_
              refine mx_J.step (sn_58 69) (fun _ _ => rfl) ?_
              refine JgetI (g := 2) (z := Z4 3 2) hx31 (show mx_Sn _ _ 70 (mx_getf 7 2 73) from sn_58 70) a3 s3 rfl rfl (hf31 3 2 rfl) ?_
              refine JcI (z := 1) (show mx_Sn _ _ 73 (mx_const (.int 1) 74) from sn_58 73) rfl ?_
              refine Jiadd (show mx_Sn _ _ 74 (mx_iadd 75) from sn_58 74) ?_
              refine JputI (g := 2) hx31 (show mx_Sn _ _ 75 (mx_putf 1 7 2 (.int) 78) from sn_58 75) a3 s3 rfl rfl rfl rfl (fun Z35 h35 hx35 hE35 => ?_)
              have hG35 := GI_up hG31 hE35 (show 0 ≤ (Z4 3 2) + 1 ∧ (Z4 3 2) + 1 ≤ 900 by omega) trivial rfl
              refine mx_J.step (sn_58 78) (fun _ _ => rfl) ?_
              have eq36 : Z35 3 2 = (Z4 3 2) + 1 := (up_at hE35)
              have eq37 : Z35 3 2 = (Z4 3 2) + 1 := (up_at hE35)
              have eq38 : Z35 3 5 = Z31 3 5 := (up_ni hE35 (by decide))
              have eq39 : Z35 3 2 = (Z4 3 2) + 1 := (up_at hE35)
              have eq40 : Z35 3 5 = Z31 3 5 := (up_ni hE35 (by decide))
              have eq41 : Z35 3 2 = (Z4 3 2) + 1 := (up_at hE35)
              have eq42 : Z35 3 5 = Z31 3 5 := (up_ni hE35 (by decide))
              have eq43 : Z35 3 2 = (Z4 3 2) + 1 := (up_at hE35)
              exact ih3 Z35 h35 (by omega) (by omega) (by omega) (by omega) (by omega) (by rw [(show Z35 3 2 = (Z4 3 2) + 1 from (up_at hE35))]; exact td.symm.trans (by assumption)) (by rw [(show Z35 3 2 = (Z4 3 2) + 1 from (up_at hE35)), (show Z35 3 5 = Z31 3 5 from (up_ni hE35 (by decide)))]; assumption) hx35 hG35 (fr_tr (M := [(3, 2), (3, 5)]) (fr_tr (M := [(3, 2), (3, 5)]) (fr_tr (M := [(3, 2), (3, 5)]) fr_rf (hf4) (M1 := []) rfl rfl) (hf31) rfl rfl) (fr_up hE35) rfl rfl)
            refine Jicmp_ge (show mx_Sn _ _ 41 (mx_icmp_ge 68 44) from sn_58 41) (by omega) (by omega) (fun q44 => ?_) (fun q44 => ?_)
            · skip
              exact c68 Z4 h4 (by omega) ((by assumption : Z4 3 5 = tNv T (Z 3 3) (Z4 3 2)).trans (tNv_m (by omega)).symm) hx4 hG4 fr_rf
            · skip
              refine mx_J.step (sn_58 44) (fun _ _ => rfl) ?_
              refine mx_J.step (sn_58 45) (fun _ _ => rfl) ?_
              refine JgetI (g := 5) (z := Z4 3 5) hx4 (show mx_Sn _ _ 46 (mx_getf 7 5 49) from sn_58 46) a3 s3 rfl rfl rfl ?_
              refine JcI (z := 10) (show mx_Sn _ _ 49 (mx_const (.int 10) 51) from sn_58 49) rfl ?_
              refine Jimul (show mx_Sn _ _ 51 (mx_imul 52) from sn_58 51) ?_
              refine mx_J.step (sn_58 52) (fun _ _ => rfl) ?_
              refine JgetR (g := 0) (b := 2) hx4 (show mx_Sn _ _ 53 (mx_getf 7 0 56) from sn_58 53) a3 s3 rfl rfl (show Z4 3 0 = ((2 : Nat) : Int) from (((hf4 3 0 rfl).trans (up_ni hE2 (by decide)))).trans k0) ?_
              refine mx_J.step (sn_58 56) (fun _ _ => rfl) ?_
              refine JgetI (g := 2) (z := Z4 3 2) hx4 (show mx_Sn _ _ 57 (mx_getf 7 2 60) from sn_58 57) a3 s3 rfl rfl rfl ?_
              refine JbaldI (z := Z 2 (Z4 3 2)) hx4 (show mx_Sn _ _ 60 (mx_bald 61) from sn_58 60) a2 s2 (by omega) ((hf4 2 (Z4 3 2) rfl).trans (up_nk hE2 rfl)) ?_
              refine Jiadd (show mx_Sn _ _ 61 (mx_iadd 62) from sn_58 61) ?_
              refine JcI (z := 48) (show mx_Sn _ _ 62 (mx_const (.int 48) 64) from sn_58 62) rfl ?_
              refine Jisub (show mx_Sn _ _ 64 (mx_isub 65) from sn_58 64) ?_
              refine JputI (g := 5) hx4 (show mx_Sn _ _ 65 (mx_putf 1 7 5 (.int) 68) from sn_58 65) a3 s3 rfl rfl rfl rfl (fun Z48 h48 hx48 hE48 => ?_)
              have hG48 := GI_up hG4 hE48 (show 0 ≤ (((Z4 3 5) * 10) + (Z 2 (Z4 3 2))) - 48 ∧ (((Z4 3 5) * 10) + (Z 2 (Z4 3 2))) - 48 ≤ 999 by omega) trivial rfl
              have eq49 : Z48 3 2 = Z4 3 2 := (up_ni hE48 (by decide))
              have eq50 : Z48 3 5 = (((Z4 3 5) * 10) + (Z 2 (Z4 3 2))) - 48 := (up_at hE48)
              exact c68 Z48 h48 (by omega) (by have t1 := tNv_s (T := T) (b := Z 3 3) (e := (Z4 3 2)) (by omega) (by omega); have t2 := tx (by omega); have t3 : Z48 3 5 = _ := (up_at hE48); omega) hx48 hG48 (fr_tr (M := [(3, 5)]) fr_rf (fr_up hE48) (M1 := []) rfl rfl)
    have eq51 : Z2 3 2 = Z 3 2 := (up_ni hE2 (by decide))
    have b52 : 0 ≤ Z 3 2 ∧ Z 3 2 ≤ 900 := hG.pr 3 2
    have eq53 : Z2 3 2 = Z 3 2 := (up_ni hE2 (by decide))
    have eq54 : Z2 3 5 = 0 := (up_at hE2)
    have eq55 : Z2 3 2 = Z 3 2 := (up_ni hE2 (by decide))
    have eq56 : Z2 3 5 = 0 := (up_at hE2)
    have eq57 : Z2 3 2 = Z 3 2 := (up_ni hE2 (by decide))
    have eq58 : Z2 3 5 = 0 := (up_at hE2)
    have eq59 : Z2 3 2 = Z 3 2 := (up_ni hE2 (by decide))
    exact c5 (Int.toNat (Z 3 1 - Z2 3 2) + 1) Z2 h2 (by omega) (by omega) (by omega) (by omega) (by omega) (by rw [(show Z2 3 2 = Z 3 2 from (up_ni hE2 (by decide)))]) (by rw [(show Z2 3 2 = Z 3 2 from (up_ni hE2 (by decide))), (show Z2 3 5 = 0 from (up_at hE2)), tNv_0 (by omega)]) hx2 hG2 fr_rf
theorem ct_58_3 {l : Launch} {D : va_G} {b0 : Nat} {ad : Nat → Nat} {Hb : Heap} {tau : Nat → Int64} {d n s : Nat} {S : Nat → xS} {Z : xZ} {h : mx_H} {T : Int → Int} {N : Int} (hx : XH n s S Z h) (hG : GI n S Z)   (k0 : Z 3 0 = 2) (k1 : Z 3 3 = Z 3 2) (k2 : Z 3 2 < Z 3 1) (k3 : (48 ≤ Z 2 (Z 3 2) ∧ Z 2 (Z 3 2) ≤ 57)) (k4 : TX T N Z) (k5 : Z 3 1 = N) : ∃ (z : Int) (Z' : xZ) (h' : mx_H), mx_Ca (tB l D b0 ad Hb tau) (d + 2) 58 [.ref 3] h (some (xI z), h') ∧ XH n s S Z' h' ∧ GI n S Z' ∧ fr' [(3, 2), (3, 5)] Z Z' ∧ (Z' 3 2 = tDe T N (Z 3 2) ∧ Z' 3 5 = tNv T (Z 3 3) (Z' 3 2) ∧ 1 ≤ z ∧ z ≤ 2 ∧ ((Z 3 2 < Z' 3 2 ∧ Z' 3 2 ≤ Z 3 1) ∧ ((3 < Z' 3 2 - Z 3 3 ∧ z = 2) ∨ (¬ 3 < Z' 3 2 - Z 3 3 ∧ z = 1)))) := by
  obtain ⟨r, hca, z, Z', h', e, q⟩ := Jmt (B := tB l D b0 ad Hb tau) (M := mt_58) (mi := 58) (as := [.ref 3]) (d := d + 1) (ls := [some (.ref 3)]) rfl rfl rfl rfl rfl rfl (cw_58_3 (l := l) (D := D) (b0 := b0) (ad := ad) (Hb := Hb) (tau := tau) (d := d) (Post := fun r => ∃ (z : Int) (Z' : xZ) (h' : mx_H), r = (some (xI z), h') ∧ XH n s S Z' h' ∧ GI n S Z' ∧ fr' [(3, 2), (3, 5)] Z Z' ∧ (Z' 3 2 = tDe T N (Z 3 2) ∧ Z' 3 5 = tNv T (Z 3 3) (Z' 3 2) ∧ 1 ≤ z ∧ z ≤ 2 ∧ ((Z 3 2 < Z' 3 2 ∧ Z' 3 2 ≤ Z 3 1) ∧ ((3 < Z' 3 2 - Z 3 3 ∧ z = 2) ∨ (¬ 3 < Z' 3 2 - Z 3 3 ∧ z = 1))))) hx hG k0 k1 k2 k3 k4 k5 (fun z Z' h' q1 q2 q3 q4 => ⟨z, Z', h', rfl, q1, q2, q3, q4⟩))
  subst e; exact ⟨z, Z', h', hca, q⟩
set_option maxRecDepth 100000 in
theorem cw_56_3 {l : Launch} {D : va_G} {b0 : Nat} {ad : Nat → Nat} {Hb : Heap} {tau : Nat → Int64} {d n s : Nat} {S : Nat → xS} {Z : xZ} {h : mx_H} {Post : mx_R → Prop} {T : Int → Int} {N : Int} (hx : XH n s S Z h) (hG : GI n S Z)   (k0 : Z 3 0 = 2) (k1 : Z 3 2 ≤ Z 3 1) (k2 : TX T N Z) (k3 : Z 3 1 = N) (hP : ∀ (Z' : xZ) (h' : mx_H), XH n s S Z' h' → GI n S Z' → fr' [(3, 2), (3, 3), (3, 4), (3, 5)] Z Z' → AV T N Z Z' ∧ ((¬ Z 3 14 = 0 ∧ Z' 3 2 = Z 3 2 ∧ Z' 3 3 = Z 3 3 ∧ Z' 3 4 = Z 3 4) ∨ (Z 3 14 = 0 ∧ Z 3 2 ≤ Z' 3 3 ∧ Z' 3 3 ≤ Z' 3 2 ∧ Z' 3 2 ≤ Z 3 1 ∧ (Z' 3 4 = 0 ∨ Z' 3 3 < Z' 3 2))) → Post (none, h')) : mx_J (tB l D b0 ad Hb tau) mt_56 (d + 5) 0 [some (.ref 3), none] [] h Post := by
    have a2 : 2 < n := lt83 (GI_n hG) rfl
    have s2 : S 2 = .inr (.byte, 900, 0) := GI_s hG 2 rfl
    have a3 : 3 < n := lt83 (GI_n hG) rfl
    have s3 : S 3 = .inl (7, [2, 0, 0, 0, 0, 0, 2, 0, 2, 2, 0, 2, 0, 0, 0, 0]) := GI_s hG 3 rfl
    refine mx_J.step (sn_56 0) (fun _ _ => rfl) ?_
    have b2 : 0 ≤ Z 3 14 ∧ Z 3 14 ≤ 4 := hG.pr 3 14
    refine JgetI (g := 14) (z := Z 3 14) hx (show mx_Sn _ _ 1 (mx_getf 7 14 4) from sn_56 1) a3 s3 rfl rfl rfl ?_
    refine Jif_eq (show mx_Sn _ _ 4 (mx_if_eq 8 7) from sn_56 4) (by omega) (fun q3 => ?_) (fun q3 => ?_)
    · skip
      have c8 : ∀ (m4 : Nat)  (Z5 : xZ) (h5 : mx_H), Z 3 1 - Z5 3 2 < (m4 : Int) → (Z5 3 2 ≤ Z 3 1 ∧ Z 3 2 ≤ Z5 3 2) → tBg T N (Z5 3 2) = tBg T N (Z 3 2) → XH n s S Z5 h5 → GI n S Z5 → fr' [(3, 2)] Z Z5 → mx_J (tB l D b0 ad Hb tau) mt_56 (d + 5) 8 [some (.ref 3), none] [] h5 Post := by
        intro m4
        induction m4 with
        | zero => intro Z5 h5 q4 f4_0 f4_1 hx5 hG5 hf5; exact absurd q4 (by omega)
        | succ m4 ih4 =>
          intro Z5 h5 q4 f4_0 f4_1 hx5 hG5 hf5
          have b6 : 0 ≤ Z5 3 2 ∧ Z5 3 2 ≤ 900 := hG5.pr 3 2
          have bz : -128 ≤ Z 2 (Z5 3 2) ∧ Z 2 (Z5 3 2) ≤ 127 := (GI_pr2 hG (Z5 3 2))
          have tx : (Z5 3 2) < N → T (Z5 3 2) = Z 2 (Z5 3 2) % 256 := fun q => TX_i k2 (by omega) q
          refine mx_J.step (sn_56 8) (fun _ _ => rfl) ?_
          refine JgetI (g := 2) (z := Z5 3 2) hx5 (show mx_Sn _ _ 9 (mx_getf 7 2 12) from sn_56 9) a3 s3 rfl rfl rfl ?_
          refine mx_J.step (sn_56 12) (fun _ _ => rfl) ?_
          have b9 : 0 ≤ Z 3 1 ∧ Z 3 1 ≤ 900 := hG.pr 3 1
          refine JgetI (g := 1) (z := Z 3 1) hx5 (show mx_Sn _ _ 13 (mx_getf 7 1 16) from sn_56 13) a3 s3 rfl rfl (hf5 3 1 rfl) ?_
          have c60 : ¬ ((Z5 3 2) < Z 3 1 ∧ (Z 2 (Z5 3 2) = 10 ∨ Z 2 (Z5 3 2) = 32)) → mx_J (tB l D b0 ad Hb tau) mt_56 (d + 5) 60 [some (.ref 3), none] [] h5 Post := by
            intro f10_0
            have tb : (Z5 3 2) = tBg T N (Z 3 2) := ((tBg_e (T := T) (N := N) (Z5 3 2)).2.1 (fun q => by have := tx q.1; omega)).symm.trans (by assumption)
            refine mx_J.step (sn_56 60) (fun _ _ => rfl) ?_
            refine mx_J.step (sn_56 61) (fun _ _ => rfl) ?_
            refine JgetI (g := 2) (z := Z5 3 2) hx5 (show mx_Sn _ _ 62 (mx_getf 7 2 65) from sn_56 62) a3 s3 rfl rfl rfl ?_
            refine JputI (g := 3) hx5 (show mx_Sn _ _ 65 (mx_putf 1 7 3 (.int) 68) from sn_56 65) a3 s3 rfl rfl rfl rfl (fun Z12 h12 hx12 hE12 => ?_)
            have hG12 := GI_up hG5 hE12 (show 0 ≤ Z5 3 2 ∧ Z5 3 2 ≤ 900 by omega) trivial rfl
            refine mx_J.step (sn_56 68) (fun _ _ => rfl) ?_
            refine JgetI (g := 2) (z := Z5 3 2) hx12 (show mx_Sn _ _ 69 (mx_getf 7 2 72) from sn_56 69) a3 s3 rfl rfl (up_ni hE12 (by decide)) ?_
            refine mx_J.step (sn_56 72) (fun _ _ => rfl) ?_
            refine JgetI (g := 1) (z := Z 3 1) hx12 (show mx_Sn _ _ 73 (mx_getf 7 1 76) from sn_56 73) a3 s3 rfl rfl ((up_ni hE12 (by decide)).trans (hf5 3 1 rfl)) ?_
            refine Jicmp_lt (show mx_Sn _ _ 76 (mx_icmp_lt 87 79) from sn_56 76) (by omega) (by omega) (fun q15 => ?_) (fun q15 => ?_)
            · skip
              refine mx_J.step (sn_56 87) (fun _ _ => rfl) ?_
              refine mx_J.step (sn_56 88) (fun _ _ => rfl) ?_
              refine JgetI (g := 2) (z := Z5 3 2) hx12 (show mx_Sn _ _ 89 (mx_getf 7 2 92) from sn_56 89) a3 s3 rfl rfl (up_ni hE12 (by decide)) ?_
              refine JcI (z := 97) (show mx_Sn _ _ 92 (mx_const (.int 97) 94) from sn_56 92) rfl ?_
              refine JcI (z := 122) (show mx_Sn _ _ 94 (mx_const (.int 122) 96) from sn_56 94) rfl ?_
              have eq18 : Z12 3 0 = Z 3 0 := ((up_ni hE12 (by decide)).trans (hf5 3 0 rfl))
              have b19 : 2 ≤ Z 3 0 ∧ Z 3 0 ≤ 4 := hG.pr 3 0
              have eq20 : Z12 3 1 = Z 3 1 := ((up_ni hE12 (by decide)).trans (hf5 3 1 rfl))
              have eq21 : Z12 2 (Z5 3 2) = Z 2 (Z5 3 2) := ((up_nk hE12 rfl).trans (hf5 2 (Z5 3 2) rfl))
              have b22 : (-128) ≤ Z 2 (Z5 3 2) ∧ Z 2 (Z5 3 2) ≤ 127 := hG.pr 2 (Z5 3 2)
              obtain ⟨z17, hc17, b17⟩ := ct_57_3 (d := d + 4) (l := l) (D := D) (b0 := b0) (ad := ad) (Hb := Hb) (tau := tau) hx12 hG12 (show 0 ≤ Z5 3 2 ∧ Z5 3 2 ≤ 900 by omega) (show 48 ≤ 97 ∧ 97 ≤ 97 by omega) (show 57 ≤ 122 ∧ 122 ≤ 122 by omega) (show Z12 3 0 = 2 by first | omega | (simp only [eq18, eq20, eq21]; omega))
              try rw [eq18] at b17
              try rw [eq20] at b17
              try rw [eq21] at b17
              refine Jcv hx12 (show mx_Sn _ _ 96 (mx_callv 57 4 7 99) from sn_56 96) a3 s3 hc17 rfl rfl rfl ?_
              refine Jif_eq (show mx_Sn _ _ 99 (mx_if_eq 113 102) from sn_56 99) (by omega) (fun q23 => ?_) (fun q23 => ?_)
              · skip
                refine mx_J.step (sn_56 113) (fun _ _ => rfl) ?_
                refine mx_J.step (sn_56 114) (fun _ _ => rfl) ?_
                refine JgetI (g := 2) (z := Z5 3 2) hx12 (show mx_Sn _ _ 115 (mx_getf 7 2 118) from sn_56 115) a3 s3 rfl rfl (up_ni hE12 (by decide)) ?_
                refine JcI (z := 48) (show mx_Sn _ _ 118 (mx_const (.int 48) 120) from sn_56 118) rfl ?_
                refine JcI (z := 57) (show mx_Sn _ _ 120 (mx_const (.int 57) 122) from sn_56 120) rfl ?_
                have eq26 : Z12 3 0 = Z 3 0 := ((up_ni hE12 (by decide)).trans (hf5 3 0 rfl))
                have eq27 : Z12 3 1 = Z 3 1 := ((up_ni hE12 (by decide)).trans (hf5 3 1 rfl))
                have eq28 : Z12 2 (Z5 3 2) = Z 2 (Z5 3 2) := ((up_nk hE12 rfl).trans (hf5 2 (Z5 3 2) rfl))
                obtain ⟨z25, hc25, b25⟩ := ct_57_3 (d := d + 4) (l := l) (D := D) (b0 := b0) (ad := ad) (Hb := Hb) (tau := tau) hx12 hG12 (show 0 ≤ Z5 3 2 ∧ Z5 3 2 ≤ 900 by omega) (show 48 ≤ 48 ∧ 48 ≤ 97 by omega) (show 57 ≤ 57 ∧ 57 ≤ 122 by omega) (show Z12 3 0 = 2 by first | omega | (simp only [eq26, eq27, eq28]; omega))
                try rw [eq26] at b25
                try rw [eq27] at b25
                try rw [eq28] at b25
                refine Jcv hx12 (show mx_Sn _ _ 122 (mx_callv 57 4 7 125) from sn_56 122) a3 s3 hc25 rfl rfl rfl ?_
                refine Jif_eq (show mx_Sn _ _ 125 (mx_if_eq 139 128) from sn_56 125) (by omega) (fun q29 => ?_) (fun q29 => ?_)
                · skip
                  have kd := tKd_sig (T := T) (N := N) (p := Z 3 2) (by omega) (by rw [← tb]; have := tx (by omega); omega) (by rw [← tb]; have := tx (by omega); omega)
                  refine mx_J.step (sn_56 139) (fun _ _ => rfl) ?_
                  refine JgetR (g := 0) (b := 2) hx12 (show mx_Sn _ _ 140 (mx_getf 7 0 143) from sn_56 140) a3 s3 rfl rfl (show Z12 3 0 = ((2 : Nat) : Int) from (((up_ni hE12 (by decide)).trans (hf5 3 0 rfl))).trans k0) ?_
                  refine mx_J.step (sn_56 143) (fun _ _ => rfl) ?_
                  refine JgetI (g := 2) (z := Z5 3 2) hx12 (show mx_Sn _ _ 144 (mx_getf 7 2 147) from sn_56 144) a3 s3 rfl rfl (up_ni hE12 (by decide)) ?_
                  refine JbaldI (z := Z 2 (Z5 3 2)) hx12 (show mx_Sn _ _ 147 (mx_bald 148) from sn_56 147) a2 s2 (by omega) ((up_nk hE12 rfl).trans (hf5 2 (Z5 3 2) rfl)) ?_
                  refine JcI (z := 255) (show mx_Sn _ _ 148 (mx_const (.int 255) 151) from sn_56 148) rfl ?_
                  refine JiandM (q := 256) 8 (show mx_Sn _ _ 151 (mx_iand 152) from sn_56 151) rfl rfl rfl ?_
                  refine Ji2c (show mx_Sn _ _ 152 (mx_i2c 153) from sn_56 152) (by omega) ?_
                  refine mx_J.step (ls2 := [some (.ref 3), some (xI ((Z 2 (Z5 3 2)) % 256))]) (sn_56 153) (fun _ _ => rfl) ?_
                  refine mx_J.step (sn_56 154) (fun _ _ => rfl) ?_
                  refine mx_J.step (sn_56 155) (fun _ _ => rfl) ?_
                  refine JgetI (g := 2) (z := Z5 3 2) hx12 (show mx_Sn _ _ 156 (mx_getf 7 2 159) from sn_56 156) a3 s3 rfl rfl (up_ni hE12 (by decide)) ?_
                  refine JcI (z := 1) (show mx_Sn _ _ 159 (mx_const (.int 1) 160) from sn_56 159) rfl ?_
                  refine Jiadd (show mx_Sn _ _ 160 (mx_iadd 161) from sn_56 160) ?_
                  refine JputI (g := 2) hx12 (show mx_Sn _ _ 161 (mx_putf 1 7 2 (.int) 164) from sn_56 161) a3 s3 rfl rfl rfl rfl (fun Z33 h33 hx33 hE33 => ?_)
                  have hG33 := GI_up hG12 hE33 (show 0 ≤ (Z5 3 2) + 1 ∧ (Z5 3 2) + 1 ≤ 900 by omega) trivial rfl
                  refine mx_J.step (sn_56 164) (fun _ _ => rfl) ?_
                  refine mx_J.step (sn_56 165) (fun _ _ => rfl) ?_
                  refine mx_J.step (sn_56 167) (fun _ _ => rfl) ?_
                  obtain ⟨z34, hc34, b34⟩ := ct_297_4098 (d := d + 1) (l := l) (D := D) (b0 := b0) (ad := ad) (Hb := Hb) (tau := tau) hx33 hG33 (show 0 ≤ (Z 2 (Z5 3 2)) % 256 ∧ (Z 2 (Z5 3 2)) % 256 ≤ 255 by omega)
                  obtain ⟨bs34_0, b34⟩ := b34
                  refine Jck (show mx_Sn _ _ 168 (mx_callk 297 2 171) from sn_56 168) rfl hc34 rfl rfl rfl ?_
                  refine Jif_lt (show mx_Sn _ _ 171 (mx_if_lt 178 174) from sn_56 171) (by omega) (fun q35 => ?_) (fun q35 => ?_)
                  · skip
                    refine JcI (z := 2) (show mx_Sn _ _ 178 (mx_const (.int 2) 179) from sn_56 178) rfl ?_
                    refine JputI (g := 4) hx33 (show mx_Sn _ _ 179 (mx_putf 1 7 4 (.int) 182) from sn_56 179) a3 s3 rfl rfl rfl rfl (fun Z36 h36 hx36 hE36 => ?_)
                    have hG36 := GI_up hG33 hE36 (show 0 ≤ 2 ∧ 2 ≤ 400 by omega) trivial rfl
                    have e2 : Z36 3 2 = _ := ((up_ni hE36 (by decide)).trans (up_at hE33))
                    have e4 : Z36 3 4 = _ := (up_at hE36)
                    have av3 : Z36 3 4 = tCk (tKd T N (Z 3 2)) := (SGN_k bs34_0 (fun q => by omega) (fun q => by omega)).trans (by rw [kd.1, ← tb, tx (by omega)])
                    have av : AV T N Z Z36 := ⟨fun q => absurd (by omega) q, fun _ => ⟨((up_ni hE36 (by decide)).trans ((up_ni hE33 (by decide)).trans (up_at hE12))).trans tb, by omega, av3, fun q => by have := tSg_b (T (tBg T N (Z 3 2))); omega⟩⟩
                    have eq37 : Z36 3 2 = (Z5 3 2) + 1 := ((up_ni hE36 (by decide)).trans (up_at hE33))
                    have eq38 : Z36 3 3 = Z5 3 2 := ((up_ni hE36 (by decide)).trans ((up_ni hE33 (by decide)).trans (up_at hE12)))
                    have eq39 : Z36 3 4 = 2 := (up_at hE36)
                    have eq40 : Z36 3 0 = Z 3 0 := ((up_ni hE36 (by decide)).trans ((up_ni hE33 (by decide)).trans ((up_ni hE12 (by decide)).trans (hf5 3 0 rfl))))
                    have eq41 : Z36 3 1 = Z 3 1 := ((up_ni hE36 (by decide)).trans ((up_ni hE33 (by decide)).trans ((up_ni hE12 (by decide)).trans (hf5 3 1 rfl))))
                    have eq42 : Z36 3 2 = (Z5 3 2) + 1 := ((up_ni hE36 (by decide)).trans (up_at hE33))
                    have eq43 : Z36 3 3 = Z5 3 2 := ((up_ni hE36 (by decide)).trans ((up_ni hE33 (by decide)).trans (up_at hE12)))
                    have eq44 : Z36 3 4 = 2 := (up_at hE36)
                    have eq45 : Z36 3 14 = Z 3 14 := ((up_ni hE36 (by decide)).trans ((up_ni hE33 (by decide)).trans ((up_ni hE12 (by decide)).trans (hf5 3 14 rfl))))
                    exact mx_J.ret (sn_56 182) (fun _ _ => rfl) (hP Z36 h36 hx36 hG36 (fr_tr (M := [(3, 2), (3, 3), (3, 4), (3, 5)]) (fr_tr (M := [(3, 2), (3, 3), (3, 4), (3, 5)]) (fr_tr (M := [(3, 2), (3, 3), (3, 4), (3, 5)]) (fr_tr (M := [(3, 2), (3, 3), (3, 4), (3, 5)]) fr_rf (hf5) (M1 := []) rfl rfl) (fr_up hE12) rfl rfl) (fr_up hE33) rfl rfl) (fr_up hE36) rfl rfl) ⟨(av), by omega⟩)
                  · skip
                    refine mx_J.step (sn_56 174) (fun _ _ => rfl) ?_
                    refine mx_J.step (sn_56 175) (fun _ _ => rfl) ?_
                    refine JputI (g := 4) hx33 (show mx_Sn _ _ 179 (mx_putf 1 7 4 (.int) 182) from sn_56 179) a3 s3 rfl rfl rfl rfl (fun Z46 h46 hx46 hE46 => ?_)
                    have hG46 := GI_up hG33 hE46 (show 0 ≤ (Z 2 (Z5 3 2)) % 256 ∧ (Z 2 (Z5 3 2)) % 256 ≤ 400 by omega) trivial rfl
                    have e2 : Z46 3 2 = _ := ((up_ni hE46 (by decide)).trans (up_at hE33))
                    have e4 : Z46 3 4 = _ := (up_at hE46)
                    have av3 : Z46 3 4 = tCk (tKd T N (Z 3 2)) := (SGN_k bs34_0 (fun q => by omega) (fun q => by omega)).trans (by rw [kd.1, ← tb, tx (by omega)])
                    have av : AV T N Z Z46 := ⟨fun q => absurd (by omega) q, fun _ => ⟨((up_ni hE46 (by decide)).trans ((up_ni hE33 (by decide)).trans (up_at hE12))).trans tb, by omega, av3, fun q => by have := tSg_b (T (tBg T N (Z 3 2))); omega⟩⟩
                    have eq47 : Z46 3 2 = (Z5 3 2) + 1 := ((up_ni hE46 (by decide)).trans (up_at hE33))
                    have eq48 : Z46 3 3 = Z5 3 2 := ((up_ni hE46 (by decide)).trans ((up_ni hE33 (by decide)).trans (up_at hE12)))
                    have eq49 : Z46 3 4 = (Z 2 (Z5 3 2)) % 256 := (up_at hE46)
                    have eq50 : Z46 3 0 = Z 3 0 := ((up_ni hE46 (by decide)).trans ((up_ni hE33 (by decide)).trans ((up_ni hE12 (by decide)).trans (hf5 3 0 rfl))))
                    have eq51 : Z46 3 1 = Z 3 1 := ((up_ni hE46 (by decide)).trans ((up_ni hE33 (by decide)).trans ((up_ni hE12 (by decide)).trans (hf5 3 1 rfl))))
                    have eq52 : Z46 3 2 = (Z5 3 2) + 1 := ((up_ni hE46 (by decide)).trans (up_at hE33))
                    have eq53 : Z46 3 3 = Z5 3 2 := ((up_ni hE46 (by decide)).trans ((up_ni hE33 (by decide)).trans (up_at hE12)))
                    have eq54 : Z46 3 4 = (Z 2 (Z5 3 2)) % 256 := (up_at hE46)
                    have eq55 : Z46 3 14 = Z 3 14 := ((up_ni hE46 (by decide)).trans ((up_ni hE33 (by decide)).trans ((up_ni hE12 (by decide)).trans (hf5 3 14 rfl))))
                    exact mx_J.ret (sn_56 182) (fun _ _ => rfl) (hP Z46 h46 hx46 hG46 (fr_tr (M := [(3, 2), (3, 3), (3, 4), (3, 5)]) (fr_tr (M := [(3, 2), (3, 3), (3, 4), (3, 5)]) (fr_tr (M := [(3, 2), (3, 3), (3, 4), (3, 5)]) (fr_tr (M := [(3, 2), (3, 3), (3, 4), (3, 5)]) fr_rf (hf5) (M1 := []) rfl rfl) (fr_up hE12) rfl rfl) (fr_up hE33) rfl rfl) (fr_up hE46) rfl rfl) ⟨(av), by omega⟩)
                · skip
                  have kd := tKd_dig (T := T) (N := N) (p := Z 3 2) (by omega) (by rw [← tb]; have := tx (by omega); omega)
                  refine mx_J.step (sn_56 128) (fun _ _ => rfl) ?_
                  refine mx_J.step (sn_56 129) (fun _ _ => rfl) ?_
                  have eq56 : Z12 3 3 = Z5 3 2 := (up_at hE12)
                  have eq57 : Z12 3 2 = Z5 3 2 := (up_ni hE12 (by decide))
                  have eq59 : Z12 3 0 = Z 3 0 := ((up_ni hE12 (by decide)).trans (hf5 3 0 rfl))
                  have eq60 : Z12 3 1 = Z 3 1 := ((up_ni hE12 (by decide)).trans (hf5 3 1 rfl))
                  have eq61 : Z12 3 2 = Z5 3 2 := (up_ni hE12 (by decide))
                  have eq62 : Z12 3 3 = Z5 3 2 := (up_at hE12)
                  obtain ⟨z58, Z58, h58, hc58, hx58, hG58, hf58, b58⟩ := ct_58_3 (T := T) (N := N) (d := d + 3) (l := l) (D := D) (b0 := b0) (ad := ad) (Hb := Hb) (tau := tau) hx12 hG12  (show Z12 3 0 = 2 by first | omega | (simp only [eq59, eq60, eq61, eq62]; omega)) (show Z12 3 3 = Z12 3 2 by first | omega | (simp only [eq59, eq60, eq61, eq62]; omega)) (show Z12 3 2 < Z12 3 1 by first | omega | (simp only [eq59, eq60, eq61, eq62]; omega)) (show (48 ≤ Z12 2 (Z12 3 2) ∧ Z12 2 (Z12 3 2) ≤ 57) by first | omega | (simp only [eq59, eq60, eq61, eq62]; omega)) (TX_c k2 ((up_ni hE12 (by decide)).trans (hf5 3 1 rfl)) (fun i => ((up_nk hE12 rfl).trans (hf5 2 i rfl)))) (show Z12 3 1 = N by first | omega | (simp only [eq59, eq60, eq61, eq62]; omega))
                  try rw [eq59] at b58
                  try rw [eq60] at b58
                  try rw [eq61] at b58
                  try rw [eq62] at b58
                  obtain ⟨bs58_0, b58⟩ := b58
                  obtain ⟨bs58_1, b58⟩ := b58
                  have b63 : 0 ≤ Z58 3 2 ∧ Z58 3 2 ≤ 900 := hG58.pr 3 2
                  refine Jcv hx12 (show mx_Sn _ _ 130 (mx_callv 58 1 7 133) from sn_56 130) a3 s3 hc58 rfl rfl rfl ?_
                  refine JputI (g := 4) hx58 (show mx_Sn _ _ 133 (mx_putf 1 7 4 (.int) 136) from sn_56 133) a3 s3 rfl rfl rfl rfl (fun Z64 h64 hx64 hE64 => ?_)
                  have hG64 := GI_up hG58 hE64 (show 0 ≤ z58 ∧ z58 ≤ 400 by omega) trivial rfl
                  have ee : Z58 3 2 = tDe T N (tBg T N (Z 3 2)) := bs58_0.trans (congrArg (tDe T N) tb)
                  have e4 : Z64 3 4 = z58 := (up_at hE64)
                  have av3 : Z64 3 4 = tCk (tKd T N (Z 3 2)) := (Decidable.em (3 < tDe T N (tBg T N (Z 3 2)) - tBg T N (Z 3 2))).elim (fun q3 => by rw [kd.1 q3, tCk_25]; omega) (fun q3 => by rw [kd.2.1 q3, tCk_23]; omega)
                  have av5 : Z64 3 5 = tVl T N (Z 3 2) := by rw [(show Z64 3 5 = Z58 3 5 from (up_ni hE64 (by decide))), bs58_1, ee, tb]; unfold tVl; rw [kd.2.2]
                  have av : AV T N Z Z64 := ⟨fun q => absurd (by omega) q, fun _ => ⟨((up_ni hE64 (by decide)).trans ((hf58 3 3 rfl).trans (up_at hE12))).trans tb, (up_ni hE64 (by decide)).trans (ee.trans kd.2.2.symm), av3, fun _ => av5⟩⟩
                  refine mx_J.step (sn_56 136) (fun _ _ => rfl) ?_
                  have eq65 : Z64 3 2 = Z58 3 2 := (up_ni hE64 (by decide))
                  have eq66 : Z64 3 3 = Z5 3 2 := ((up_ni hE64 (by decide)).trans ((hf58 3 3 rfl).trans (up_at hE12)))
                  have eq67 : Z64 3 4 = z58 := (up_at hE64)
                  have eq68 : Z64 3 0 = Z 3 0 := ((up_ni hE64 (by decide)).trans ((hf58 3 0 rfl).trans ((up_ni hE12 (by decide)).trans (hf5 3 0 rfl))))
                  have eq69 : Z64 3 1 = Z 3 1 := ((up_ni hE64 (by decide)).trans ((hf58 3 1 rfl).trans ((up_ni hE12 (by decide)).trans (hf5 3 1 rfl))))
                  have eq70 : Z64 3 2 = Z58 3 2 := (up_ni hE64 (by decide))
                  have eq71 : Z64 3 3 = Z5 3 2 := ((up_ni hE64 (by decide)).trans ((hf58 3 3 rfl).trans (up_at hE12)))
                  have eq72 : Z64 3 4 = z58 := (up_at hE64)
                  have eq73 : Z64 3 14 = Z 3 14 := ((up_ni hE64 (by decide)).trans ((hf58 3 14 rfl).trans ((up_ni hE12 (by decide)).trans (hf5 3 14 rfl))))
                  exact mx_J.ret (sn_56 182) (fun _ _ => rfl) (hP Z64 h64 hx64 hG64 (fr_tr (M := [(3, 2), (3, 3), (3, 4), (3, 5)]) (fr_tr (M := [(3, 2), (3, 3), (3, 4), (3, 5)]) (fr_tr (M := [(3, 2), (3, 3), (3, 4), (3, 5)]) (fr_tr (M := [(3, 2), (3, 3), (3, 4), (3, 5)]) fr_rf (hf5) (M1 := []) rfl rfl) (fr_up hE12) rfl rfl) (hf58) rfl rfl) (fr_up hE64) rfl rfl) ⟨(av), by omega⟩)
              · skip
                have kd := tKd_let (T := T) (N := N) (p := Z 3 2) (by omega) (by rw [← tb]; have := tx (by omega); omega)
                refine mx_J.step (sn_56 102) (fun _ _ => rfl) ?_
                refine mx_J.step (sn_56 103) (fun _ _ => rfl) ?_
                have eq74 : Z12 3 3 = Z5 3 2 := (up_at hE12)
                have eq75 : Z12 3 2 = Z5 3 2 := (up_ni hE12 (by decide))
                have eq77 : Z12 3 0 = Z 3 0 := ((up_ni hE12 (by decide)).trans (hf5 3 0 rfl))
                have eq78 : Z12 3 1 = Z 3 1 := ((up_ni hE12 (by decide)).trans (hf5 3 1 rfl))
                have eq79 : Z12 3 2 = Z5 3 2 := (up_ni hE12 (by decide))
                have eq80 : Z12 3 3 = Z5 3 2 := (up_at hE12)
                obtain ⟨z76, Z76, h76, hc76, hx76, hG76, hf76, b76⟩ := ct_59_3 (T := T) (N := N) (d := d + 0) (l := l) (D := D) (b0 := b0) (ad := ad) (Hb := Hb) (tau := tau) hx12 hG12  (show Z12 3 0 = 2 by first | omega | (simp only [eq77, eq78, eq79, eq80]; omega)) (show Z12 3 3 = Z12 3 2 by first | omega | (simp only [eq77, eq78, eq79, eq80]; omega)) (show Z12 3 2 < Z12 3 1 by first | omega | (simp only [eq77, eq78, eq79, eq80]; omega)) (show (97 ≤ Z12 2 (Z12 3 2) ∧ Z12 2 (Z12 3 2) ≤ 122) by first | omega | (simp only [eq77, eq78, eq79, eq80]; omega)) (TX_c k2 ((up_ni hE12 (by decide)).trans (hf5 3 1 rfl)) (fun i => ((up_nk hE12 rfl).trans (hf5 2 i rfl)))) (show Z12 3 1 = N by first | omega | (simp only [eq77, eq78, eq79, eq80]; omega))
                try rw [eq77] at b76
                try rw [eq78] at b76
                try rw [eq79] at b76
                try rw [eq80] at b76
                obtain ⟨bs76_0, b76⟩ := b76
                obtain ⟨bs76_1, b76⟩ := b76
                have b81 : 0 ≤ Z76 3 2 ∧ Z76 3 2 ≤ 900 := hG76.pr 3 2
                refine Jcv hx12 (show mx_Sn _ _ 104 (mx_callv 59 1 7 107) from sn_56 104) a3 s3 hc76 rfl rfl rfl ?_
                refine JputI (g := 4) hx76 (show mx_Sn _ _ 107 (mx_putf 1 7 4 (.int) 110) from sn_56 107) a3 s3 rfl rfl rfl rfl (fun Z82 h82 hx82 hE82 => ?_)
                have hG82 := GI_up hG76 hE82 (show 0 ≤ z76 ∧ z76 ≤ 400 by omega) trivial rfl
                have ee : Z76 3 2 = tWe T N (tBg T N (Z 3 2)) := bs76_1.trans (congrArg (tWe T N) tb)
                have av3 : z76 = tCk (tKd T N (Z 3 2)) := bs76_0.trans (by rw [kd.1, ee, tb])
                have av : AV T N Z Z82 := ⟨fun q => absurd (by omega) q, fun _ => ⟨((up_ni hE82 (by decide)).trans ((hf76 3 3 rfl).trans (up_at hE12))).trans tb, (up_ni hE82 (by decide)).trans (ee.trans kd.2.symm), (up_at hE82).trans av3, fun q => by have := tKey_b (T := T) (b := tBg T N (Z 3 2)) (e := tWe T N (tBg T N (Z 3 2))); omega⟩⟩
                refine mx_J.step (sn_56 110) (fun _ _ => rfl) ?_
                have eq83 : Z82 3 2 = Z76 3 2 := (up_ni hE82 (by decide))
                have eq84 : Z82 3 3 = Z5 3 2 := ((up_ni hE82 (by decide)).trans ((hf76 3 3 rfl).trans (up_at hE12)))
                have eq85 : Z82 3 4 = z76 := (up_at hE82)
                have eq86 : Z82 3 0 = Z 3 0 := ((up_ni hE82 (by decide)).trans ((hf76 3 0 rfl).trans ((up_ni hE12 (by decide)).trans (hf5 3 0 rfl))))
                have eq87 : Z82 3 1 = Z 3 1 := ((up_ni hE82 (by decide)).trans ((hf76 3 1 rfl).trans ((up_ni hE12 (by decide)).trans (hf5 3 1 rfl))))
                have eq88 : Z82 3 2 = Z76 3 2 := (up_ni hE82 (by decide))
                have eq89 : Z82 3 3 = Z5 3 2 := ((up_ni hE82 (by decide)).trans ((hf76 3 3 rfl).trans (up_at hE12)))
                have eq90 : Z82 3 4 = z76 := (up_at hE82)
                have eq91 : Z82 3 14 = Z 3 14 := ((up_ni hE82 (by decide)).trans ((hf76 3 14 rfl).trans ((up_ni hE12 (by decide)).trans (hf5 3 14 rfl))))
                exact mx_J.ret (sn_56 182) (fun _ _ => rfl) (hP Z82 h82 hx82 hG82 (fr_tr (M := [(3, 2), (3, 3), (3, 4), (3, 5)]) (fr_tr (M := [(3, 2), (3, 3), (3, 4), (3, 5)]) (fr_tr (M := [(3, 2), (3, 3), (3, 4), (3, 5)]) (fr_tr (M := [(3, 2), (3, 3), (3, 4), (3, 5)]) fr_rf (hf5) (M1 := []) rfl rfl) (fr_up hE12) rfl rfl) (hf76) rfl rfl) (fr_up hE82) rfl rfl) ⟨(av), by omega⟩)
            · skip
              have kd := tKd_end (T := T) (N := N) (p := Z 3 2) (by omega)
              refine mx_J.step (sn_56 79) (fun _ _ => rfl) ?_
              refine JcI (z := 0) (show mx_Sn _ _ 80 (mx_const (.int 0) 81) from sn_56 80) rfl ?_
              refine JputI (g := 4) hx12 (show mx_Sn _ _ 81 (mx_putf 1 7 4 (.int) 84) from sn_56 81) a3 s3 rfl rfl rfl rfl (fun Z92 h92 hx92 hE92 => ?_)
              have hG92 := GI_up hG12 hE92 (show 0 ≤ 0 ∧ 0 ≤ 400 by omega) trivial rfl
              have av : AV T N Z Z92 := ⟨fun q => absurd (by omega) q, fun _ => ⟨((up_ni hE92 (by decide)).trans (up_at hE12)).trans tb, ((up_ni hE92 (by decide)).trans (up_ni hE12 (by decide))).trans (tb.trans kd.2.symm), (up_at hE92).trans (by rw [kd.1]; rfl), fun q => absurd (kd.1.symm.trans q) (by decide)⟩⟩
              refine mx_J.step (sn_56 84) (fun _ _ => rfl) ?_
              have eq93 : Z92 3 2 = Z5 3 2 := ((up_ni hE92 (by decide)).trans (up_ni hE12 (by decide)))
              have eq94 : Z92 3 3 = Z5 3 2 := ((up_ni hE92 (by decide)).trans (up_at hE12))
              have eq95 : Z92 3 4 = 0 := (up_at hE92)
              have eq96 : Z92 3 0 = Z 3 0 := ((up_ni hE92 (by decide)).trans ((up_ni hE12 (by decide)).trans (hf5 3 0 rfl)))
              have b97 : 2 ≤ Z 3 0 ∧ Z 3 0 ≤ 4 := hG.pr 3 0
              have eq98 : Z92 3 1 = Z 3 1 := ((up_ni hE92 (by decide)).trans ((up_ni hE12 (by decide)).trans (hf5 3 1 rfl)))
              have eq99 : Z92 3 2 = Z5 3 2 := ((up_ni hE92 (by decide)).trans (up_ni hE12 (by decide)))
              have eq100 : Z92 3 3 = Z5 3 2 := ((up_ni hE92 (by decide)).trans (up_at hE12))
              have eq101 : Z92 3 4 = 0 := (up_at hE92)
              have eq102 : Z92 3 14 = Z 3 14 := ((up_ni hE92 (by decide)).trans ((up_ni hE12 (by decide)).trans (hf5 3 14 rfl)))
              exact mx_J.ret (sn_56 182) (fun _ _ => rfl) (hP Z92 h92 hx92 hG92 (fr_tr (M := [(3, 2), (3, 3), (3, 4), (3, 5)]) (fr_tr (M := [(3, 2), (3, 3), (3, 4), (3, 5)]) (fr_tr (M := [(3, 2), (3, 3), (3, 4), (3, 5)]) fr_rf (hf5) (M1 := []) rfl rfl) (fr_up hE12) rfl rfl) (fr_up hE92) rfl rfl) ⟨(av), by omega⟩)
          refine Jicmp_ge (show mx_Sn _ _ 16 (mx_icmp_ge 60 19) from sn_56 16) (by omega) (by omega) (fun q103 => ?_) (fun q103 => ?_)
          · skip
            exact c60 (by omega)
          · skip
            refine mx_J.step (sn_56 19) (fun _ _ => rfl) ?_
            refine JgetR (g := 0) (b := 2) hx5 (show mx_Sn _ _ 20 (mx_getf 7 0 23) from sn_56 20) a3 s3 rfl rfl (show Z5 3 0 = ((2 : Nat) : Int) from ((hf5 3 0 rfl)).trans k0) ?_
            refine mx_J.step (sn_56 23) (fun _ _ => rfl) ?_
            refine JgetI (g := 2) (z := Z5 3 2) hx5 (show mx_Sn _ _ 24 (mx_getf 7 2 27) from sn_56 24) a3 s3 rfl rfl rfl ?_
            have b106 : (-128) ≤ Z 2 (Z5 3 2) ∧ Z 2 (Z5 3 2) ≤ 127 := hG.pr 2 (Z5 3 2)
            refine JbaldI (z := Z 2 (Z5 3 2)) hx5 (show mx_Sn _ _ 27 (mx_bald 28) from sn_56 27) a2 s2 (by omega) (hf5 2 (Z5 3 2) rfl) ?_
            refine JcI (z := 10) (show mx_Sn _ _ 28 (mx_const (.int 10) 30) from sn_56 28) rfl ?_
            have c47 : ((Z5 3 2) < Z 3 1 ∧ (Z 2 (Z5 3 2) = 10 ∨ Z 2 (Z5 3 2) = 32)) → mx_J (tB l D b0 ad Hb tau) mt_56 (d + 5) 47 [some (.ref 3), none] [] h5 Post := by
              intro f107_0
              have tb := (tBg_e (T := T) (N := N) (Z5 3 2)).1 (by omega) (by have := tx (by omega); omega)
              refine mx_J.step (sn_56 47) (fun _ _ => rfl) ?_
              refine mx_J.step (sn_56 48) (fun _ _ => rfl) ?_
              refine JgetI (g := 2) (z := Z5 3 2) hx5 (show mx_Sn _ _ 49 (mx_getf 7 2 52) from sn_56 49) a3 s3 rfl rfl rfl ?_
              refine JcI (z := 1) (show mx_Sn _ _ 52 (mx_const (.int 1) 53) from sn_56 52) rfl ?_
              refine Jiadd (show mx_Sn _ _ 53 (mx_iadd 54) from sn_56 53) ?_
              refine JputI (g := 2) hx5 (show mx_Sn _ _ 54 (mx_putf 1 7 2 (.int) 57) from sn_56 54) a3 s3 rfl rfl rfl rfl (fun Z109 h109 hx109 hE109 => ?_)
              have hG109 := GI_up hG5 hE109 (show 0 ≤ (Z5 3 2) + 1 ∧ (Z5 3 2) + 1 ≤ 900 by omega) trivial rfl
              refine mx_J.step (sn_56 57) (fun _ _ => rfl) ?_
              have eq110 : Z109 3 2 = (Z5 3 2) + 1 := (up_at hE109)
              have eq111 : Z109 3 2 = (Z5 3 2) + 1 := (up_at hE109)
              exact ih4 Z109 h109 (by omega) (by omega) (by rw [(show Z109 3 2 = (Z5 3 2) + 1 from (up_at hE109))]; exact tb.symm.trans (by assumption)) hx109 hG109 (fr_tr (M := [(3, 2)]) (fr_tr (M := [(3, 2)]) fr_rf (hf5) (M1 := []) rfl rfl) (fr_up hE109) rfl rfl)
            refine Jicmp_eq (show mx_Sn _ _ 30 (mx_icmp_eq 47 33) from sn_56 30) (by omega) (by omega) (fun q112 => ?_) (fun q112 => ?_)
            · skip
              exact c47 (by omega)
            · skip
              refine mx_J.step (sn_56 33) (fun _ _ => rfl) ?_
              refine JgetR (g := 0) (b := 2) hx5 (show mx_Sn _ _ 34 (mx_getf 7 0 37) from sn_56 34) a3 s3 rfl rfl (show Z5 3 0 = ((2 : Nat) : Int) from ((hf5 3 0 rfl)).trans k0) ?_
              refine mx_J.step (sn_56 37) (fun _ _ => rfl) ?_
              refine JgetI (g := 2) (z := Z5 3 2) hx5 (show mx_Sn _ _ 38 (mx_getf 7 2 41) from sn_56 38) a3 s3 rfl rfl rfl ?_
              refine JbaldI (z := Z 2 (Z5 3 2)) hx5 (show mx_Sn _ _ 41 (mx_bald 42) from sn_56 41) a2 s2 (by omega) (hf5 2 (Z5 3 2) rfl) ?_
              refine JcI (z := 32) (show mx_Sn _ _ 42 (mx_const (.int 32) 44) from sn_56 42) rfl ?_
              refine Jicmp_ne (show mx_Sn _ _ 44 (mx_icmp_ne 60 47) from sn_56 44) (by omega) (by omega) (fun q115 => ?_) (fun q115 => ?_)
              · skip
                exact c60 (by omega)
              · skip
                exact c47 (by omega)
      have b116 : 0 ≤ Z 3 2 ∧ Z 3 2 ≤ 900 := hG.pr 3 2
      exact c8 (Int.toNat (Z 3 1 - Z 3 2) + 1) Z h (by omega) (by omega) (rfl) hx hG fr_rf
    · skip
      have b117 : 0 ≤ Z 3 2 ∧ Z 3 2 ≤ 900 := hG.pr 3 2
      have b118 : 0 ≤ Z 3 3 ∧ Z 3 3 ≤ 900 := hG.pr 3 3
      have b119 : 0 ≤ Z 3 4 ∧ Z 3 4 ≤ 400 := hG.pr 3 4
      have b120 : 2 ≤ Z 3 0 ∧ Z 3 0 ≤ 4 := hG.pr 3 0
      have b121 : 0 ≤ Z 3 1 ∧ Z 3 1 ≤ 900 := hG.pr 3 1
      exact mx_J.ret (sn_56 7) (fun _ _ => rfl) (hP Z h hx hG fr_rf ⟨(⟨fun _ => rfl, fun q => absurd q (by omega)⟩), by omega⟩)
theorem ct_56_3 {l : Launch} {D : va_G} {b0 : Nat} {ad : Nat → Nat} {Hb : Heap} {tau : Nat → Int64} {d n s : Nat} {S : Nat → xS} {Z : xZ} {h : mx_H} {T : Int → Int} {N : Int} (hx : XH n s S Z h) (hG : GI n S Z)   (k0 : Z 3 0 = 2) (k1 : Z 3 2 ≤ Z 3 1) (k2 : TX T N Z) (k3 : Z 3 1 = N) : ∃ (Z' : xZ) (h' : mx_H), mx_Ca (tB l D b0 ad Hb tau) (d + 6) 56 [.ref 3] h (none, h') ∧ XH n s S Z' h' ∧ GI n S Z' ∧ fr' [(3, 2), (3, 3), (3, 4), (3, 5)] Z Z' ∧ (AV T N Z Z' ∧ ((¬ Z 3 14 = 0 ∧ Z' 3 2 = Z 3 2 ∧ Z' 3 3 = Z 3 3 ∧ Z' 3 4 = Z 3 4) ∨ (Z 3 14 = 0 ∧ Z 3 2 ≤ Z' 3 3 ∧ Z' 3 3 ≤ Z' 3 2 ∧ Z' 3 2 ≤ Z 3 1 ∧ (Z' 3 4 = 0 ∨ Z' 3 3 < Z' 3 2)))) := by
  obtain ⟨r, hca, Z', h', e, q⟩ := Jmt (B := tB l D b0 ad Hb tau) (M := mt_56) (mi := 56) (as := [.ref 3]) (d := d + 5) (ls := [some (.ref 3), none]) rfl rfl rfl rfl rfl rfl (cw_56_3 (l := l) (D := D) (b0 := b0) (ad := ad) (Hb := Hb) (tau := tau) (d := d) (Post := fun r => ∃ (Z' : xZ) (h' : mx_H), r = (none, h') ∧ XH n s S Z' h' ∧ GI n S Z' ∧ fr' [(3, 2), (3, 3), (3, 4), (3, 5)] Z Z' ∧ (AV T N Z Z' ∧ ((¬ Z 3 14 = 0 ∧ Z' 3 2 = Z 3 2 ∧ Z' 3 3 = Z 3 3 ∧ Z' 3 4 = Z 3 4) ∨ (Z 3 14 = 0 ∧ Z 3 2 ≤ Z' 3 3 ∧ Z' 3 3 ≤ Z' 3 2 ∧ Z' 3 2 ≤ Z 3 1 ∧ (Z' 3 4 = 0 ∨ Z' 3 3 < Z' 3 2))))) hx hG k0 k1 k2 k3 (fun Z' h' q1 q2 q3 q4 => ⟨Z', h', rfl, q1, q2, q3, q4⟩))
  subst e; exact ⟨Z', h', hca, q⟩
theorem ct_56_3r {l : Launch} {D : va_G} {b0 : Nat} {ad : Nat → Nat} {Hb : Heap} {tau : Nat → Int64} {T : Int → Int} {N : Int} {sg : SS} {d n s : Nat} {S : Nat → xS} {Z : xZ} {h : mx_H} (hx : XH n s S Z h) (hG : GI n S Z) (k0 : Z 3 0 = 2) (k1 : Z 3 2 ≤ Z 3 1) (hr : RC T N Z sg) : ∃ (Z' : xZ) (h' : mx_H), mx_Ca (tB l D b0 ad Hb tau) (d + 6) 56 [.ref 3] h (none, h') ∧ XH n s S Z' h' ∧ GI n S Z' ∧ fr' [(3, 2), (3, 3), (3, 4), (3, 5)] Z Z' ∧ (RC T N Z' (gAd T N sg) ∧ ((¬ Z 3 14 = 0 ∧ Z' 3 2 = Z 3 2 ∧ Z' 3 3 = Z 3 3 ∧ Z' 3 4 = Z 3 4) ∨ (Z 3 14 = 0 ∧ Z 3 2 ≤ Z' 3 3 ∧ Z' 3 3 ≤ Z' 3 2 ∧ Z' 3 2 ≤ Z 3 1 ∧ (Z' 3 4 = 0 ∨ Z' 3 3 < Z' 3 2)))) := by
  obtain ⟨Z', h', hca, q1, q2, q3, q5, q4⟩ := ct_56_3 (T := T) (N := N) (d := d) (l := l) (D := D) (b0 := b0) (ad := ad) (Hb := Hb) (tau := tau) hx hG k0 k1 (RC_t hr) (RC_p hr).2.2.2
  exact ⟨Z', h', hca, q1, q2, q3, RC_ad hr q5 (q3 3 14 rfl) (q3 3 15 rfl) (q3 3 7 rfl) (fun i => q3 5 i rfl) (q3 3 1 rfl) (fun i => q3 2 i rfl), q4⟩
set_option maxRecDepth 100000 in
theorem cw_55_3 {l : Launch} {D : va_G} {b0 : Nat} {ad : Nat → Nat} {Hb : Heap} {tau : Nat → Int64} {d n s : Nat} {S : Nat → xS} {Z : xZ} {h : mx_H} {Post : mx_R → Prop} {T : Int → Int} {N : Int} {sg : SS} (hx : XH n s S Z h) (hG : GI n S Z)  {x0 : Int} (p0 : 2 ≤ x0 ∧ x0 ≤ 4) (hr : RC T N Z sg) (hP : ∀ (Z' : xZ) (h' : mx_H), XH n s S Z' h' → GI n S Z' → fr' [(3, 4), (3, 14), (3, 15)] Z Z' → RC T N Z' (gFt T N x0 sg) ∧ (Z' 3 4 = 3) → Post (none, h')) : mx_J (tB l D b0 ad Hb tau) mt_55 (d + 0) 0 [some (.ref 3), some (xI x0)] [] h Post := by
    have a3 : 3 < n := lt83 (GI_n hG) rfl
    have s3 : S 3 = .inl (7, [2, 0, 0, 0, 0, 0, 2, 0, 2, 2, 0, 2, 0, 0, 0, 0]) := GI_s hG 3 rfl
    refine mx_J.step (sn_55 0) (fun _ _ => rfl) ?_
    have b2 : 0 ≤ Z 3 4 ∧ Z 3 4 ≤ 400 := hG.pr 3 4
    refine JgetI (g := 4) (z := Z 3 4) hx (show mx_Sn _ _ 1 (mx_getf 7 4 4) from sn_55 1) a3 s3 rfl rfl rfl ?_
    refine JcI (z := 3) (show mx_Sn _ _ 4 (mx_const (.int 3) 5) from sn_55 4) rfl ?_
    refine Jicmp_ne (show mx_Sn _ _ 5 (mx_icmp_ne 9 8) from sn_55 5) (by omega) (by omega) (fun q3 => ?_) (fun q3 => ?_)
    · skip
      refine mx_J.step (sn_55 9) (fun _ _ => rfl) ?_
      refine mx_J.step (sn_55 10) (fun _ _ => rfl) ?_
      refine JgetI (g := 4) (z := Z 3 4) hx (show mx_Sn _ _ 11 (mx_getf 7 4 14) from sn_55 11) a3 s3 rfl rfl rfl ?_
      refine JcI (z := 2) (show mx_Sn _ _ 14 (mx_const (.int 2) 15) from sn_55 14) rfl ?_
      have c23 : ∀ (k5_1 : Int), 1 ≤ k5_1 ∧ k5_1 ≤ 4 → ((Z 3 4 = 2 → k5_1 = 1) ∧ (¬ Z 3 4 = 2 → k5_1 = x0)) → mx_J (tB l D b0 ad Hb tau) mt_55 (d + 0) 23 [some (.ref 3), some (xI x0)] [xI k5_1, .ref 3] h Post := by
        intro k5_1 f5_0 f5_1
        refine JputI (g := 14) hx (show mx_Sn _ _ 23 (mx_putf 1 7 14 (.int) 26) from sn_55 23) a3 s3 rfl rfl rfl rfl (fun Z6 h6 hx6 hE6 => ?_)
        have hG6 := GI_up hG hE6 (show 0 ≤ k5_1 ∧ k5_1 ≤ 4 by omega) trivial rfl
        refine mx_J.step (sn_55 26) (fun _ _ => rfl) ?_
        refine mx_J.step (sn_55 27) (fun _ _ => rfl) ?_
        have b8 : 0 ≤ Z 3 3 ∧ Z 3 3 ≤ 900 := hG.pr 3 3
        refine JgetI (g := 3) (z := Z 3 3) hx6 (show mx_Sn _ _ 28 (mx_getf 7 3 31) from sn_55 28) a3 s3 rfl rfl (up_ni hE6 (by decide)) ?_
        refine JputI (g := 15) hx6 (show mx_Sn _ _ 31 (mx_putf 1 7 15 (.int) 34) from sn_55 31) a3 s3 rfl rfl rfl rfl (fun Z9 h9 hx9 hE9 => ?_)
        have hG9 := GI_up hG6 hE9 (show (-1) ≤ Z 3 3 ∧ Z 3 3 ≤ 900 by omega) trivial rfl
        refine mx_J.step (sn_55 34) (fun _ _ => rfl) ?_
        refine JcI (z := 3) (show mx_Sn _ _ 35 (mx_const (.int 3) 36) from sn_55 35) rfl ?_
        refine JputI (g := 4) hx9 (show mx_Sn _ _ 36 (mx_putf 1 7 4 (.int) 39) from sn_55 36) a3 s3 rfl rfl rfl rfl (fun Z10 h10 hx10 hE10 => ?_)
        have hG10 := GI_up hG9 hE10 (show 0 ≤ 3 ∧ 3 ≤ 400 by omega) trivial rfl
        have rc11 : RC T N Z10 (gFt T N x0 sg) := RC_ft hr (by omega) (up_at hE10) ((up_ni hE10 (by decide)).trans (up_at hE9)) ⟨fun q => ((up_ni hE10 (by decide)).trans ((up_ni hE9 (by decide)).trans (up_at hE6))).trans (by omega), fun q => ((up_ni hE10 (by decide)).trans ((up_ni hE9 (by decide)).trans (up_at hE6))).trans (by omega)⟩ (by omega) ((up_ni hE10 (by decide)).trans ((up_ni hE9 (by decide)).trans (up_ni hE6 (by decide)))) (fun i => ((up_nk hE10 rfl).trans ((up_nk hE9 rfl).trans (up_nk hE6 rfl))))
        have eq12 : Z10 3 4 = 3 := (up_at hE10)
        have eq13 : Z10 3 4 = 3 := (up_at hE10)
        exact mx_J.ret (sn_55 39) (fun _ _ => rfl) (hP Z10 h10 hx10 hG10 (fr_tr (M := [(3, 4), (3, 14), (3, 15)]) (fr_tr (M := [(3, 4), (3, 14), (3, 15)]) (fr_tr (M := [(3, 4), (3, 14), (3, 15)]) fr_rf (fr_up hE6) (M1 := []) rfl rfl) (fr_up hE9) rfl rfl) (fr_up hE10) rfl rfl) ⟨rc11, by omega⟩)
      refine Jicmp_ne (show mx_Sn _ _ 15 (mx_icmp_ne 22 18) from sn_55 15) (by omega) (by omega) (fun q14 => ?_) (fun q14 => ?_)
      · skip
        refine mx_J.step (sn_55 22) (fun _ _ => rfl) ?_
        exact c23 x0 (by omega) (by omega)
      · skip
        refine JcI (z := 1) (show mx_Sn _ _ 18 (mx_const (.int 1) 19) from sn_55 18) rfl ?_
        refine mx_J.step (sn_55 19) (fun _ _ => rfl) ?_
        exact c23 1 (by omega) (by omega)
    · skip
      exact mx_J.ret (sn_55 8) (fun _ _ => rfl) (hP Z h hx hG fr_rf ⟨(RC_e hr (RC_fx hr (by omega))), by omega⟩)
theorem ct_55_3 {l : Launch} {D : va_G} {b0 : Nat} {ad : Nat → Nat} {Hb : Heap} {tau : Nat → Int64} {d n s : Nat} {S : Nat → xS} {Z : xZ} {h : mx_H} {T : Int → Int} {N : Int} {sg : SS} (hx : XH n s S Z h) (hG : GI n S Z)  {x0 : Int} (p0 : 2 ≤ x0 ∧ x0 ≤ 4) (hr : RC T N Z sg) : ∃ (Z' : xZ) (h' : mx_H), mx_Ca (tB l D b0 ad Hb tau) (d + 1) 55 [.ref 3, xI x0] h (none, h') ∧ XH n s S Z' h' ∧ GI n S Z' ∧ fr' [(3, 4), (3, 14), (3, 15)] Z Z' ∧ (RC T N Z' (gFt T N x0 sg) ∧ (Z' 3 4 = 3)) := by
  obtain ⟨r, hca, Z', h', e, q⟩ := Jmt (B := tB l D b0 ad Hb tau) (M := mt_55) (mi := 55) (as := [.ref 3, xI x0]) (d := d + 0) (ls := [some (.ref 3), some (xI x0)]) rfl rfl rfl rfl rfl rfl (cw_55_3 (l := l) (D := D) (b0 := b0) (ad := ad) (Hb := Hb) (tau := tau) (d := d) (Post := fun r => ∃ (Z' : xZ) (h' : mx_H), r = (none, h') ∧ XH n s S Z' h' ∧ GI n S Z' ∧ fr' [(3, 4), (3, 14), (3, 15)] Z Z' ∧ (RC T N Z' (gFt T N x0 sg) ∧ (Z' 3 4 = 3))) hx hG p0 hr (fun Z' h' q1 q2 q3 q4 => ⟨Z', h', rfl, q1, q2, q3, q4⟩))
  subst e; exact ⟨Z', h', hca, q⟩
set_option maxRecDepth 100000 in
theorem cw_53_3_i300 {l : Launch} {D : va_G} {b0 : Nat} {ad : Nat → Nat} {Hb : Heap} {tau : Nat → Int64} {d n s : Nat} {S : Nat → xS} {Z : xZ} {h : mx_H} {Post : mx_R → Prop} {T : Int → Int} {N : Int} {sg : SS} (hx : XH n s S Z h) (hG : GI n S Z)   (k0 : Z 3 0 = 2) (k1 : (Z 3 3 ≤ Z 3 2 ∧ Z 3 2 ≤ Z 3 1 ∧ (Z 3 4 = 0 ∨ Z 3 4 = 3 ∨ Z 3 3 < Z 3 2) ∧ (Z 3 4 = 3 ∨ Z 3 14 = 0))) (hr : RC T N Z sg) (hP : ∀ (Z' : xZ) (h' : mx_H), XH n s S Z' h' → GI n S Z' → fr' [(3, 2), (3, 3), (3, 4), (3, 5), (3, 14), (3, 15)] Z Z' → RC T N Z' (gEx T N 0 sg) ∧ ((Z' 3 3 ≤ Z' 3 2 ∧ Z' 3 2 ≤ Z 3 1 ∧ (Z' 3 4 = 0 ∨ Z' 3 4 = 3 ∨ Z' 3 3 < Z' 3 2) ∧ (Z' 3 4 = 3 ∨ Z' 3 14 = 0)) ∧ Z 3 3 ≤ Z' 3 3 ∧ (Z' 3 4 = 3 ∨ Z 3 3 + 1 ≤ Z' 3 3) ∧ (Z 3 4 = 3 → Z' 3 4 = 3)) → Post (none, h')) : mx_J (tB l D b0 ad Hb tau) mt_53 (d + 6) 0 [some (.ref 3), some (xI 300)] [] h Post := by
    have a3 : 3 < n := lt83 (GI_n hG) rfl
    have s3 : S 3 = .inl (7, [2, 0, 0, 0, 0, 0, 2, 0, 2, 2, 0, 2, 0, 0, 0, 0]) := GI_s hG 3 rfl
    refine mx_J.step (sn_53 0) (fun _ _ => rfl) ?_
    have b2 : 0 ≤ Z 3 4 ∧ Z 3 4 ≤ 400 := hG.pr 3 4
    refine JgetI (g := 4) (z := Z 3 4) hx (show mx_Sn _ _ 1 (mx_getf 7 4 4) from sn_53 1) a3 s3 rfl rfl rfl ?_
    refine mx_J.step (sn_53 4) (fun _ _ => rfl) ?_
    have c20 : ∀  (Z4 : xZ) (h4 : mx_H), ((Z4 3 3 ≤ Z4 3 2 ∧ Z4 3 2 ≤ Z 3 1 ∧ (Z4 3 4 = 0 ∨ Z4 3 4 = 3 ∨ Z4 3 3 < Z4 3 2) ∧ (Z4 3 4 = 3 ∨ Z4 3 14 = 0)) ∧ Z 3 3 ≤ Z4 3 3 ∧ (Z4 3 4 = 3 ∨ Z 3 3 + 1 ≤ Z4 3 3) ∧ (Z 3 4 = 3 → Z4 3 4 = 3)) → RC T N Z4 (gEx T N 0 sg) → XH n s S Z4 h4 → GI n S Z4 → fr' [(3, 2), (3, 3), (3, 4), (3, 5), (3, 14), (3, 15)] Z Z4 → mx_J (tB l D b0 ad Hb tau) mt_53 (d + 6) 20 [some (.ref 3), some (xI 300)] [] h4 Post := by
      intro Z4 h4 f3_0 f3_1 hx4 hG4 hf4
      have b5 : 0 ≤ Z4 3 2 ∧ Z4 3 2 ≤ 900 := hG4.pr 3 2
      have b6 : 0 ≤ Z4 3 3 ∧ Z4 3 3 ≤ 900 := hG4.pr 3 3
      have b7 : 0 ≤ Z4 3 4 ∧ Z4 3 4 ≤ 400 := hG4.pr 3 4
      have eq8 : Z4 3 7 = Z 3 7 := (hf4 3 7 rfl)
      have b9 : 0 ≤ Z 3 7 ∧ Z 3 7 ≤ 900 := hG.pr 3 7
      have b10 : 0 ≤ Z4 3 14 ∧ Z4 3 14 ≤ 4 := hG4.pr 3 14
      have eq11 : Z4 3 7 = Z 3 7 := (hf4 3 7 rfl)
      have eq12 : Z4 3 0 = Z 3 0 := (hf4 3 0 rfl)
      have b13 : 2 ≤ Z 3 0 ∧ Z 3 0 ≤ 4 := hG.pr 3 0
      have eq14 : Z4 3 1 = Z 3 1 := (hf4 3 1 rfl)
      have b15 : 0 ≤ Z 3 1 ∧ Z 3 1 ≤ 900 := hG.pr 3 1
      have eq16 : Z4 3 7 = Z 3 7 := (hf4 3 7 rfl)
      exact mx_J.ret (sn_53 20) (fun _ _ => rfl) (hP Z4 h4 hx4 hG4 (fr_tr (M := [(3, 2), (3, 3), (3, 4), (3, 5), (3, 14), (3, 15)]) fr_rf (hf4) (M1 := []) rfl rfl) ⟨f3_1, by omega⟩)
    refine Jicmp_ne (show mx_Sn _ _ 5 (mx_icmp_ne 15 8) from sn_53 5) (by omega) (by omega) (fun q17 => ?_) (fun q17 => ?_)
    · skip
      refine mx_J.step (sn_53 15) (fun _ _ => rfl) ?_
      refine JcI (z := 2) (show mx_Sn _ _ 16 (mx_const (.int 2) 17) from sn_53 16) rfl ?_
      obtain ⟨Z18, h18, hc18, hx18, hG18, hf18, b18⟩ := ct_55_3 (T := T) (N := N) (sg := sg) (d := d + 5) (l := l) (D := D) (b0 := b0) (ad := ad) (Hb := Hb) (tau := tau) hx hG (show 2 ≤ 2 ∧ 2 ≤ 4 by omega) hr
      obtain ⟨br18, b18⟩ := b18
      have b19 : 0 ≤ Z18 3 4 ∧ Z18 3 4 ≤ 400 := hG18.pr 3 4
      refine Jcv0 hx (show mx_Sn _ _ 17 (mx_callv 55 2 7 20) from sn_53 17) a3 s3 hc18 rfl rfl rfl ?_
      have eq20 : Z18 3 2 = Z 3 2 := (hf18 3 2 rfl)
      have b21 : 0 ≤ Z 3 2 ∧ Z 3 2 ≤ 900 := hG.pr 3 2
      have eq22 : Z18 3 3 = Z 3 3 := (hf18 3 3 rfl)
      have b23 : 0 ≤ Z 3 3 ∧ Z 3 3 ≤ 900 := hG.pr 3 3
      have eq24 : Z18 3 7 = Z 3 7 := (hf18 3 7 rfl)
      have b25 : 0 ≤ Z 3 7 ∧ Z 3 7 ≤ 900 := hG.pr 3 7
      have b26 : 0 ≤ Z18 3 14 ∧ Z18 3 14 ≤ 4 := hG18.pr 3 14
      exact c20 Z18 h18 (by omega) (RC_e br18 (gEx_n (RC_n (k := 0) (v := 300) hr (by unfold tKk; omega) rfl (by omega)))) hx18 hG18 (fr_tr (M := [(3, 2), (3, 3), (3, 4), (3, 5), (3, 14), (3, 15)]) fr_rf (hf18) (M1 := []) rfl rfl)
    · skip
      refine mx_J.step (sn_53 8) (fun _ _ => rfl) ?_
      have b28 : 2 ≤ Z 3 0 ∧ Z 3 0 ≤ 4 := hG.pr 3 0
      have b29 : 0 ≤ Z 3 1 ∧ Z 3 1 ≤ 900 := hG.pr 3 1
      have b30 : 0 ≤ Z 3 2 ∧ Z 3 2 ≤ 900 := hG.pr 3 2
      have b31 : 0 ≤ Z 3 3 ∧ Z 3 3 ≤ 900 := hG.pr 3 3
      have b32 : 0 ≤ Z 3 14 ∧ Z 3 14 ≤ 4 := hG.pr 3 14
      obtain ⟨Z27, h27, hc27, hx27, hG27, hf27, b27⟩ := ct_56_3r (T := T) (N := N) (sg := sg) (d := d + 0) (l := l) (D := D) (b0 := b0) (ad := ad) (Hb := Hb) (tau := tau) hx hG  (show Z 3 0 = 2 by omega) (show Z 3 2 ≤ Z 3 1 by omega) hr
      obtain ⟨br27, b27⟩ := b27
      have b33 : 0 ≤ Z27 3 2 ∧ Z27 3 2 ≤ 900 := hG27.pr 3 2
      have b34 : 0 ≤ Z27 3 3 ∧ Z27 3 3 ≤ 900 := hG27.pr 3 3
      have b35 : 0 ≤ Z27 3 4 ∧ Z27 3 4 ≤ 400 := hG27.pr 3 4
      refine Jcv0 hx (show mx_Sn _ _ 9 (mx_callv 56 1 7 12) from sn_53 9) a3 s3 hc27 rfl rfl rfl ?_
      refine mx_J.step (sn_53 12) (fun _ _ => rfl) ?_
      have eq36 : Z27 3 7 = Z 3 7 := (hf27 3 7 rfl)
      have b37 : 0 ≤ Z 3 7 ∧ Z 3 7 ≤ 900 := hG.pr 3 7
      have eq38 : Z27 3 14 = Z 3 14 := (hf27 3 14 rfl)
      exact c20 Z27 h27 (by omega) (RC_e br27 (gEx_y (RC_y (k := 0) (v := 300) hr (by unfold tKk; omega) rfl (by omega)))) hx27 hG27 (fr_tr (M := [(3, 2), (3, 3), (3, 4), (3, 5), (3, 14), (3, 15)]) fr_rf (hf27) (M1 := []) rfl rfl)
theorem ct_53_3_i300 {l : Launch} {D : va_G} {b0 : Nat} {ad : Nat → Nat} {Hb : Heap} {tau : Nat → Int64} {d n s : Nat} {S : Nat → xS} {Z : xZ} {h : mx_H} {T : Int → Int} {N : Int} {sg : SS} (hx : XH n s S Z h) (hG : GI n S Z)   (k0 : Z 3 0 = 2) (k1 : (Z 3 3 ≤ Z 3 2 ∧ Z 3 2 ≤ Z 3 1 ∧ (Z 3 4 = 0 ∨ Z 3 4 = 3 ∨ Z 3 3 < Z 3 2) ∧ (Z 3 4 = 3 ∨ Z 3 14 = 0))) (hr : RC T N Z sg) : ∃ (Z' : xZ) (h' : mx_H), mx_Ca (tB l D b0 ad Hb tau) (d + 7) 53 [.ref 3, xI 300] h (none, h') ∧ XH n s S Z' h' ∧ GI n S Z' ∧ fr' [(3, 2), (3, 3), (3, 4), (3, 5), (3, 14), (3, 15)] Z Z' ∧ (RC T N Z' (gEx T N 0 sg) ∧ ((Z' 3 3 ≤ Z' 3 2 ∧ Z' 3 2 ≤ Z 3 1 ∧ (Z' 3 4 = 0 ∨ Z' 3 4 = 3 ∨ Z' 3 3 < Z' 3 2) ∧ (Z' 3 4 = 3 ∨ Z' 3 14 = 0)) ∧ Z 3 3 ≤ Z' 3 3 ∧ (Z' 3 4 = 3 ∨ Z 3 3 + 1 ≤ Z' 3 3) ∧ (Z 3 4 = 3 → Z' 3 4 = 3))) := by
  obtain ⟨r, hca, Z', h', e, q⟩ := Jmt (B := tB l D b0 ad Hb tau) (M := mt_53) (mi := 53) (as := [.ref 3, xI 300]) (d := d + 6) (ls := [some (.ref 3), some (xI 300)]) rfl rfl rfl rfl rfl rfl (cw_53_3_i300 (l := l) (D := D) (b0 := b0) (ad := ad) (Hb := Hb) (tau := tau) (d := d) (Post := fun r => ∃ (Z' : xZ) (h' : mx_H), r = (none, h') ∧ XH n s S Z' h' ∧ GI n S Z' ∧ fr' [(3, 2), (3, 3), (3, 4), (3, 5), (3, 14), (3, 15)] Z Z' ∧ (RC T N Z' (gEx T N 0 sg) ∧ ((Z' 3 3 ≤ Z' 3 2 ∧ Z' 3 2 ≤ Z 3 1 ∧ (Z' 3 4 = 0 ∨ Z' 3 4 = 3 ∨ Z' 3 3 < Z' 3 2) ∧ (Z' 3 4 = 3 ∨ Z' 3 14 = 0)) ∧ Z 3 3 ≤ Z' 3 3 ∧ (Z' 3 4 = 3 ∨ Z 3 3 + 1 ≤ Z' 3 3) ∧ (Z 3 4 = 3 → Z' 3 4 = 3)))) hx hG k0 k1 hr (fun Z' h' q1 q2 q3 q4 => ⟨Z', h', rfl, q1, q2, q3, q4⟩))
  subst e; exact ⟨Z', h', hca, q⟩
set_option maxRecDepth 100000 in
theorem cw_53_3_i301 {l : Launch} {D : va_G} {b0 : Nat} {ad : Nat → Nat} {Hb : Heap} {tau : Nat → Int64} {d n s : Nat} {S : Nat → xS} {Z : xZ} {h : mx_H} {Post : mx_R → Prop} {T : Int → Int} {N : Int} {sg : SS} (hx : XH n s S Z h) (hG : GI n S Z)   (k0 : Z 3 0 = 2) (k1 : (Z 3 3 ≤ Z 3 2 ∧ Z 3 2 ≤ Z 3 1 ∧ (Z 3 4 = 0 ∨ Z 3 4 = 3 ∨ Z 3 3 < Z 3 2) ∧ (Z 3 4 = 3 ∨ Z 3 14 = 0))) (hr : RC T N Z sg) (hP : ∀ (Z' : xZ) (h' : mx_H), XH n s S Z' h' → GI n S Z' → fr' [(3, 2), (3, 3), (3, 4), (3, 5), (3, 14), (3, 15)] Z Z' → RC T N Z' (gEx T N 1 sg) ∧ ((Z' 3 3 ≤ Z' 3 2 ∧ Z' 3 2 ≤ Z 3 1 ∧ (Z' 3 4 = 0 ∨ Z' 3 4 = 3 ∨ Z' 3 3 < Z' 3 2) ∧ (Z' 3 4 = 3 ∨ Z' 3 14 = 0)) ∧ Z 3 3 ≤ Z' 3 3 ∧ (Z' 3 4 = 3 ∨ Z 3 3 + 1 ≤ Z' 3 3) ∧ (Z 3 4 = 3 → Z' 3 4 = 3)) → Post (none, h')) : mx_J (tB l D b0 ad Hb tau) mt_53 (d + 6) 0 [some (.ref 3), some (xI 301)] [] h Post := by
    have a3 : 3 < n := lt83 (GI_n hG) rfl
    have s3 : S 3 = .inl (7, [2, 0, 0, 0, 0, 0, 2, 0, 2, 2, 0, 2, 0, 0, 0, 0]) := GI_s hG 3 rfl
    refine mx_J.step (sn_53 0) (fun _ _ => rfl) ?_
    have b2 : 0 ≤ Z 3 4 ∧ Z 3 4 ≤ 400 := hG.pr 3 4
    refine JgetI (g := 4) (z := Z 3 4) hx (show mx_Sn _ _ 1 (mx_getf 7 4 4) from sn_53 1) a3 s3 rfl rfl rfl ?_
    refine mx_J.step (sn_53 4) (fun _ _ => rfl) ?_
    have c20 : ∀  (Z4 : xZ) (h4 : mx_H), ((Z4 3 3 ≤ Z4 3 2 ∧ Z4 3 2 ≤ Z 3 1 ∧ (Z4 3 4 = 0 ∨ Z4 3 4 = 3 ∨ Z4 3 3 < Z4 3 2) ∧ (Z4 3 4 = 3 ∨ Z4 3 14 = 0)) ∧ Z 3 3 ≤ Z4 3 3 ∧ (Z4 3 4 = 3 ∨ Z 3 3 + 1 ≤ Z4 3 3) ∧ (Z 3 4 = 3 → Z4 3 4 = 3)) → RC T N Z4 (gEx T N 1 sg) → XH n s S Z4 h4 → GI n S Z4 → fr' [(3, 2), (3, 3), (3, 4), (3, 5), (3, 14), (3, 15)] Z Z4 → mx_J (tB l D b0 ad Hb tau) mt_53 (d + 6) 20 [some (.ref 3), some (xI 301)] [] h4 Post := by
      intro Z4 h4 f3_0 f3_1 hx4 hG4 hf4
      have b5 : 0 ≤ Z4 3 2 ∧ Z4 3 2 ≤ 900 := hG4.pr 3 2
      have b6 : 0 ≤ Z4 3 3 ∧ Z4 3 3 ≤ 900 := hG4.pr 3 3
      have b7 : 0 ≤ Z4 3 4 ∧ Z4 3 4 ≤ 400 := hG4.pr 3 4
      have eq8 : Z4 3 7 = Z 3 7 := (hf4 3 7 rfl)
      have b9 : 0 ≤ Z 3 7 ∧ Z 3 7 ≤ 900 := hG.pr 3 7
      have b10 : 0 ≤ Z4 3 14 ∧ Z4 3 14 ≤ 4 := hG4.pr 3 14
      have eq11 : Z4 3 7 = Z 3 7 := (hf4 3 7 rfl)
      have eq12 : Z4 3 0 = Z 3 0 := (hf4 3 0 rfl)
      have b13 : 2 ≤ Z 3 0 ∧ Z 3 0 ≤ 4 := hG.pr 3 0
      have eq14 : Z4 3 1 = Z 3 1 := (hf4 3 1 rfl)
      have b15 : 0 ≤ Z 3 1 ∧ Z 3 1 ≤ 900 := hG.pr 3 1
      have eq16 : Z4 3 7 = Z 3 7 := (hf4 3 7 rfl)
      exact mx_J.ret (sn_53 20) (fun _ _ => rfl) (hP Z4 h4 hx4 hG4 (fr_tr (M := [(3, 2), (3, 3), (3, 4), (3, 5), (3, 14), (3, 15)]) fr_rf (hf4) (M1 := []) rfl rfl) ⟨f3_1, by omega⟩)
    refine Jicmp_ne (show mx_Sn _ _ 5 (mx_icmp_ne 15 8) from sn_53 5) (by omega) (by omega) (fun q17 => ?_) (fun q17 => ?_)
    · skip
      refine mx_J.step (sn_53 15) (fun _ _ => rfl) ?_
      refine JcI (z := 2) (show mx_Sn _ _ 16 (mx_const (.int 2) 17) from sn_53 16) rfl ?_
      obtain ⟨Z18, h18, hc18, hx18, hG18, hf18, b18⟩ := ct_55_3 (T := T) (N := N) (sg := sg) (d := d + 5) (l := l) (D := D) (b0 := b0) (ad := ad) (Hb := Hb) (tau := tau) hx hG (show 2 ≤ 2 ∧ 2 ≤ 4 by omega) hr
      obtain ⟨br18, b18⟩ := b18
      have b19 : 0 ≤ Z18 3 4 ∧ Z18 3 4 ≤ 400 := hG18.pr 3 4
      refine Jcv0 hx (show mx_Sn _ _ 17 (mx_callv 55 2 7 20) from sn_53 17) a3 s3 hc18 rfl rfl rfl ?_
      have eq20 : Z18 3 2 = Z 3 2 := (hf18 3 2 rfl)
      have b21 : 0 ≤ Z 3 2 ∧ Z 3 2 ≤ 900 := hG.pr 3 2
      have eq22 : Z18 3 3 = Z 3 3 := (hf18 3 3 rfl)
      have b23 : 0 ≤ Z 3 3 ∧ Z 3 3 ≤ 900 := hG.pr 3 3
      have eq24 : Z18 3 7 = Z 3 7 := (hf18 3 7 rfl)
      have b25 : 0 ≤ Z 3 7 ∧ Z 3 7 ≤ 900 := hG.pr 3 7
      have b26 : 0 ≤ Z18 3 14 ∧ Z18 3 14 ≤ 4 := hG18.pr 3 14
      exact c20 Z18 h18 (by omega) (RC_e br18 (gEx_n (RC_n (k := 1) (v := 301) hr (by unfold tKk; omega) rfl (by omega)))) hx18 hG18 (fr_tr (M := [(3, 2), (3, 3), (3, 4), (3, 5), (3, 14), (3, 15)]) fr_rf (hf18) (M1 := []) rfl rfl)
    · skip
      refine mx_J.step (sn_53 8) (fun _ _ => rfl) ?_
      have b28 : 2 ≤ Z 3 0 ∧ Z 3 0 ≤ 4 := hG.pr 3 0
      have b29 : 0 ≤ Z 3 1 ∧ Z 3 1 ≤ 900 := hG.pr 3 1
      have b30 : 0 ≤ Z 3 2 ∧ Z 3 2 ≤ 900 := hG.pr 3 2
      have b31 : 0 ≤ Z 3 3 ∧ Z 3 3 ≤ 900 := hG.pr 3 3
      have b32 : 0 ≤ Z 3 14 ∧ Z 3 14 ≤ 4 := hG.pr 3 14
      obtain ⟨Z27, h27, hc27, hx27, hG27, hf27, b27⟩ := ct_56_3r (T := T) (N := N) (sg := sg) (d := d + 0) (l := l) (D := D) (b0 := b0) (ad := ad) (Hb := Hb) (tau := tau) hx hG  (show Z 3 0 = 2 by omega) (show Z 3 2 ≤ Z 3 1 by omega) hr
      obtain ⟨br27, b27⟩ := b27
      have b33 : 0 ≤ Z27 3 2 ∧ Z27 3 2 ≤ 900 := hG27.pr 3 2
      have b34 : 0 ≤ Z27 3 3 ∧ Z27 3 3 ≤ 900 := hG27.pr 3 3
      have b35 : 0 ≤ Z27 3 4 ∧ Z27 3 4 ≤ 400 := hG27.pr 3 4
      refine Jcv0 hx (show mx_Sn _ _ 9 (mx_callv 56 1 7 12) from sn_53 9) a3 s3 hc27 rfl rfl rfl ?_
      refine mx_J.step (sn_53 12) (fun _ _ => rfl) ?_
      have eq36 : Z27 3 7 = Z 3 7 := (hf27 3 7 rfl)
      have b37 : 0 ≤ Z 3 7 ∧ Z 3 7 ≤ 900 := hG.pr 3 7
      have eq38 : Z27 3 14 = Z 3 14 := (hf27 3 14 rfl)
      exact c20 Z27 h27 (by omega) (RC_e br27 (gEx_y (RC_y (k := 1) (v := 301) hr (by unfold tKk; omega) rfl (by omega)))) hx27 hG27 (fr_tr (M := [(3, 2), (3, 3), (3, 4), (3, 5), (3, 14), (3, 15)]) fr_rf (hf27) (M1 := []) rfl rfl)
theorem ct_53_3_i301 {l : Launch} {D : va_G} {b0 : Nat} {ad : Nat → Nat} {Hb : Heap} {tau : Nat → Int64} {d n s : Nat} {S : Nat → xS} {Z : xZ} {h : mx_H} {T : Int → Int} {N : Int} {sg : SS} (hx : XH n s S Z h) (hG : GI n S Z)   (k0 : Z 3 0 = 2) (k1 : (Z 3 3 ≤ Z 3 2 ∧ Z 3 2 ≤ Z 3 1 ∧ (Z 3 4 = 0 ∨ Z 3 4 = 3 ∨ Z 3 3 < Z 3 2) ∧ (Z 3 4 = 3 ∨ Z 3 14 = 0))) (hr : RC T N Z sg) : ∃ (Z' : xZ) (h' : mx_H), mx_Ca (tB l D b0 ad Hb tau) (d + 7) 53 [.ref 3, xI 301] h (none, h') ∧ XH n s S Z' h' ∧ GI n S Z' ∧ fr' [(3, 2), (3, 3), (3, 4), (3, 5), (3, 14), (3, 15)] Z Z' ∧ (RC T N Z' (gEx T N 1 sg) ∧ ((Z' 3 3 ≤ Z' 3 2 ∧ Z' 3 2 ≤ Z 3 1 ∧ (Z' 3 4 = 0 ∨ Z' 3 4 = 3 ∨ Z' 3 3 < Z' 3 2) ∧ (Z' 3 4 = 3 ∨ Z' 3 14 = 0)) ∧ Z 3 3 ≤ Z' 3 3 ∧ (Z' 3 4 = 3 ∨ Z 3 3 + 1 ≤ Z' 3 3) ∧ (Z 3 4 = 3 → Z' 3 4 = 3))) := by
  obtain ⟨r, hca, Z', h', e, q⟩ := Jmt (B := tB l D b0 ad Hb tau) (M := mt_53) (mi := 53) (as := [.ref 3, xI 301]) (d := d + 6) (ls := [some (.ref 3), some (xI 301)]) rfl rfl rfl rfl rfl rfl (cw_53_3_i301 (l := l) (D := D) (b0 := b0) (ad := ad) (Hb := Hb) (tau := tau) (d := d) (Post := fun r => ∃ (Z' : xZ) (h' : mx_H), r = (none, h') ∧ XH n s S Z' h' ∧ GI n S Z' ∧ fr' [(3, 2), (3, 3), (3, 4), (3, 5), (3, 14), (3, 15)] Z Z' ∧ (RC T N Z' (gEx T N 1 sg) ∧ ((Z' 3 3 ≤ Z' 3 2 ∧ Z' 3 2 ≤ Z 3 1 ∧ (Z' 3 4 = 0 ∨ Z' 3 4 = 3 ∨ Z' 3 3 < Z' 3 2) ∧ (Z' 3 4 = 3 ∨ Z' 3 14 = 0)) ∧ Z 3 3 ≤ Z' 3 3 ∧ (Z' 3 4 = 3 ∨ Z 3 3 + 1 ≤ Z' 3 3) ∧ (Z 3 4 = 3 → Z' 3 4 = 3)))) hx hG k0 k1 hr (fun Z' h' q1 q2 q3 q4 => ⟨Z', h', rfl, q1, q2, q3, q4⟩))
  subst e; exact ⟨Z', h', hca, q⟩
set_option maxRecDepth 100000 in
theorem cw_53_3_i59 {l : Launch} {D : va_G} {b0 : Nat} {ad : Nat → Nat} {Hb : Heap} {tau : Nat → Int64} {d n s : Nat} {S : Nat → xS} {Z : xZ} {h : mx_H} {Post : mx_R → Prop} {T : Int → Int} {N : Int} {sg : SS} (hx : XH n s S Z h) (hG : GI n S Z)   (k0 : Z 3 0 = 2) (k1 : (Z 3 3 ≤ Z 3 2 ∧ Z 3 2 ≤ Z 3 1 ∧ (Z 3 4 = 0 ∨ Z 3 4 = 3 ∨ Z 3 3 < Z 3 2) ∧ (Z 3 4 = 3 ∨ Z 3 14 = 0))) (hr : RC T N Z sg) (hP : ∀ (Z' : xZ) (h' : mx_H), XH n s S Z' h' → GI n S Z' → fr' [(3, 2), (3, 3), (3, 4), (3, 5), (3, 14), (3, 15)] Z Z' → RC T N Z' (gEx T N 30 sg) ∧ ((Z' 3 3 ≤ Z' 3 2 ∧ Z' 3 2 ≤ Z 3 1 ∧ (Z' 3 4 = 0 ∨ Z' 3 4 = 3 ∨ Z' 3 3 < Z' 3 2) ∧ (Z' 3 4 = 3 ∨ Z' 3 14 = 0)) ∧ Z 3 3 ≤ Z' 3 3 ∧ (Z' 3 4 = 3 ∨ Z 3 3 + 1 ≤ Z' 3 3) ∧ (Z 3 4 = 3 → Z' 3 4 = 3)) → Post (none, h')) : mx_J (tB l D b0 ad Hb tau) mt_53 (d + 6) 0 [some (.ref 3), some (xI 59)] [] h Post := by
    have a3 : 3 < n := lt83 (GI_n hG) rfl
    have s3 : S 3 = .inl (7, [2, 0, 0, 0, 0, 0, 2, 0, 2, 2, 0, 2, 0, 0, 0, 0]) := GI_s hG 3 rfl
    refine mx_J.step (sn_53 0) (fun _ _ => rfl) ?_
    have b2 : 0 ≤ Z 3 4 ∧ Z 3 4 ≤ 400 := hG.pr 3 4
    refine JgetI (g := 4) (z := Z 3 4) hx (show mx_Sn _ _ 1 (mx_getf 7 4 4) from sn_53 1) a3 s3 rfl rfl rfl ?_
    refine mx_J.step (sn_53 4) (fun _ _ => rfl) ?_
    have c20 : ∀  (Z4 : xZ) (h4 : mx_H), ((Z4 3 3 ≤ Z4 3 2 ∧ Z4 3 2 ≤ Z 3 1 ∧ (Z4 3 4 = 0 ∨ Z4 3 4 = 3 ∨ Z4 3 3 < Z4 3 2) ∧ (Z4 3 4 = 3 ∨ Z4 3 14 = 0)) ∧ Z 3 3 ≤ Z4 3 3 ∧ (Z4 3 4 = 3 ∨ Z 3 3 + 1 ≤ Z4 3 3) ∧ (Z 3 4 = 3 → Z4 3 4 = 3)) → RC T N Z4 (gEx T N 30 sg) → XH n s S Z4 h4 → GI n S Z4 → fr' [(3, 2), (3, 3), (3, 4), (3, 5), (3, 14), (3, 15)] Z Z4 → mx_J (tB l D b0 ad Hb tau) mt_53 (d + 6) 20 [some (.ref 3), some (xI 59)] [] h4 Post := by
      intro Z4 h4 f3_0 f3_1 hx4 hG4 hf4
      have b5 : 0 ≤ Z4 3 2 ∧ Z4 3 2 ≤ 900 := hG4.pr 3 2
      have b6 : 0 ≤ Z4 3 3 ∧ Z4 3 3 ≤ 900 := hG4.pr 3 3
      have b7 : 0 ≤ Z4 3 4 ∧ Z4 3 4 ≤ 400 := hG4.pr 3 4
      have eq8 : Z4 3 7 = Z 3 7 := (hf4 3 7 rfl)
      have b9 : 0 ≤ Z 3 7 ∧ Z 3 7 ≤ 900 := hG.pr 3 7
      have b10 : 0 ≤ Z4 3 14 ∧ Z4 3 14 ≤ 4 := hG4.pr 3 14
      have eq11 : Z4 3 7 = Z 3 7 := (hf4 3 7 rfl)
      have eq12 : Z4 3 0 = Z 3 0 := (hf4 3 0 rfl)
      have b13 : 2 ≤ Z 3 0 ∧ Z 3 0 ≤ 4 := hG.pr 3 0
      have eq14 : Z4 3 1 = Z 3 1 := (hf4 3 1 rfl)
      have b15 : 0 ≤ Z 3 1 ∧ Z 3 1 ≤ 900 := hG.pr 3 1
      have eq16 : Z4 3 7 = Z 3 7 := (hf4 3 7 rfl)
      exact mx_J.ret (sn_53 20) (fun _ _ => rfl) (hP Z4 h4 hx4 hG4 (fr_tr (M := [(3, 2), (3, 3), (3, 4), (3, 5), (3, 14), (3, 15)]) fr_rf (hf4) (M1 := []) rfl rfl) ⟨f3_1, by omega⟩)
    refine Jicmp_ne (show mx_Sn _ _ 5 (mx_icmp_ne 15 8) from sn_53 5) (by omega) (by omega) (fun q17 => ?_) (fun q17 => ?_)
    · skip
      refine mx_J.step (sn_53 15) (fun _ _ => rfl) ?_
      refine JcI (z := 2) (show mx_Sn _ _ 16 (mx_const (.int 2) 17) from sn_53 16) rfl ?_
      obtain ⟨Z18, h18, hc18, hx18, hG18, hf18, b18⟩ := ct_55_3 (T := T) (N := N) (sg := sg) (d := d + 5) (l := l) (D := D) (b0 := b0) (ad := ad) (Hb := Hb) (tau := tau) hx hG (show 2 ≤ 2 ∧ 2 ≤ 4 by omega) hr
      obtain ⟨br18, b18⟩ := b18
      have b19 : 0 ≤ Z18 3 4 ∧ Z18 3 4 ≤ 400 := hG18.pr 3 4
      refine Jcv0 hx (show mx_Sn _ _ 17 (mx_callv 55 2 7 20) from sn_53 17) a3 s3 hc18 rfl rfl rfl ?_
      have eq20 : Z18 3 2 = Z 3 2 := (hf18 3 2 rfl)
      have b21 : 0 ≤ Z 3 2 ∧ Z 3 2 ≤ 900 := hG.pr 3 2
      have eq22 : Z18 3 3 = Z 3 3 := (hf18 3 3 rfl)
      have b23 : 0 ≤ Z 3 3 ∧ Z 3 3 ≤ 900 := hG.pr 3 3
      have eq24 : Z18 3 7 = Z 3 7 := (hf18 3 7 rfl)
      have b25 : 0 ≤ Z 3 7 ∧ Z 3 7 ≤ 900 := hG.pr 3 7
      have b26 : 0 ≤ Z18 3 14 ∧ Z18 3 14 ≤ 4 := hG18.pr 3 14
      exact c20 Z18 h18 (by omega) (RC_e br18 (gEx_n (RC_n (k := 30) (v := 59) hr (by unfold tKk; omega) rfl (by omega)))) hx18 hG18 (fr_tr (M := [(3, 2), (3, 3), (3, 4), (3, 5), (3, 14), (3, 15)]) fr_rf (hf18) (M1 := []) rfl rfl)
    · skip
      refine mx_J.step (sn_53 8) (fun _ _ => rfl) ?_
      have b28 : 2 ≤ Z 3 0 ∧ Z 3 0 ≤ 4 := hG.pr 3 0
      have b29 : 0 ≤ Z 3 1 ∧ Z 3 1 ≤ 900 := hG.pr 3 1
      have b30 : 0 ≤ Z 3 2 ∧ Z 3 2 ≤ 900 := hG.pr 3 2
      have b31 : 0 ≤ Z 3 3 ∧ Z 3 3 ≤ 900 := hG.pr 3 3
      have b32 : 0 ≤ Z 3 14 ∧ Z 3 14 ≤ 4 := hG.pr 3 14
      obtain ⟨Z27, h27, hc27, hx27, hG27, hf27, b27⟩ := ct_56_3r (T := T) (N := N) (sg := sg) (d := d + 0) (l := l) (D := D) (b0 := b0) (ad := ad) (Hb := Hb) (tau := tau) hx hG  (show Z 3 0 = 2 by omega) (show Z 3 2 ≤ Z 3 1 by omega) hr
      obtain ⟨br27, b27⟩ := b27
      have b33 : 0 ≤ Z27 3 2 ∧ Z27 3 2 ≤ 900 := hG27.pr 3 2
      have b34 : 0 ≤ Z27 3 3 ∧ Z27 3 3 ≤ 900 := hG27.pr 3 3
      have b35 : 0 ≤ Z27 3 4 ∧ Z27 3 4 ≤ 400 := hG27.pr 3 4
      refine Jcv0 hx (show mx_Sn _ _ 9 (mx_callv 56 1 7 12) from sn_53 9) a3 s3 hc27 rfl rfl rfl ?_
      refine mx_J.step (sn_53 12) (fun _ _ => rfl) ?_
      have eq36 : Z27 3 7 = Z 3 7 := (hf27 3 7 rfl)
      have b37 : 0 ≤ Z 3 7 ∧ Z 3 7 ≤ 900 := hG.pr 3 7
      have eq38 : Z27 3 14 = Z 3 14 := (hf27 3 14 rfl)
      exact c20 Z27 h27 (by omega) (RC_e br27 (gEx_y (RC_y (k := 30) (v := 59) hr (by unfold tKk; omega) rfl (by omega)))) hx27 hG27 (fr_tr (M := [(3, 2), (3, 3), (3, 4), (3, 5), (3, 14), (3, 15)]) fr_rf (hf27) (M1 := []) rfl rfl)
theorem ct_53_3_i59 {l : Launch} {D : va_G} {b0 : Nat} {ad : Nat → Nat} {Hb : Heap} {tau : Nat → Int64} {d n s : Nat} {S : Nat → xS} {Z : xZ} {h : mx_H} {T : Int → Int} {N : Int} {sg : SS} (hx : XH n s S Z h) (hG : GI n S Z)   (k0 : Z 3 0 = 2) (k1 : (Z 3 3 ≤ Z 3 2 ∧ Z 3 2 ≤ Z 3 1 ∧ (Z 3 4 = 0 ∨ Z 3 4 = 3 ∨ Z 3 3 < Z 3 2) ∧ (Z 3 4 = 3 ∨ Z 3 14 = 0))) (hr : RC T N Z sg) : ∃ (Z' : xZ) (h' : mx_H), mx_Ca (tB l D b0 ad Hb tau) (d + 7) 53 [.ref 3, xI 59] h (none, h') ∧ XH n s S Z' h' ∧ GI n S Z' ∧ fr' [(3, 2), (3, 3), (3, 4), (3, 5), (3, 14), (3, 15)] Z Z' ∧ (RC T N Z' (gEx T N 30 sg) ∧ ((Z' 3 3 ≤ Z' 3 2 ∧ Z' 3 2 ≤ Z 3 1 ∧ (Z' 3 4 = 0 ∨ Z' 3 4 = 3 ∨ Z' 3 3 < Z' 3 2) ∧ (Z' 3 4 = 3 ∨ Z' 3 14 = 0)) ∧ Z 3 3 ≤ Z' 3 3 ∧ (Z' 3 4 = 3 ∨ Z 3 3 + 1 ≤ Z' 3 3) ∧ (Z 3 4 = 3 → Z' 3 4 = 3))) := by
  obtain ⟨r, hca, Z', h', e, q⟩ := Jmt (B := tB l D b0 ad Hb tau) (M := mt_53) (mi := 53) (as := [.ref 3, xI 59]) (d := d + 6) (ls := [some (.ref 3), some (xI 59)]) rfl rfl rfl rfl rfl rfl (cw_53_3_i59 (l := l) (D := D) (b0 := b0) (ad := ad) (Hb := Hb) (tau := tau) (d := d) (Post := fun r => ∃ (Z' : xZ) (h' : mx_H), r = (none, h') ∧ XH n s S Z' h' ∧ GI n S Z' ∧ fr' [(3, 2), (3, 3), (3, 4), (3, 5), (3, 14), (3, 15)] Z Z' ∧ (RC T N Z' (gEx T N 30 sg) ∧ ((Z' 3 3 ≤ Z' 3 2 ∧ Z' 3 2 ≤ Z 3 1 ∧ (Z' 3 4 = 0 ∨ Z' 3 4 = 3 ∨ Z' 3 3 < Z' 3 2) ∧ (Z' 3 4 = 3 ∨ Z' 3 14 = 0)) ∧ Z 3 3 ≤ Z' 3 3 ∧ (Z' 3 4 = 3 ∨ Z 3 3 + 1 ≤ Z' 3 3) ∧ (Z 3 4 = 3 → Z' 3 4 = 3)))) hx hG k0 k1 hr (fun Z' h' q1 q2 q3 q4 => ⟨Z', h', rfl, q1, q2, q3, q4⟩))
  subst e; exact ⟨Z', h', hca, q⟩
set_option maxRecDepth 100000 in
theorem cw_53_3_i58 {l : Launch} {D : va_G} {b0 : Nat} {ad : Nat → Nat} {Hb : Heap} {tau : Nat → Int64} {d n s : Nat} {S : Nat → xS} {Z : xZ} {h : mx_H} {Post : mx_R → Prop} {T : Int → Int} {N : Int} {sg : SS} (hx : XH n s S Z h) (hG : GI n S Z)   (k0 : Z 3 0 = 2) (k1 : (Z 3 3 ≤ Z 3 2 ∧ Z 3 2 ≤ Z 3 1 ∧ (Z 3 4 = 0 ∨ Z 3 4 = 3 ∨ Z 3 3 < Z 3 2) ∧ (Z 3 4 = 3 ∨ Z 3 14 = 0))) (hr : RC T N Z sg) (hP : ∀ (Z' : xZ) (h' : mx_H), XH n s S Z' h' → GI n S Z' → fr' [(3, 2), (3, 3), (3, 4), (3, 5), (3, 14), (3, 15)] Z Z' → RC T N Z' (gEx T N 31 sg) ∧ ((Z' 3 3 ≤ Z' 3 2 ∧ Z' 3 2 ≤ Z 3 1 ∧ (Z' 3 4 = 0 ∨ Z' 3 4 = 3 ∨ Z' 3 3 < Z' 3 2) ∧ (Z' 3 4 = 3 ∨ Z' 3 14 = 0)) ∧ Z 3 3 ≤ Z' 3 3 ∧ (Z' 3 4 = 3 ∨ Z 3 3 + 1 ≤ Z' 3 3) ∧ (Z 3 4 = 3 → Z' 3 4 = 3)) → Post (none, h')) : mx_J (tB l D b0 ad Hb tau) mt_53 (d + 6) 0 [some (.ref 3), some (xI 58)] [] h Post := by
    have a3 : 3 < n := lt83 (GI_n hG) rfl
    have s3 : S 3 = .inl (7, [2, 0, 0, 0, 0, 0, 2, 0, 2, 2, 0, 2, 0, 0, 0, 0]) := GI_s hG 3 rfl
    refine mx_J.step (sn_53 0) (fun _ _ => rfl) ?_
    have b2 : 0 ≤ Z 3 4 ∧ Z 3 4 ≤ 400 := hG.pr 3 4
    refine JgetI (g := 4) (z := Z 3 4) hx (show mx_Sn _ _ 1 (mx_getf 7 4 4) from sn_53 1) a3 s3 rfl rfl rfl ?_
    refine mx_J.step (sn_53 4) (fun _ _ => rfl) ?_
    have c20 : ∀  (Z4 : xZ) (h4 : mx_H), ((Z4 3 3 ≤ Z4 3 2 ∧ Z4 3 2 ≤ Z 3 1 ∧ (Z4 3 4 = 0 ∨ Z4 3 4 = 3 ∨ Z4 3 3 < Z4 3 2) ∧ (Z4 3 4 = 3 ∨ Z4 3 14 = 0)) ∧ Z 3 3 ≤ Z4 3 3 ∧ (Z4 3 4 = 3 ∨ Z 3 3 + 1 ≤ Z4 3 3) ∧ (Z 3 4 = 3 → Z4 3 4 = 3)) → RC T N Z4 (gEx T N 31 sg) → XH n s S Z4 h4 → GI n S Z4 → fr' [(3, 2), (3, 3), (3, 4), (3, 5), (3, 14), (3, 15)] Z Z4 → mx_J (tB l D b0 ad Hb tau) mt_53 (d + 6) 20 [some (.ref 3), some (xI 58)] [] h4 Post := by
      intro Z4 h4 f3_0 f3_1 hx4 hG4 hf4
      have b5 : 0 ≤ Z4 3 2 ∧ Z4 3 2 ≤ 900 := hG4.pr 3 2
      have b6 : 0 ≤ Z4 3 3 ∧ Z4 3 3 ≤ 900 := hG4.pr 3 3
      have b7 : 0 ≤ Z4 3 4 ∧ Z4 3 4 ≤ 400 := hG4.pr 3 4
      have eq8 : Z4 3 7 = Z 3 7 := (hf4 3 7 rfl)
      have b9 : 0 ≤ Z 3 7 ∧ Z 3 7 ≤ 900 := hG.pr 3 7
      have b10 : 0 ≤ Z4 3 14 ∧ Z4 3 14 ≤ 4 := hG4.pr 3 14
      have eq11 : Z4 3 7 = Z 3 7 := (hf4 3 7 rfl)
      have eq12 : Z4 3 0 = Z 3 0 := (hf4 3 0 rfl)
      have b13 : 2 ≤ Z 3 0 ∧ Z 3 0 ≤ 4 := hG.pr 3 0
      have eq14 : Z4 3 1 = Z 3 1 := (hf4 3 1 rfl)
      have b15 : 0 ≤ Z 3 1 ∧ Z 3 1 ≤ 900 := hG.pr 3 1
      have eq16 : Z4 3 7 = Z 3 7 := (hf4 3 7 rfl)
      exact mx_J.ret (sn_53 20) (fun _ _ => rfl) (hP Z4 h4 hx4 hG4 (fr_tr (M := [(3, 2), (3, 3), (3, 4), (3, 5), (3, 14), (3, 15)]) fr_rf (hf4) (M1 := []) rfl rfl) ⟨f3_1, by omega⟩)
    refine Jicmp_ne (show mx_Sn _ _ 5 (mx_icmp_ne 15 8) from sn_53 5) (by omega) (by omega) (fun q17 => ?_) (fun q17 => ?_)
    · skip
      refine mx_J.step (sn_53 15) (fun _ _ => rfl) ?_
      refine JcI (z := 2) (show mx_Sn _ _ 16 (mx_const (.int 2) 17) from sn_53 16) rfl ?_
      obtain ⟨Z18, h18, hc18, hx18, hG18, hf18, b18⟩ := ct_55_3 (T := T) (N := N) (sg := sg) (d := d + 5) (l := l) (D := D) (b0 := b0) (ad := ad) (Hb := Hb) (tau := tau) hx hG (show 2 ≤ 2 ∧ 2 ≤ 4 by omega) hr
      obtain ⟨br18, b18⟩ := b18
      have b19 : 0 ≤ Z18 3 4 ∧ Z18 3 4 ≤ 400 := hG18.pr 3 4
      refine Jcv0 hx (show mx_Sn _ _ 17 (mx_callv 55 2 7 20) from sn_53 17) a3 s3 hc18 rfl rfl rfl ?_
      have eq20 : Z18 3 2 = Z 3 2 := (hf18 3 2 rfl)
      have b21 : 0 ≤ Z 3 2 ∧ Z 3 2 ≤ 900 := hG.pr 3 2
      have eq22 : Z18 3 3 = Z 3 3 := (hf18 3 3 rfl)
      have b23 : 0 ≤ Z 3 3 ∧ Z 3 3 ≤ 900 := hG.pr 3 3
      have eq24 : Z18 3 7 = Z 3 7 := (hf18 3 7 rfl)
      have b25 : 0 ≤ Z 3 7 ∧ Z 3 7 ≤ 900 := hG.pr 3 7
      have b26 : 0 ≤ Z18 3 14 ∧ Z18 3 14 ≤ 4 := hG18.pr 3 14
      exact c20 Z18 h18 (by omega) (RC_e br18 (gEx_n (RC_n (k := 31) (v := 58) hr (by unfold tKk; omega) rfl (by omega)))) hx18 hG18 (fr_tr (M := [(3, 2), (3, 3), (3, 4), (3, 5), (3, 14), (3, 15)]) fr_rf (hf18) (M1 := []) rfl rfl)
    · skip
      refine mx_J.step (sn_53 8) (fun _ _ => rfl) ?_
      have b28 : 2 ≤ Z 3 0 ∧ Z 3 0 ≤ 4 := hG.pr 3 0
      have b29 : 0 ≤ Z 3 1 ∧ Z 3 1 ≤ 900 := hG.pr 3 1
      have b30 : 0 ≤ Z 3 2 ∧ Z 3 2 ≤ 900 := hG.pr 3 2
      have b31 : 0 ≤ Z 3 3 ∧ Z 3 3 ≤ 900 := hG.pr 3 3
      have b32 : 0 ≤ Z 3 14 ∧ Z 3 14 ≤ 4 := hG.pr 3 14
      obtain ⟨Z27, h27, hc27, hx27, hG27, hf27, b27⟩ := ct_56_3r (T := T) (N := N) (sg := sg) (d := d + 0) (l := l) (D := D) (b0 := b0) (ad := ad) (Hb := Hb) (tau := tau) hx hG  (show Z 3 0 = 2 by omega) (show Z 3 2 ≤ Z 3 1 by omega) hr
      obtain ⟨br27, b27⟩ := b27
      have b33 : 0 ≤ Z27 3 2 ∧ Z27 3 2 ≤ 900 := hG27.pr 3 2
      have b34 : 0 ≤ Z27 3 3 ∧ Z27 3 3 ≤ 900 := hG27.pr 3 3
      have b35 : 0 ≤ Z27 3 4 ∧ Z27 3 4 ≤ 400 := hG27.pr 3 4
      refine Jcv0 hx (show mx_Sn _ _ 9 (mx_callv 56 1 7 12) from sn_53 9) a3 s3 hc27 rfl rfl rfl ?_
      refine mx_J.step (sn_53 12) (fun _ _ => rfl) ?_
      have eq36 : Z27 3 7 = Z 3 7 := (hf27 3 7 rfl)
      have b37 : 0 ≤ Z 3 7 ∧ Z 3 7 ≤ 900 := hG.pr 3 7
      have eq38 : Z27 3 14 = Z 3 14 := (hf27 3 14 rfl)
      exact c20 Z27 h27 (by omega) (RC_e br27 (gEx_y (RC_y (k := 31) (v := 58) hr (by unfold tKk; omega) rfl (by omega)))) hx27 hG27 (fr_tr (M := [(3, 2), (3, 3), (3, 4), (3, 5), (3, 14), (3, 15)]) fr_rf (hf27) (M1 := []) rfl rfl)
theorem ct_53_3_i58 {l : Launch} {D : va_G} {b0 : Nat} {ad : Nat → Nat} {Hb : Heap} {tau : Nat → Int64} {d n s : Nat} {S : Nat → xS} {Z : xZ} {h : mx_H} {T : Int → Int} {N : Int} {sg : SS} (hx : XH n s S Z h) (hG : GI n S Z)   (k0 : Z 3 0 = 2) (k1 : (Z 3 3 ≤ Z 3 2 ∧ Z 3 2 ≤ Z 3 1 ∧ (Z 3 4 = 0 ∨ Z 3 4 = 3 ∨ Z 3 3 < Z 3 2) ∧ (Z 3 4 = 3 ∨ Z 3 14 = 0))) (hr : RC T N Z sg) : ∃ (Z' : xZ) (h' : mx_H), mx_Ca (tB l D b0 ad Hb tau) (d + 7) 53 [.ref 3, xI 58] h (none, h') ∧ XH n s S Z' h' ∧ GI n S Z' ∧ fr' [(3, 2), (3, 3), (3, 4), (3, 5), (3, 14), (3, 15)] Z Z' ∧ (RC T N Z' (gEx T N 31 sg) ∧ ((Z' 3 3 ≤ Z' 3 2 ∧ Z' 3 2 ≤ Z 3 1 ∧ (Z' 3 4 = 0 ∨ Z' 3 4 = 3 ∨ Z' 3 3 < Z' 3 2) ∧ (Z' 3 4 = 3 ∨ Z' 3 14 = 0)) ∧ Z 3 3 ≤ Z' 3 3 ∧ (Z' 3 4 = 3 ∨ Z 3 3 + 1 ≤ Z' 3 3) ∧ (Z 3 4 = 3 → Z' 3 4 = 3))) := by
  obtain ⟨r, hca, Z', h', e, q⟩ := Jmt (B := tB l D b0 ad Hb tau) (M := mt_53) (mi := 53) (as := [.ref 3, xI 58]) (d := d + 6) (ls := [some (.ref 3), some (xI 58)]) rfl rfl rfl rfl rfl rfl (cw_53_3_i58 (l := l) (D := D) (b0 := b0) (ad := ad) (Hb := Hb) (tau := tau) (d := d) (Post := fun r => ∃ (Z' : xZ) (h' : mx_H), r = (none, h') ∧ XH n s S Z' h' ∧ GI n S Z' ∧ fr' [(3, 2), (3, 3), (3, 4), (3, 5), (3, 14), (3, 15)] Z Z' ∧ (RC T N Z' (gEx T N 31 sg) ∧ ((Z' 3 3 ≤ Z' 3 2 ∧ Z' 3 2 ≤ Z 3 1 ∧ (Z' 3 4 = 0 ∨ Z' 3 4 = 3 ∨ Z' 3 3 < Z' 3 2) ∧ (Z' 3 4 = 3 ∨ Z' 3 14 = 0)) ∧ Z 3 3 ≤ Z' 3 3 ∧ (Z' 3 4 = 3 ∨ Z 3 3 + 1 ≤ Z' 3 3) ∧ (Z 3 4 = 3 → Z' 3 4 = 3)))) hx hG k0 k1 hr (fun Z' h' q1 q2 q3 q4 => ⟨Z', h', rfl, q1, q2, q3, q4⟩))
  subst e; exact ⟨Z', h', hca, q⟩
set_option maxRecDepth 100000 in
theorem cw_53_3_i41 {l : Launch} {D : va_G} {b0 : Nat} {ad : Nat → Nat} {Hb : Heap} {tau : Nat → Int64} {d n s : Nat} {S : Nat → xS} {Z : xZ} {h : mx_H} {Post : mx_R → Prop} {T : Int → Int} {N : Int} {sg : SS} (hx : XH n s S Z h) (hG : GI n S Z)   (k0 : Z 3 0 = 2) (k1 : (Z 3 3 ≤ Z 3 2 ∧ Z 3 2 ≤ Z 3 1 ∧ (Z 3 4 = 0 ∨ Z 3 4 = 3 ∨ Z 3 3 < Z 3 2) ∧ (Z 3 4 = 3 ∨ Z 3 14 = 0))) (hr : RC T N Z sg) (hP : ∀ (Z' : xZ) (h' : mx_H), XH n s S Z' h' → GI n S Z' → fr' [(3, 2), (3, 3), (3, 4), (3, 5), (3, 14), (3, 15)] Z Z' → RC T N Z' (gEx T N 36 sg) ∧ ((Z' 3 3 ≤ Z' 3 2 ∧ Z' 3 2 ≤ Z 3 1 ∧ (Z' 3 4 = 0 ∨ Z' 3 4 = 3 ∨ Z' 3 3 < Z' 3 2) ∧ (Z' 3 4 = 3 ∨ Z' 3 14 = 0)) ∧ Z 3 3 ≤ Z' 3 3 ∧ (Z' 3 4 = 3 ∨ Z 3 3 + 1 ≤ Z' 3 3) ∧ (Z 3 4 = 3 → Z' 3 4 = 3)) → Post (none, h')) : mx_J (tB l D b0 ad Hb tau) mt_53 (d + 6) 0 [some (.ref 3), some (xI 41)] [] h Post := by
    have a3 : 3 < n := lt83 (GI_n hG) rfl
    have s3 : S 3 = .inl (7, [2, 0, 0, 0, 0, 0, 2, 0, 2, 2, 0, 2, 0, 0, 0, 0]) := GI_s hG 3 rfl
    refine mx_J.step (sn_53 0) (fun _ _ => rfl) ?_
    have b2 : 0 ≤ Z 3 4 ∧ Z 3 4 ≤ 400 := hG.pr 3 4
    refine JgetI (g := 4) (z := Z 3 4) hx (show mx_Sn _ _ 1 (mx_getf 7 4 4) from sn_53 1) a3 s3 rfl rfl rfl ?_
    refine mx_J.step (sn_53 4) (fun _ _ => rfl) ?_
    have c20 : ∀  (Z4 : xZ) (h4 : mx_H), ((Z4 3 3 ≤ Z4 3 2 ∧ Z4 3 2 ≤ Z 3 1 ∧ (Z4 3 4 = 0 ∨ Z4 3 4 = 3 ∨ Z4 3 3 < Z4 3 2) ∧ (Z4 3 4 = 3 ∨ Z4 3 14 = 0)) ∧ Z 3 3 ≤ Z4 3 3 ∧ (Z4 3 4 = 3 ∨ Z 3 3 + 1 ≤ Z4 3 3) ∧ (Z 3 4 = 3 → Z4 3 4 = 3)) → RC T N Z4 (gEx T N 36 sg) → XH n s S Z4 h4 → GI n S Z4 → fr' [(3, 2), (3, 3), (3, 4), (3, 5), (3, 14), (3, 15)] Z Z4 → mx_J (tB l D b0 ad Hb tau) mt_53 (d + 6) 20 [some (.ref 3), some (xI 41)] [] h4 Post := by
      intro Z4 h4 f3_0 f3_1 hx4 hG4 hf4
      have b5 : 0 ≤ Z4 3 2 ∧ Z4 3 2 ≤ 900 := hG4.pr 3 2
      have b6 : 0 ≤ Z4 3 3 ∧ Z4 3 3 ≤ 900 := hG4.pr 3 3
      have b7 : 0 ≤ Z4 3 4 ∧ Z4 3 4 ≤ 400 := hG4.pr 3 4
      have eq8 : Z4 3 7 = Z 3 7 := (hf4 3 7 rfl)
      have b9 : 0 ≤ Z 3 7 ∧ Z 3 7 ≤ 900 := hG.pr 3 7
      have b10 : 0 ≤ Z4 3 14 ∧ Z4 3 14 ≤ 4 := hG4.pr 3 14
      have eq11 : Z4 3 7 = Z 3 7 := (hf4 3 7 rfl)
      have eq12 : Z4 3 0 = Z 3 0 := (hf4 3 0 rfl)
      have b13 : 2 ≤ Z 3 0 ∧ Z 3 0 ≤ 4 := hG.pr 3 0
      have eq14 : Z4 3 1 = Z 3 1 := (hf4 3 1 rfl)
      have b15 : 0 ≤ Z 3 1 ∧ Z 3 1 ≤ 900 := hG.pr 3 1
      have eq16 : Z4 3 7 = Z 3 7 := (hf4 3 7 rfl)
      exact mx_J.ret (sn_53 20) (fun _ _ => rfl) (hP Z4 h4 hx4 hG4 (fr_tr (M := [(3, 2), (3, 3), (3, 4), (3, 5), (3, 14), (3, 15)]) fr_rf (hf4) (M1 := []) rfl rfl) ⟨f3_1, by omega⟩)
    refine Jicmp_ne (show mx_Sn _ _ 5 (mx_icmp_ne 15 8) from sn_53 5) (by omega) (by omega) (fun q17 => ?_) (fun q17 => ?_)
    · skip
      refine mx_J.step (sn_53 15) (fun _ _ => rfl) ?_
      refine JcI (z := 2) (show mx_Sn _ _ 16 (mx_const (.int 2) 17) from sn_53 16) rfl ?_
      obtain ⟨Z18, h18, hc18, hx18, hG18, hf18, b18⟩ := ct_55_3 (T := T) (N := N) (sg := sg) (d := d + 5) (l := l) (D := D) (b0 := b0) (ad := ad) (Hb := Hb) (tau := tau) hx hG (show 2 ≤ 2 ∧ 2 ≤ 4 by omega) hr
      obtain ⟨br18, b18⟩ := b18
      have b19 : 0 ≤ Z18 3 4 ∧ Z18 3 4 ≤ 400 := hG18.pr 3 4
      refine Jcv0 hx (show mx_Sn _ _ 17 (mx_callv 55 2 7 20) from sn_53 17) a3 s3 hc18 rfl rfl rfl ?_
      have eq20 : Z18 3 2 = Z 3 2 := (hf18 3 2 rfl)
      have b21 : 0 ≤ Z 3 2 ∧ Z 3 2 ≤ 900 := hG.pr 3 2
      have eq22 : Z18 3 3 = Z 3 3 := (hf18 3 3 rfl)
      have b23 : 0 ≤ Z 3 3 ∧ Z 3 3 ≤ 900 := hG.pr 3 3
      have eq24 : Z18 3 7 = Z 3 7 := (hf18 3 7 rfl)
      have b25 : 0 ≤ Z 3 7 ∧ Z 3 7 ≤ 900 := hG.pr 3 7
      have b26 : 0 ≤ Z18 3 14 ∧ Z18 3 14 ≤ 4 := hG18.pr 3 14
      exact c20 Z18 h18 (by omega) (RC_e br18 (gEx_n (RC_n (k := 36) (v := 41) hr (by unfold tKk; omega) rfl (by omega)))) hx18 hG18 (fr_tr (M := [(3, 2), (3, 3), (3, 4), (3, 5), (3, 14), (3, 15)]) fr_rf (hf18) (M1 := []) rfl rfl)
    · skip
      refine mx_J.step (sn_53 8) (fun _ _ => rfl) ?_
      have b28 : 2 ≤ Z 3 0 ∧ Z 3 0 ≤ 4 := hG.pr 3 0
      have b29 : 0 ≤ Z 3 1 ∧ Z 3 1 ≤ 900 := hG.pr 3 1
      have b30 : 0 ≤ Z 3 2 ∧ Z 3 2 ≤ 900 := hG.pr 3 2
      have b31 : 0 ≤ Z 3 3 ∧ Z 3 3 ≤ 900 := hG.pr 3 3
      have b32 : 0 ≤ Z 3 14 ∧ Z 3 14 ≤ 4 := hG.pr 3 14
      obtain ⟨Z27, h27, hc27, hx27, hG27, hf27, b27⟩ := ct_56_3r (T := T) (N := N) (sg := sg) (d := d + 0) (l := l) (D := D) (b0 := b0) (ad := ad) (Hb := Hb) (tau := tau) hx hG  (show Z 3 0 = 2 by omega) (show Z 3 2 ≤ Z 3 1 by omega) hr
      obtain ⟨br27, b27⟩ := b27
      have b33 : 0 ≤ Z27 3 2 ∧ Z27 3 2 ≤ 900 := hG27.pr 3 2
      have b34 : 0 ≤ Z27 3 3 ∧ Z27 3 3 ≤ 900 := hG27.pr 3 3
      have b35 : 0 ≤ Z27 3 4 ∧ Z27 3 4 ≤ 400 := hG27.pr 3 4
      refine Jcv0 hx (show mx_Sn _ _ 9 (mx_callv 56 1 7 12) from sn_53 9) a3 s3 hc27 rfl rfl rfl ?_
      refine mx_J.step (sn_53 12) (fun _ _ => rfl) ?_
      have eq36 : Z27 3 7 = Z 3 7 := (hf27 3 7 rfl)
      have b37 : 0 ≤ Z 3 7 ∧ Z 3 7 ≤ 900 := hG.pr 3 7
      have eq38 : Z27 3 14 = Z 3 14 := (hf27 3 14 rfl)
      exact c20 Z27 h27 (by omega) (RC_e br27 (gEx_y (RC_y (k := 36) (v := 41) hr (by unfold tKk; omega) rfl (by omega)))) hx27 hG27 (fr_tr (M := [(3, 2), (3, 3), (3, 4), (3, 5), (3, 14), (3, 15)]) fr_rf (hf27) (M1 := []) rfl rfl)
theorem ct_53_3_i41 {l : Launch} {D : va_G} {b0 : Nat} {ad : Nat → Nat} {Hb : Heap} {tau : Nat → Int64} {d n s : Nat} {S : Nat → xS} {Z : xZ} {h : mx_H} {T : Int → Int} {N : Int} {sg : SS} (hx : XH n s S Z h) (hG : GI n S Z)   (k0 : Z 3 0 = 2) (k1 : (Z 3 3 ≤ Z 3 2 ∧ Z 3 2 ≤ Z 3 1 ∧ (Z 3 4 = 0 ∨ Z 3 4 = 3 ∨ Z 3 3 < Z 3 2) ∧ (Z 3 4 = 3 ∨ Z 3 14 = 0))) (hr : RC T N Z sg) : ∃ (Z' : xZ) (h' : mx_H), mx_Ca (tB l D b0 ad Hb tau) (d + 7) 53 [.ref 3, xI 41] h (none, h') ∧ XH n s S Z' h' ∧ GI n S Z' ∧ fr' [(3, 2), (3, 3), (3, 4), (3, 5), (3, 14), (3, 15)] Z Z' ∧ (RC T N Z' (gEx T N 36 sg) ∧ ((Z' 3 3 ≤ Z' 3 2 ∧ Z' 3 2 ≤ Z 3 1 ∧ (Z' 3 4 = 0 ∨ Z' 3 4 = 3 ∨ Z' 3 3 < Z' 3 2) ∧ (Z' 3 4 = 3 ∨ Z' 3 14 = 0)) ∧ Z 3 3 ≤ Z' 3 3 ∧ (Z' 3 4 = 3 ∨ Z 3 3 + 1 ≤ Z' 3 3) ∧ (Z 3 4 = 3 → Z' 3 4 = 3))) := by
  obtain ⟨r, hca, Z', h', e, q⟩ := Jmt (B := tB l D b0 ad Hb tau) (M := mt_53) (mi := 53) (as := [.ref 3, xI 41]) (d := d + 6) (ls := [some (.ref 3), some (xI 41)]) rfl rfl rfl rfl rfl rfl (cw_53_3_i41 (l := l) (D := D) (b0 := b0) (ad := ad) (Hb := Hb) (tau := tau) (d := d) (Post := fun r => ∃ (Z' : xZ) (h' : mx_H), r = (none, h') ∧ XH n s S Z' h' ∧ GI n S Z' ∧ fr' [(3, 2), (3, 3), (3, 4), (3, 5), (3, 14), (3, 15)] Z Z' ∧ (RC T N Z' (gEx T N 36 sg) ∧ ((Z' 3 3 ≤ Z' 3 2 ∧ Z' 3 2 ≤ Z 3 1 ∧ (Z' 3 4 = 0 ∨ Z' 3 4 = 3 ∨ Z' 3 3 < Z' 3 2) ∧ (Z' 3 4 = 3 ∨ Z' 3 14 = 0)) ∧ Z 3 3 ≤ Z' 3 3 ∧ (Z' 3 4 = 3 ∨ Z 3 3 + 1 ≤ Z' 3 3) ∧ (Z 3 4 = 3 → Z' 3 4 = 3)))) hx hG k0 k1 hr (fun Z' h' q1 q2 q3 q4 => ⟨Z', h', rfl, q1, q2, q3, q4⟩))
  subst e; exact ⟨Z', h', hca, q⟩
set_option maxRecDepth 100000 in
theorem cw_53_3_i306 {l : Launch} {D : va_G} {b0 : Nat} {ad : Nat → Nat} {Hb : Heap} {tau : Nat → Int64} {d n s : Nat} {S : Nat → xS} {Z : xZ} {h : mx_H} {Post : mx_R → Prop} {T : Int → Int} {N : Int} {sg : SS} (hx : XH n s S Z h) (hG : GI n S Z)   (k0 : Z 3 0 = 2) (k1 : (Z 3 3 ≤ Z 3 2 ∧ Z 3 2 ≤ Z 3 1 ∧ (Z 3 4 = 0 ∨ Z 3 4 = 3 ∨ Z 3 3 < Z 3 2) ∧ (Z 3 4 = 3 ∨ Z 3 14 = 0))) (hr : RC T N Z sg) (hP : ∀ (Z' : xZ) (h' : mx_H), XH n s S Z' h' → GI n S Z' → fr' [(3, 2), (3, 3), (3, 4), (3, 5), (3, 14), (3, 15)] Z Z' → RC T N Z' (gEx T N 6 sg) ∧ ((Z' 3 3 ≤ Z' 3 2 ∧ Z' 3 2 ≤ Z 3 1 ∧ (Z' 3 4 = 0 ∨ Z' 3 4 = 3 ∨ Z' 3 3 < Z' 3 2) ∧ (Z' 3 4 = 3 ∨ Z' 3 14 = 0)) ∧ Z 3 3 ≤ Z' 3 3 ∧ (Z' 3 4 = 3 ∨ Z 3 3 + 1 ≤ Z' 3 3) ∧ (Z 3 4 = 3 → Z' 3 4 = 3)) → Post (none, h')) : mx_J (tB l D b0 ad Hb tau) mt_53 (d + 6) 0 [some (.ref 3), some (xI 306)] [] h Post := by
    have a3 : 3 < n := lt83 (GI_n hG) rfl
    have s3 : S 3 = .inl (7, [2, 0, 0, 0, 0, 0, 2, 0, 2, 2, 0, 2, 0, 0, 0, 0]) := GI_s hG 3 rfl
    refine mx_J.step (sn_53 0) (fun _ _ => rfl) ?_
    have b2 : 0 ≤ Z 3 4 ∧ Z 3 4 ≤ 400 := hG.pr 3 4
    refine JgetI (g := 4) (z := Z 3 4) hx (show mx_Sn _ _ 1 (mx_getf 7 4 4) from sn_53 1) a3 s3 rfl rfl rfl ?_
    refine mx_J.step (sn_53 4) (fun _ _ => rfl) ?_
    have c20 : ∀  (Z4 : xZ) (h4 : mx_H), ((Z4 3 3 ≤ Z4 3 2 ∧ Z4 3 2 ≤ Z 3 1 ∧ (Z4 3 4 = 0 ∨ Z4 3 4 = 3 ∨ Z4 3 3 < Z4 3 2) ∧ (Z4 3 4 = 3 ∨ Z4 3 14 = 0)) ∧ Z 3 3 ≤ Z4 3 3 ∧ (Z4 3 4 = 3 ∨ Z 3 3 + 1 ≤ Z4 3 3) ∧ (Z 3 4 = 3 → Z4 3 4 = 3)) → RC T N Z4 (gEx T N 6 sg) → XH n s S Z4 h4 → GI n S Z4 → fr' [(3, 2), (3, 3), (3, 4), (3, 5), (3, 14), (3, 15)] Z Z4 → mx_J (tB l D b0 ad Hb tau) mt_53 (d + 6) 20 [some (.ref 3), some (xI 306)] [] h4 Post := by
      intro Z4 h4 f3_0 f3_1 hx4 hG4 hf4
      have b5 : 0 ≤ Z4 3 2 ∧ Z4 3 2 ≤ 900 := hG4.pr 3 2
      have b6 : 0 ≤ Z4 3 3 ∧ Z4 3 3 ≤ 900 := hG4.pr 3 3
      have b7 : 0 ≤ Z4 3 4 ∧ Z4 3 4 ≤ 400 := hG4.pr 3 4
      have eq8 : Z4 3 7 = Z 3 7 := (hf4 3 7 rfl)
      have b9 : 0 ≤ Z 3 7 ∧ Z 3 7 ≤ 900 := hG.pr 3 7
      have b10 : 0 ≤ Z4 3 14 ∧ Z4 3 14 ≤ 4 := hG4.pr 3 14
      have eq11 : Z4 3 7 = Z 3 7 := (hf4 3 7 rfl)
      have eq12 : Z4 3 0 = Z 3 0 := (hf4 3 0 rfl)
      have b13 : 2 ≤ Z 3 0 ∧ Z 3 0 ≤ 4 := hG.pr 3 0
      have eq14 : Z4 3 1 = Z 3 1 := (hf4 3 1 rfl)
      have b15 : 0 ≤ Z 3 1 ∧ Z 3 1 ≤ 900 := hG.pr 3 1
      have eq16 : Z4 3 7 = Z 3 7 := (hf4 3 7 rfl)
      exact mx_J.ret (sn_53 20) (fun _ _ => rfl) (hP Z4 h4 hx4 hG4 (fr_tr (M := [(3, 2), (3, 3), (3, 4), (3, 5), (3, 14), (3, 15)]) fr_rf (hf4) (M1 := []) rfl rfl) ⟨f3_1, by omega⟩)
    refine Jicmp_ne (show mx_Sn _ _ 5 (mx_icmp_ne 15 8) from sn_53 5) (by omega) (by omega) (fun q17 => ?_) (fun q17 => ?_)
    · skip
      refine mx_J.step (sn_53 15) (fun _ _ => rfl) ?_
      refine JcI (z := 2) (show mx_Sn _ _ 16 (mx_const (.int 2) 17) from sn_53 16) rfl ?_
      obtain ⟨Z18, h18, hc18, hx18, hG18, hf18, b18⟩ := ct_55_3 (T := T) (N := N) (sg := sg) (d := d + 5) (l := l) (D := D) (b0 := b0) (ad := ad) (Hb := Hb) (tau := tau) hx hG (show 2 ≤ 2 ∧ 2 ≤ 4 by omega) hr
      obtain ⟨br18, b18⟩ := b18
      have b19 : 0 ≤ Z18 3 4 ∧ Z18 3 4 ≤ 400 := hG18.pr 3 4
      refine Jcv0 hx (show mx_Sn _ _ 17 (mx_callv 55 2 7 20) from sn_53 17) a3 s3 hc18 rfl rfl rfl ?_
      have eq20 : Z18 3 2 = Z 3 2 := (hf18 3 2 rfl)
      have b21 : 0 ≤ Z 3 2 ∧ Z 3 2 ≤ 900 := hG.pr 3 2
      have eq22 : Z18 3 3 = Z 3 3 := (hf18 3 3 rfl)
      have b23 : 0 ≤ Z 3 3 ∧ Z 3 3 ≤ 900 := hG.pr 3 3
      have eq24 : Z18 3 7 = Z 3 7 := (hf18 3 7 rfl)
      have b25 : 0 ≤ Z 3 7 ∧ Z 3 7 ≤ 900 := hG.pr 3 7
      have b26 : 0 ≤ Z18 3 14 ∧ Z18 3 14 ≤ 4 := hG18.pr 3 14
      exact c20 Z18 h18 (by omega) (RC_e br18 (gEx_n (RC_n (k := 6) (v := 306) hr (by unfold tKk; omega) rfl (by omega)))) hx18 hG18 (fr_tr (M := [(3, 2), (3, 3), (3, 4), (3, 5), (3, 14), (3, 15)]) fr_rf (hf18) (M1 := []) rfl rfl)
    · skip
      refine mx_J.step (sn_53 8) (fun _ _ => rfl) ?_
      have b28 : 2 ≤ Z 3 0 ∧ Z 3 0 ≤ 4 := hG.pr 3 0
      have b29 : 0 ≤ Z 3 1 ∧ Z 3 1 ≤ 900 := hG.pr 3 1
      have b30 : 0 ≤ Z 3 2 ∧ Z 3 2 ≤ 900 := hG.pr 3 2
      have b31 : 0 ≤ Z 3 3 ∧ Z 3 3 ≤ 900 := hG.pr 3 3
      have b32 : 0 ≤ Z 3 14 ∧ Z 3 14 ≤ 4 := hG.pr 3 14
      obtain ⟨Z27, h27, hc27, hx27, hG27, hf27, b27⟩ := ct_56_3r (T := T) (N := N) (sg := sg) (d := d + 0) (l := l) (D := D) (b0 := b0) (ad := ad) (Hb := Hb) (tau := tau) hx hG  (show Z 3 0 = 2 by omega) (show Z 3 2 ≤ Z 3 1 by omega) hr
      obtain ⟨br27, b27⟩ := b27
      have b33 : 0 ≤ Z27 3 2 ∧ Z27 3 2 ≤ 900 := hG27.pr 3 2
      have b34 : 0 ≤ Z27 3 3 ∧ Z27 3 3 ≤ 900 := hG27.pr 3 3
      have b35 : 0 ≤ Z27 3 4 ∧ Z27 3 4 ≤ 400 := hG27.pr 3 4
      refine Jcv0 hx (show mx_Sn _ _ 9 (mx_callv 56 1 7 12) from sn_53 9) a3 s3 hc27 rfl rfl rfl ?_
      refine mx_J.step (sn_53 12) (fun _ _ => rfl) ?_
      have eq36 : Z27 3 7 = Z 3 7 := (hf27 3 7 rfl)
      have b37 : 0 ≤ Z 3 7 ∧ Z 3 7 ≤ 900 := hG.pr 3 7
      have eq38 : Z27 3 14 = Z 3 14 := (hf27 3 14 rfl)
      exact c20 Z27 h27 (by omega) (RC_e br27 (gEx_y (RC_y (k := 6) (v := 306) hr (by unfold tKk; omega) rfl (by omega)))) hx27 hG27 (fr_tr (M := [(3, 2), (3, 3), (3, 4), (3, 5), (3, 14), (3, 15)]) fr_rf (hf27) (M1 := []) rfl rfl)
theorem ct_53_3_i306 {l : Launch} {D : va_G} {b0 : Nat} {ad : Nat → Nat} {Hb : Heap} {tau : Nat → Int64} {d n s : Nat} {S : Nat → xS} {Z : xZ} {h : mx_H} {T : Int → Int} {N : Int} {sg : SS} (hx : XH n s S Z h) (hG : GI n S Z)   (k0 : Z 3 0 = 2) (k1 : (Z 3 3 ≤ Z 3 2 ∧ Z 3 2 ≤ Z 3 1 ∧ (Z 3 4 = 0 ∨ Z 3 4 = 3 ∨ Z 3 3 < Z 3 2) ∧ (Z 3 4 = 3 ∨ Z 3 14 = 0))) (hr : RC T N Z sg) : ∃ (Z' : xZ) (h' : mx_H), mx_Ca (tB l D b0 ad Hb tau) (d + 7) 53 [.ref 3, xI 306] h (none, h') ∧ XH n s S Z' h' ∧ GI n S Z' ∧ fr' [(3, 2), (3, 3), (3, 4), (3, 5), (3, 14), (3, 15)] Z Z' ∧ (RC T N Z' (gEx T N 6 sg) ∧ ((Z' 3 3 ≤ Z' 3 2 ∧ Z' 3 2 ≤ Z 3 1 ∧ (Z' 3 4 = 0 ∨ Z' 3 4 = 3 ∨ Z' 3 3 < Z' 3 2) ∧ (Z' 3 4 = 3 ∨ Z' 3 14 = 0)) ∧ Z 3 3 ≤ Z' 3 3 ∧ (Z' 3 4 = 3 ∨ Z 3 3 + 1 ≤ Z' 3 3) ∧ (Z 3 4 = 3 → Z' 3 4 = 3))) := by
  obtain ⟨r, hca, Z', h', e, q⟩ := Jmt (B := tB l D b0 ad Hb tau) (M := mt_53) (mi := 53) (as := [.ref 3, xI 306]) (d := d + 6) (ls := [some (.ref 3), some (xI 306)]) rfl rfl rfl rfl rfl rfl (cw_53_3_i306 (l := l) (D := D) (b0 := b0) (ad := ad) (Hb := Hb) (tau := tau) (d := d) (Post := fun r => ∃ (Z' : xZ) (h' : mx_H), r = (none, h') ∧ XH n s S Z' h' ∧ GI n S Z' ∧ fr' [(3, 2), (3, 3), (3, 4), (3, 5), (3, 14), (3, 15)] Z Z' ∧ (RC T N Z' (gEx T N 6 sg) ∧ ((Z' 3 3 ≤ Z' 3 2 ∧ Z' 3 2 ≤ Z 3 1 ∧ (Z' 3 4 = 0 ∨ Z' 3 4 = 3 ∨ Z' 3 3 < Z' 3 2) ∧ (Z' 3 4 = 3 ∨ Z' 3 14 = 0)) ∧ Z 3 3 ≤ Z' 3 3 ∧ (Z' 3 4 = 3 ∨ Z 3 3 + 1 ≤ Z' 3 3) ∧ (Z 3 4 = 3 → Z' 3 4 = 3)))) hx hG k0 k1 hr (fun Z' h' q1 q2 q3 q4 => ⟨Z', h', rfl, q1, q2, q3, q4⟩))
  subst e; exact ⟨Z', h', hca, q⟩
set_option maxRecDepth 100000 in
theorem cw_53_3_i307 {l : Launch} {D : va_G} {b0 : Nat} {ad : Nat → Nat} {Hb : Heap} {tau : Nat → Int64} {d n s : Nat} {S : Nat → xS} {Z : xZ} {h : mx_H} {Post : mx_R → Prop} {T : Int → Int} {N : Int} {sg : SS} (hx : XH n s S Z h) (hG : GI n S Z)   (k0 : Z 3 0 = 2) (k1 : (Z 3 3 ≤ Z 3 2 ∧ Z 3 2 ≤ Z 3 1 ∧ (Z 3 4 = 0 ∨ Z 3 4 = 3 ∨ Z 3 3 < Z 3 2) ∧ (Z 3 4 = 3 ∨ Z 3 14 = 0))) (hr : RC T N Z sg) (hP : ∀ (Z' : xZ) (h' : mx_H), XH n s S Z' h' → GI n S Z' → fr' [(3, 2), (3, 3), (3, 4), (3, 5), (3, 14), (3, 15)] Z Z' → RC T N Z' (gEx T N 7 sg) ∧ ((Z' 3 3 ≤ Z' 3 2 ∧ Z' 3 2 ≤ Z 3 1 ∧ (Z' 3 4 = 0 ∨ Z' 3 4 = 3 ∨ Z' 3 3 < Z' 3 2) ∧ (Z' 3 4 = 3 ∨ Z' 3 14 = 0)) ∧ Z 3 3 ≤ Z' 3 3 ∧ (Z' 3 4 = 3 ∨ Z 3 3 + 1 ≤ Z' 3 3) ∧ (Z 3 4 = 3 → Z' 3 4 = 3)) → Post (none, h')) : mx_J (tB l D b0 ad Hb tau) mt_53 (d + 6) 0 [some (.ref 3), some (xI 307)] [] h Post := by
    have a3 : 3 < n := lt83 (GI_n hG) rfl
    have s3 : S 3 = .inl (7, [2, 0, 0, 0, 0, 0, 2, 0, 2, 2, 0, 2, 0, 0, 0, 0]) := GI_s hG 3 rfl
    refine mx_J.step (sn_53 0) (fun _ _ => rfl) ?_
    have b2 : 0 ≤ Z 3 4 ∧ Z 3 4 ≤ 400 := hG.pr 3 4
    refine JgetI (g := 4) (z := Z 3 4) hx (show mx_Sn _ _ 1 (mx_getf 7 4 4) from sn_53 1) a3 s3 rfl rfl rfl ?_
    refine mx_J.step (sn_53 4) (fun _ _ => rfl) ?_
    have c20 : ∀  (Z4 : xZ) (h4 : mx_H), ((Z4 3 3 ≤ Z4 3 2 ∧ Z4 3 2 ≤ Z 3 1 ∧ (Z4 3 4 = 0 ∨ Z4 3 4 = 3 ∨ Z4 3 3 < Z4 3 2) ∧ (Z4 3 4 = 3 ∨ Z4 3 14 = 0)) ∧ Z 3 3 ≤ Z4 3 3 ∧ (Z4 3 4 = 3 ∨ Z 3 3 + 1 ≤ Z4 3 3) ∧ (Z 3 4 = 3 → Z4 3 4 = 3)) → RC T N Z4 (gEx T N 7 sg) → XH n s S Z4 h4 → GI n S Z4 → fr' [(3, 2), (3, 3), (3, 4), (3, 5), (3, 14), (3, 15)] Z Z4 → mx_J (tB l D b0 ad Hb tau) mt_53 (d + 6) 20 [some (.ref 3), some (xI 307)] [] h4 Post := by
      intro Z4 h4 f3_0 f3_1 hx4 hG4 hf4
      have b5 : 0 ≤ Z4 3 2 ∧ Z4 3 2 ≤ 900 := hG4.pr 3 2
      have b6 : 0 ≤ Z4 3 3 ∧ Z4 3 3 ≤ 900 := hG4.pr 3 3
      have b7 : 0 ≤ Z4 3 4 ∧ Z4 3 4 ≤ 400 := hG4.pr 3 4
      have eq8 : Z4 3 7 = Z 3 7 := (hf4 3 7 rfl)
      have b9 : 0 ≤ Z 3 7 ∧ Z 3 7 ≤ 900 := hG.pr 3 7
      have b10 : 0 ≤ Z4 3 14 ∧ Z4 3 14 ≤ 4 := hG4.pr 3 14
      have eq11 : Z4 3 7 = Z 3 7 := (hf4 3 7 rfl)
      have eq12 : Z4 3 0 = Z 3 0 := (hf4 3 0 rfl)
      have b13 : 2 ≤ Z 3 0 ∧ Z 3 0 ≤ 4 := hG.pr 3 0
      have eq14 : Z4 3 1 = Z 3 1 := (hf4 3 1 rfl)
      have b15 : 0 ≤ Z 3 1 ∧ Z 3 1 ≤ 900 := hG.pr 3 1
      have eq16 : Z4 3 7 = Z 3 7 := (hf4 3 7 rfl)
      exact mx_J.ret (sn_53 20) (fun _ _ => rfl) (hP Z4 h4 hx4 hG4 (fr_tr (M := [(3, 2), (3, 3), (3, 4), (3, 5), (3, 14), (3, 15)]) fr_rf (hf4) (M1 := []) rfl rfl) ⟨f3_1, by omega⟩)
    refine Jicmp_ne (show mx_Sn _ _ 5 (mx_icmp_ne 15 8) from sn_53 5) (by omega) (by omega) (fun q17 => ?_) (fun q17 => ?_)
    · skip
      refine mx_J.step (sn_53 15) (fun _ _ => rfl) ?_
      refine JcI (z := 2) (show mx_Sn _ _ 16 (mx_const (.int 2) 17) from sn_53 16) rfl ?_
      obtain ⟨Z18, h18, hc18, hx18, hG18, hf18, b18⟩ := ct_55_3 (T := T) (N := N) (sg := sg) (d := d + 5) (l := l) (D := D) (b0 := b0) (ad := ad) (Hb := Hb) (tau := tau) hx hG (show 2 ≤ 2 ∧ 2 ≤ 4 by omega) hr
      obtain ⟨br18, b18⟩ := b18
      have b19 : 0 ≤ Z18 3 4 ∧ Z18 3 4 ≤ 400 := hG18.pr 3 4
      refine Jcv0 hx (show mx_Sn _ _ 17 (mx_callv 55 2 7 20) from sn_53 17) a3 s3 hc18 rfl rfl rfl ?_
      have eq20 : Z18 3 2 = Z 3 2 := (hf18 3 2 rfl)
      have b21 : 0 ≤ Z 3 2 ∧ Z 3 2 ≤ 900 := hG.pr 3 2
      have eq22 : Z18 3 3 = Z 3 3 := (hf18 3 3 rfl)
      have b23 : 0 ≤ Z 3 3 ∧ Z 3 3 ≤ 900 := hG.pr 3 3
      have eq24 : Z18 3 7 = Z 3 7 := (hf18 3 7 rfl)
      have b25 : 0 ≤ Z 3 7 ∧ Z 3 7 ≤ 900 := hG.pr 3 7
      have b26 : 0 ≤ Z18 3 14 ∧ Z18 3 14 ≤ 4 := hG18.pr 3 14
      exact c20 Z18 h18 (by omega) (RC_e br18 (gEx_n (RC_n (k := 7) (v := 307) hr (by unfold tKk; omega) rfl (by omega)))) hx18 hG18 (fr_tr (M := [(3, 2), (3, 3), (3, 4), (3, 5), (3, 14), (3, 15)]) fr_rf (hf18) (M1 := []) rfl rfl)
    · skip
      refine mx_J.step (sn_53 8) (fun _ _ => rfl) ?_
      have b28 : 2 ≤ Z 3 0 ∧ Z 3 0 ≤ 4 := hG.pr 3 0
      have b29 : 0 ≤ Z 3 1 ∧ Z 3 1 ≤ 900 := hG.pr 3 1
      have b30 : 0 ≤ Z 3 2 ∧ Z 3 2 ≤ 900 := hG.pr 3 2
      have b31 : 0 ≤ Z 3 3 ∧ Z 3 3 ≤ 900 := hG.pr 3 3
      have b32 : 0 ≤ Z 3 14 ∧ Z 3 14 ≤ 4 := hG.pr 3 14
      obtain ⟨Z27, h27, hc27, hx27, hG27, hf27, b27⟩ := ct_56_3r (T := T) (N := N) (sg := sg) (d := d + 0) (l := l) (D := D) (b0 := b0) (ad := ad) (Hb := Hb) (tau := tau) hx hG  (show Z 3 0 = 2 by omega) (show Z 3 2 ≤ Z 3 1 by omega) hr
      obtain ⟨br27, b27⟩ := b27
      have b33 : 0 ≤ Z27 3 2 ∧ Z27 3 2 ≤ 900 := hG27.pr 3 2
      have b34 : 0 ≤ Z27 3 3 ∧ Z27 3 3 ≤ 900 := hG27.pr 3 3
      have b35 : 0 ≤ Z27 3 4 ∧ Z27 3 4 ≤ 400 := hG27.pr 3 4
      refine Jcv0 hx (show mx_Sn _ _ 9 (mx_callv 56 1 7 12) from sn_53 9) a3 s3 hc27 rfl rfl rfl ?_
      refine mx_J.step (sn_53 12) (fun _ _ => rfl) ?_
      have eq36 : Z27 3 7 = Z 3 7 := (hf27 3 7 rfl)
      have b37 : 0 ≤ Z 3 7 ∧ Z 3 7 ≤ 900 := hG.pr 3 7
      have eq38 : Z27 3 14 = Z 3 14 := (hf27 3 14 rfl)
      exact c20 Z27 h27 (by omega) (RC_e br27 (gEx_y (RC_y (k := 7) (v := 307) hr (by unfold tKk; omega) rfl (by omega)))) hx27 hG27 (fr_tr (M := [(3, 2), (3, 3), (3, 4), (3, 5), (3, 14), (3, 15)]) fr_rf (hf27) (M1 := []) rfl rfl)
theorem ct_53_3_i307 {l : Launch} {D : va_G} {b0 : Nat} {ad : Nat → Nat} {Hb : Heap} {tau : Nat → Int64} {d n s : Nat} {S : Nat → xS} {Z : xZ} {h : mx_H} {T : Int → Int} {N : Int} {sg : SS} (hx : XH n s S Z h) (hG : GI n S Z)   (k0 : Z 3 0 = 2) (k1 : (Z 3 3 ≤ Z 3 2 ∧ Z 3 2 ≤ Z 3 1 ∧ (Z 3 4 = 0 ∨ Z 3 4 = 3 ∨ Z 3 3 < Z 3 2) ∧ (Z 3 4 = 3 ∨ Z 3 14 = 0))) (hr : RC T N Z sg) : ∃ (Z' : xZ) (h' : mx_H), mx_Ca (tB l D b0 ad Hb tau) (d + 7) 53 [.ref 3, xI 307] h (none, h') ∧ XH n s S Z' h' ∧ GI n S Z' ∧ fr' [(3, 2), (3, 3), (3, 4), (3, 5), (3, 14), (3, 15)] Z Z' ∧ (RC T N Z' (gEx T N 7 sg) ∧ ((Z' 3 3 ≤ Z' 3 2 ∧ Z' 3 2 ≤ Z 3 1 ∧ (Z' 3 4 = 0 ∨ Z' 3 4 = 3 ∨ Z' 3 3 < Z' 3 2) ∧ (Z' 3 4 = 3 ∨ Z' 3 14 = 0)) ∧ Z 3 3 ≤ Z' 3 3 ∧ (Z' 3 4 = 3 ∨ Z 3 3 + 1 ≤ Z' 3 3) ∧ (Z 3 4 = 3 → Z' 3 4 = 3))) := by
  obtain ⟨r, hca, Z', h', e, q⟩ := Jmt (B := tB l D b0 ad Hb tau) (M := mt_53) (mi := 53) (as := [.ref 3, xI 307]) (d := d + 6) (ls := [some (.ref 3), some (xI 307)]) rfl rfl rfl rfl rfl rfl (cw_53_3_i307 (l := l) (D := D) (b0 := b0) (ad := ad) (Hb := Hb) (tau := tau) (d := d) (Post := fun r => ∃ (Z' : xZ) (h' : mx_H), r = (none, h') ∧ XH n s S Z' h' ∧ GI n S Z' ∧ fr' [(3, 2), (3, 3), (3, 4), (3, 5), (3, 14), (3, 15)] Z Z' ∧ (RC T N Z' (gEx T N 7 sg) ∧ ((Z' 3 3 ≤ Z' 3 2 ∧ Z' 3 2 ≤ Z 3 1 ∧ (Z' 3 4 = 0 ∨ Z' 3 4 = 3 ∨ Z' 3 3 < Z' 3 2) ∧ (Z' 3 4 = 3 ∨ Z' 3 14 = 0)) ∧ Z 3 3 ≤ Z' 3 3 ∧ (Z' 3 4 = 3 ∨ Z 3 3 + 1 ≤ Z' 3 3) ∧ (Z 3 4 = 3 → Z' 3 4 = 3)))) hx hG k0 k1 hr (fun Z' h' q1 q2 q3 q4 => ⟨Z', h', rfl, q1, q2, q3, q4⟩))
  subst e; exact ⟨Z', h', hca, q⟩
set_option maxRecDepth 100000 in
theorem cw_53_3_i308 {l : Launch} {D : va_G} {b0 : Nat} {ad : Nat → Nat} {Hb : Heap} {tau : Nat → Int64} {d n s : Nat} {S : Nat → xS} {Z : xZ} {h : mx_H} {Post : mx_R → Prop} {T : Int → Int} {N : Int} {sg : SS} (hx : XH n s S Z h) (hG : GI n S Z)   (k0 : Z 3 0 = 2) (k1 : (Z 3 3 ≤ Z 3 2 ∧ Z 3 2 ≤ Z 3 1 ∧ (Z 3 4 = 0 ∨ Z 3 4 = 3 ∨ Z 3 3 < Z 3 2) ∧ (Z 3 4 = 3 ∨ Z 3 14 = 0))) (hr : RC T N Z sg) (hP : ∀ (Z' : xZ) (h' : mx_H), XH n s S Z' h' → GI n S Z' → fr' [(3, 2), (3, 3), (3, 4), (3, 5), (3, 14), (3, 15)] Z Z' → RC T N Z' (gEx T N 8 sg) ∧ ((Z' 3 3 ≤ Z' 3 2 ∧ Z' 3 2 ≤ Z 3 1 ∧ (Z' 3 4 = 0 ∨ Z' 3 4 = 3 ∨ Z' 3 3 < Z' 3 2) ∧ (Z' 3 4 = 3 ∨ Z' 3 14 = 0)) ∧ Z 3 3 ≤ Z' 3 3 ∧ (Z' 3 4 = 3 ∨ Z 3 3 + 1 ≤ Z' 3 3) ∧ (Z 3 4 = 3 → Z' 3 4 = 3)) → Post (none, h')) : mx_J (tB l D b0 ad Hb tau) mt_53 (d + 6) 0 [some (.ref 3), some (xI 308)] [] h Post := by
    have a3 : 3 < n := lt83 (GI_n hG) rfl
    have s3 : S 3 = .inl (7, [2, 0, 0, 0, 0, 0, 2, 0, 2, 2, 0, 2, 0, 0, 0, 0]) := GI_s hG 3 rfl
    refine mx_J.step (sn_53 0) (fun _ _ => rfl) ?_
    have b2 : 0 ≤ Z 3 4 ∧ Z 3 4 ≤ 400 := hG.pr 3 4
    refine JgetI (g := 4) (z := Z 3 4) hx (show mx_Sn _ _ 1 (mx_getf 7 4 4) from sn_53 1) a3 s3 rfl rfl rfl ?_
    refine mx_J.step (sn_53 4) (fun _ _ => rfl) ?_
    have c20 : ∀  (Z4 : xZ) (h4 : mx_H), ((Z4 3 3 ≤ Z4 3 2 ∧ Z4 3 2 ≤ Z 3 1 ∧ (Z4 3 4 = 0 ∨ Z4 3 4 = 3 ∨ Z4 3 3 < Z4 3 2) ∧ (Z4 3 4 = 3 ∨ Z4 3 14 = 0)) ∧ Z 3 3 ≤ Z4 3 3 ∧ (Z4 3 4 = 3 ∨ Z 3 3 + 1 ≤ Z4 3 3) ∧ (Z 3 4 = 3 → Z4 3 4 = 3)) → RC T N Z4 (gEx T N 8 sg) → XH n s S Z4 h4 → GI n S Z4 → fr' [(3, 2), (3, 3), (3, 4), (3, 5), (3, 14), (3, 15)] Z Z4 → mx_J (tB l D b0 ad Hb tau) mt_53 (d + 6) 20 [some (.ref 3), some (xI 308)] [] h4 Post := by
      intro Z4 h4 f3_0 f3_1 hx4 hG4 hf4
      have b5 : 0 ≤ Z4 3 2 ∧ Z4 3 2 ≤ 900 := hG4.pr 3 2
      have b6 : 0 ≤ Z4 3 3 ∧ Z4 3 3 ≤ 900 := hG4.pr 3 3
      have b7 : 0 ≤ Z4 3 4 ∧ Z4 3 4 ≤ 400 := hG4.pr 3 4
      have eq8 : Z4 3 7 = Z 3 7 := (hf4 3 7 rfl)
      have b9 : 0 ≤ Z 3 7 ∧ Z 3 7 ≤ 900 := hG.pr 3 7
      have b10 : 0 ≤ Z4 3 14 ∧ Z4 3 14 ≤ 4 := hG4.pr 3 14
      have eq11 : Z4 3 7 = Z 3 7 := (hf4 3 7 rfl)
      have eq12 : Z4 3 0 = Z 3 0 := (hf4 3 0 rfl)
      have b13 : 2 ≤ Z 3 0 ∧ Z 3 0 ≤ 4 := hG.pr 3 0
      have eq14 : Z4 3 1 = Z 3 1 := (hf4 3 1 rfl)
      have b15 : 0 ≤ Z 3 1 ∧ Z 3 1 ≤ 900 := hG.pr 3 1
      have eq16 : Z4 3 7 = Z 3 7 := (hf4 3 7 rfl)
      exact mx_J.ret (sn_53 20) (fun _ _ => rfl) (hP Z4 h4 hx4 hG4 (fr_tr (M := [(3, 2), (3, 3), (3, 4), (3, 5), (3, 14), (3, 15)]) fr_rf (hf4) (M1 := []) rfl rfl) ⟨f3_1, by omega⟩)
    refine Jicmp_ne (show mx_Sn _ _ 5 (mx_icmp_ne 15 8) from sn_53 5) (by omega) (by omega) (fun q17 => ?_) (fun q17 => ?_)
    · skip
      refine mx_J.step (sn_53 15) (fun _ _ => rfl) ?_
      refine JcI (z := 2) (show mx_Sn _ _ 16 (mx_const (.int 2) 17) from sn_53 16) rfl ?_
      obtain ⟨Z18, h18, hc18, hx18, hG18, hf18, b18⟩ := ct_55_3 (T := T) (N := N) (sg := sg) (d := d + 5) (l := l) (D := D) (b0 := b0) (ad := ad) (Hb := Hb) (tau := tau) hx hG (show 2 ≤ 2 ∧ 2 ≤ 4 by omega) hr
      obtain ⟨br18, b18⟩ := b18
      have b19 : 0 ≤ Z18 3 4 ∧ Z18 3 4 ≤ 400 := hG18.pr 3 4
      refine Jcv0 hx (show mx_Sn _ _ 17 (mx_callv 55 2 7 20) from sn_53 17) a3 s3 hc18 rfl rfl rfl ?_
      have eq20 : Z18 3 2 = Z 3 2 := (hf18 3 2 rfl)
      have b21 : 0 ≤ Z 3 2 ∧ Z 3 2 ≤ 900 := hG.pr 3 2
      have eq22 : Z18 3 3 = Z 3 3 := (hf18 3 3 rfl)
      have b23 : 0 ≤ Z 3 3 ∧ Z 3 3 ≤ 900 := hG.pr 3 3
      have eq24 : Z18 3 7 = Z 3 7 := (hf18 3 7 rfl)
      have b25 : 0 ≤ Z 3 7 ∧ Z 3 7 ≤ 900 := hG.pr 3 7
      have b26 : 0 ≤ Z18 3 14 ∧ Z18 3 14 ≤ 4 := hG18.pr 3 14
      exact c20 Z18 h18 (by omega) (RC_e br18 (gEx_n (RC_n (k := 8) (v := 308) hr (by unfold tKk; omega) rfl (by omega)))) hx18 hG18 (fr_tr (M := [(3, 2), (3, 3), (3, 4), (3, 5), (3, 14), (3, 15)]) fr_rf (hf18) (M1 := []) rfl rfl)
    · skip
      refine mx_J.step (sn_53 8) (fun _ _ => rfl) ?_
      have b28 : 2 ≤ Z 3 0 ∧ Z 3 0 ≤ 4 := hG.pr 3 0
      have b29 : 0 ≤ Z 3 1 ∧ Z 3 1 ≤ 900 := hG.pr 3 1
      have b30 : 0 ≤ Z 3 2 ∧ Z 3 2 ≤ 900 := hG.pr 3 2
      have b31 : 0 ≤ Z 3 3 ∧ Z 3 3 ≤ 900 := hG.pr 3 3
      have b32 : 0 ≤ Z 3 14 ∧ Z 3 14 ≤ 4 := hG.pr 3 14
      obtain ⟨Z27, h27, hc27, hx27, hG27, hf27, b27⟩ := ct_56_3r (T := T) (N := N) (sg := sg) (d := d + 0) (l := l) (D := D) (b0 := b0) (ad := ad) (Hb := Hb) (tau := tau) hx hG  (show Z 3 0 = 2 by omega) (show Z 3 2 ≤ Z 3 1 by omega) hr
      obtain ⟨br27, b27⟩ := b27
      have b33 : 0 ≤ Z27 3 2 ∧ Z27 3 2 ≤ 900 := hG27.pr 3 2
      have b34 : 0 ≤ Z27 3 3 ∧ Z27 3 3 ≤ 900 := hG27.pr 3 3
      have b35 : 0 ≤ Z27 3 4 ∧ Z27 3 4 ≤ 400 := hG27.pr 3 4
      refine Jcv0 hx (show mx_Sn _ _ 9 (mx_callv 56 1 7 12) from sn_53 9) a3 s3 hc27 rfl rfl rfl ?_
      refine mx_J.step (sn_53 12) (fun _ _ => rfl) ?_
      have eq36 : Z27 3 7 = Z 3 7 := (hf27 3 7 rfl)
      have b37 : 0 ≤ Z 3 7 ∧ Z 3 7 ≤ 900 := hG.pr 3 7
      have eq38 : Z27 3 14 = Z 3 14 := (hf27 3 14 rfl)
      exact c20 Z27 h27 (by omega) (RC_e br27 (gEx_y (RC_y (k := 8) (v := 308) hr (by unfold tKk; omega) rfl (by omega)))) hx27 hG27 (fr_tr (M := [(3, 2), (3, 3), (3, 4), (3, 5), (3, 14), (3, 15)]) fr_rf (hf27) (M1 := []) rfl rfl)
theorem ct_53_3_i308 {l : Launch} {D : va_G} {b0 : Nat} {ad : Nat → Nat} {Hb : Heap} {tau : Nat → Int64} {d n s : Nat} {S : Nat → xS} {Z : xZ} {h : mx_H} {T : Int → Int} {N : Int} {sg : SS} (hx : XH n s S Z h) (hG : GI n S Z)   (k0 : Z 3 0 = 2) (k1 : (Z 3 3 ≤ Z 3 2 ∧ Z 3 2 ≤ Z 3 1 ∧ (Z 3 4 = 0 ∨ Z 3 4 = 3 ∨ Z 3 3 < Z 3 2) ∧ (Z 3 4 = 3 ∨ Z 3 14 = 0))) (hr : RC T N Z sg) : ∃ (Z' : xZ) (h' : mx_H), mx_Ca (tB l D b0 ad Hb tau) (d + 7) 53 [.ref 3, xI 308] h (none, h') ∧ XH n s S Z' h' ∧ GI n S Z' ∧ fr' [(3, 2), (3, 3), (3, 4), (3, 5), (3, 14), (3, 15)] Z Z' ∧ (RC T N Z' (gEx T N 8 sg) ∧ ((Z' 3 3 ≤ Z' 3 2 ∧ Z' 3 2 ≤ Z 3 1 ∧ (Z' 3 4 = 0 ∨ Z' 3 4 = 3 ∨ Z' 3 3 < Z' 3 2) ∧ (Z' 3 4 = 3 ∨ Z' 3 14 = 0)) ∧ Z 3 3 ≤ Z' 3 3 ∧ (Z' 3 4 = 3 ∨ Z 3 3 + 1 ≤ Z' 3 3) ∧ (Z 3 4 = 3 → Z' 3 4 = 3))) := by
  obtain ⟨r, hca, Z', h', e, q⟩ := Jmt (B := tB l D b0 ad Hb tau) (M := mt_53) (mi := 53) (as := [.ref 3, xI 308]) (d := d + 6) (ls := [some (.ref 3), some (xI 308)]) rfl rfl rfl rfl rfl rfl (cw_53_3_i308 (l := l) (D := D) (b0 := b0) (ad := ad) (Hb := Hb) (tau := tau) (d := d) (Post := fun r => ∃ (Z' : xZ) (h' : mx_H), r = (none, h') ∧ XH n s S Z' h' ∧ GI n S Z' ∧ fr' [(3, 2), (3, 3), (3, 4), (3, 5), (3, 14), (3, 15)] Z Z' ∧ (RC T N Z' (gEx T N 8 sg) ∧ ((Z' 3 3 ≤ Z' 3 2 ∧ Z' 3 2 ≤ Z 3 1 ∧ (Z' 3 4 = 0 ∨ Z' 3 4 = 3 ∨ Z' 3 3 < Z' 3 2) ∧ (Z' 3 4 = 3 ∨ Z' 3 14 = 0)) ∧ Z 3 3 ≤ Z' 3 3 ∧ (Z' 3 4 = 3 ∨ Z 3 3 + 1 ≤ Z' 3 3) ∧ (Z 3 4 = 3 → Z' 3 4 = 3)))) hx hG k0 k1 hr (fun Z' h' q1 q2 q3 q4 => ⟨Z', h', rfl, q1, q2, q3, q4⟩))
  subst e; exact ⟨Z', h', hca, q⟩
set_option maxRecDepth 100000 in
theorem cw_53_3_i93 {l : Launch} {D : va_G} {b0 : Nat} {ad : Nat → Nat} {Hb : Heap} {tau : Nat → Int64} {d n s : Nat} {S : Nat → xS} {Z : xZ} {h : mx_H} {Post : mx_R → Prop} {T : Int → Int} {N : Int} {sg : SS} (hx : XH n s S Z h) (hG : GI n S Z)   (k0 : Z 3 0 = 2) (k1 : (Z 3 3 ≤ Z 3 2 ∧ Z 3 2 ≤ Z 3 1 ∧ (Z 3 4 = 0 ∨ Z 3 4 = 3 ∨ Z 3 3 < Z 3 2) ∧ (Z 3 4 = 3 ∨ Z 3 14 = 0))) (hr : RC T N Z sg) (hP : ∀ (Z' : xZ) (h' : mx_H), XH n s S Z' h' → GI n S Z' → fr' [(3, 2), (3, 3), (3, 4), (3, 5), (3, 14), (3, 15)] Z Z' → RC T N Z' (gEx T N 38 sg) ∧ ((Z' 3 3 ≤ Z' 3 2 ∧ Z' 3 2 ≤ Z 3 1 ∧ (Z' 3 4 = 0 ∨ Z' 3 4 = 3 ∨ Z' 3 3 < Z' 3 2) ∧ (Z' 3 4 = 3 ∨ Z' 3 14 = 0)) ∧ Z 3 3 ≤ Z' 3 3 ∧ (Z' 3 4 = 3 ∨ Z 3 3 + 1 ≤ Z' 3 3) ∧ (Z 3 4 = 3 → Z' 3 4 = 3)) → Post (none, h')) : mx_J (tB l D b0 ad Hb tau) mt_53 (d + 6) 0 [some (.ref 3), some (xI 93)] [] h Post := by
    have a3 : 3 < n := lt83 (GI_n hG) rfl
    have s3 : S 3 = .inl (7, [2, 0, 0, 0, 0, 0, 2, 0, 2, 2, 0, 2, 0, 0, 0, 0]) := GI_s hG 3 rfl
    refine mx_J.step (sn_53 0) (fun _ _ => rfl) ?_
    have b2 : 0 ≤ Z 3 4 ∧ Z 3 4 ≤ 400 := hG.pr 3 4
    refine JgetI (g := 4) (z := Z 3 4) hx (show mx_Sn _ _ 1 (mx_getf 7 4 4) from sn_53 1) a3 s3 rfl rfl rfl ?_
    refine mx_J.step (sn_53 4) (fun _ _ => rfl) ?_
    have c20 : ∀  (Z4 : xZ) (h4 : mx_H), ((Z4 3 3 ≤ Z4 3 2 ∧ Z4 3 2 ≤ Z 3 1 ∧ (Z4 3 4 = 0 ∨ Z4 3 4 = 3 ∨ Z4 3 3 < Z4 3 2) ∧ (Z4 3 4 = 3 ∨ Z4 3 14 = 0)) ∧ Z 3 3 ≤ Z4 3 3 ∧ (Z4 3 4 = 3 ∨ Z 3 3 + 1 ≤ Z4 3 3) ∧ (Z 3 4 = 3 → Z4 3 4 = 3)) → RC T N Z4 (gEx T N 38 sg) → XH n s S Z4 h4 → GI n S Z4 → fr' [(3, 2), (3, 3), (3, 4), (3, 5), (3, 14), (3, 15)] Z Z4 → mx_J (tB l D b0 ad Hb tau) mt_53 (d + 6) 20 [some (.ref 3), some (xI 93)] [] h4 Post := by
      intro Z4 h4 f3_0 f3_1 hx4 hG4 hf4
      have b5 : 0 ≤ Z4 3 2 ∧ Z4 3 2 ≤ 900 := hG4.pr 3 2
      have b6 : 0 ≤ Z4 3 3 ∧ Z4 3 3 ≤ 900 := hG4.pr 3 3
      have b7 : 0 ≤ Z4 3 4 ∧ Z4 3 4 ≤ 400 := hG4.pr 3 4
      have eq8 : Z4 3 7 = Z 3 7 := (hf4 3 7 rfl)
      have b9 : 0 ≤ Z 3 7 ∧ Z 3 7 ≤ 900 := hG.pr 3 7
      have b10 : 0 ≤ Z4 3 14 ∧ Z4 3 14 ≤ 4 := hG4.pr 3 14
      have eq11 : Z4 3 7 = Z 3 7 := (hf4 3 7 rfl)
      have eq12 : Z4 3 0 = Z 3 0 := (hf4 3 0 rfl)
      have b13 : 2 ≤ Z 3 0 ∧ Z 3 0 ≤ 4 := hG.pr 3 0
      have eq14 : Z4 3 1 = Z 3 1 := (hf4 3 1 rfl)
      have b15 : 0 ≤ Z 3 1 ∧ Z 3 1 ≤ 900 := hG.pr 3 1
      have eq16 : Z4 3 7 = Z 3 7 := (hf4 3 7 rfl)
      exact mx_J.ret (sn_53 20) (fun _ _ => rfl) (hP Z4 h4 hx4 hG4 (fr_tr (M := [(3, 2), (3, 3), (3, 4), (3, 5), (3, 14), (3, 15)]) fr_rf (hf4) (M1 := []) rfl rfl) ⟨f3_1, by omega⟩)
    refine Jicmp_ne (show mx_Sn _ _ 5 (mx_icmp_ne 15 8) from sn_53 5) (by omega) (by omega) (fun q17 => ?_) (fun q17 => ?_)
    · skip
      refine mx_J.step (sn_53 15) (fun _ _ => rfl) ?_
      refine JcI (z := 2) (show mx_Sn _ _ 16 (mx_const (.int 2) 17) from sn_53 16) rfl ?_
      obtain ⟨Z18, h18, hc18, hx18, hG18, hf18, b18⟩ := ct_55_3 (T := T) (N := N) (sg := sg) (d := d + 5) (l := l) (D := D) (b0 := b0) (ad := ad) (Hb := Hb) (tau := tau) hx hG (show 2 ≤ 2 ∧ 2 ≤ 4 by omega) hr
      obtain ⟨br18, b18⟩ := b18
      have b19 : 0 ≤ Z18 3 4 ∧ Z18 3 4 ≤ 400 := hG18.pr 3 4
      refine Jcv0 hx (show mx_Sn _ _ 17 (mx_callv 55 2 7 20) from sn_53 17) a3 s3 hc18 rfl rfl rfl ?_
      have eq20 : Z18 3 2 = Z 3 2 := (hf18 3 2 rfl)
      have b21 : 0 ≤ Z 3 2 ∧ Z 3 2 ≤ 900 := hG.pr 3 2
      have eq22 : Z18 3 3 = Z 3 3 := (hf18 3 3 rfl)
      have b23 : 0 ≤ Z 3 3 ∧ Z 3 3 ≤ 900 := hG.pr 3 3
      have eq24 : Z18 3 7 = Z 3 7 := (hf18 3 7 rfl)
      have b25 : 0 ≤ Z 3 7 ∧ Z 3 7 ≤ 900 := hG.pr 3 7
      have b26 : 0 ≤ Z18 3 14 ∧ Z18 3 14 ≤ 4 := hG18.pr 3 14
      exact c20 Z18 h18 (by omega) (RC_e br18 (gEx_n (RC_n (k := 38) (v := 93) hr (by unfold tKk; omega) rfl (by omega)))) hx18 hG18 (fr_tr (M := [(3, 2), (3, 3), (3, 4), (3, 5), (3, 14), (3, 15)]) fr_rf (hf18) (M1 := []) rfl rfl)
    · skip
      refine mx_J.step (sn_53 8) (fun _ _ => rfl) ?_
      have b28 : 2 ≤ Z 3 0 ∧ Z 3 0 ≤ 4 := hG.pr 3 0
      have b29 : 0 ≤ Z 3 1 ∧ Z 3 1 ≤ 900 := hG.pr 3 1
      have b30 : 0 ≤ Z 3 2 ∧ Z 3 2 ≤ 900 := hG.pr 3 2
      have b31 : 0 ≤ Z 3 3 ∧ Z 3 3 ≤ 900 := hG.pr 3 3
      have b32 : 0 ≤ Z 3 14 ∧ Z 3 14 ≤ 4 := hG.pr 3 14
      obtain ⟨Z27, h27, hc27, hx27, hG27, hf27, b27⟩ := ct_56_3r (T := T) (N := N) (sg := sg) (d := d + 0) (l := l) (D := D) (b0 := b0) (ad := ad) (Hb := Hb) (tau := tau) hx hG  (show Z 3 0 = 2 by omega) (show Z 3 2 ≤ Z 3 1 by omega) hr
      obtain ⟨br27, b27⟩ := b27
      have b33 : 0 ≤ Z27 3 2 ∧ Z27 3 2 ≤ 900 := hG27.pr 3 2
      have b34 : 0 ≤ Z27 3 3 ∧ Z27 3 3 ≤ 900 := hG27.pr 3 3
      have b35 : 0 ≤ Z27 3 4 ∧ Z27 3 4 ≤ 400 := hG27.pr 3 4
      refine Jcv0 hx (show mx_Sn _ _ 9 (mx_callv 56 1 7 12) from sn_53 9) a3 s3 hc27 rfl rfl rfl ?_
      refine mx_J.step (sn_53 12) (fun _ _ => rfl) ?_
      have eq36 : Z27 3 7 = Z 3 7 := (hf27 3 7 rfl)
      have b37 : 0 ≤ Z 3 7 ∧ Z 3 7 ≤ 900 := hG.pr 3 7
      have eq38 : Z27 3 14 = Z 3 14 := (hf27 3 14 rfl)
      exact c20 Z27 h27 (by omega) (RC_e br27 (gEx_y (RC_y (k := 38) (v := 93) hr (by unfold tKk; omega) rfl (by omega)))) hx27 hG27 (fr_tr (M := [(3, 2), (3, 3), (3, 4), (3, 5), (3, 14), (3, 15)]) fr_rf (hf27) (M1 := []) rfl rfl)
theorem ct_53_3_i93 {l : Launch} {D : va_G} {b0 : Nat} {ad : Nat → Nat} {Hb : Heap} {tau : Nat → Int64} {d n s : Nat} {S : Nat → xS} {Z : xZ} {h : mx_H} {T : Int → Int} {N : Int} {sg : SS} (hx : XH n s S Z h) (hG : GI n S Z)   (k0 : Z 3 0 = 2) (k1 : (Z 3 3 ≤ Z 3 2 ∧ Z 3 2 ≤ Z 3 1 ∧ (Z 3 4 = 0 ∨ Z 3 4 = 3 ∨ Z 3 3 < Z 3 2) ∧ (Z 3 4 = 3 ∨ Z 3 14 = 0))) (hr : RC T N Z sg) : ∃ (Z' : xZ) (h' : mx_H), mx_Ca (tB l D b0 ad Hb tau) (d + 7) 53 [.ref 3, xI 93] h (none, h') ∧ XH n s S Z' h' ∧ GI n S Z' ∧ fr' [(3, 2), (3, 3), (3, 4), (3, 5), (3, 14), (3, 15)] Z Z' ∧ (RC T N Z' (gEx T N 38 sg) ∧ ((Z' 3 3 ≤ Z' 3 2 ∧ Z' 3 2 ≤ Z 3 1 ∧ (Z' 3 4 = 0 ∨ Z' 3 4 = 3 ∨ Z' 3 3 < Z' 3 2) ∧ (Z' 3 4 = 3 ∨ Z' 3 14 = 0)) ∧ Z 3 3 ≤ Z' 3 3 ∧ (Z' 3 4 = 3 ∨ Z 3 3 + 1 ≤ Z' 3 3) ∧ (Z 3 4 = 3 → Z' 3 4 = 3))) := by
  obtain ⟨r, hca, Z', h', e, q⟩ := Jmt (B := tB l D b0 ad Hb tau) (M := mt_53) (mi := 53) (as := [.ref 3, xI 93]) (d := d + 6) (ls := [some (.ref 3), some (xI 93)]) rfl rfl rfl rfl rfl rfl (cw_53_3_i93 (l := l) (D := D) (b0 := b0) (ad := ad) (Hb := Hb) (tau := tau) (d := d) (Post := fun r => ∃ (Z' : xZ) (h' : mx_H), r = (none, h') ∧ XH n s S Z' h' ∧ GI n S Z' ∧ fr' [(3, 2), (3, 3), (3, 4), (3, 5), (3, 14), (3, 15)] Z Z' ∧ (RC T N Z' (gEx T N 38 sg) ∧ ((Z' 3 3 ≤ Z' 3 2 ∧ Z' 3 2 ≤ Z 3 1 ∧ (Z' 3 4 = 0 ∨ Z' 3 4 = 3 ∨ Z' 3 3 < Z' 3 2) ∧ (Z' 3 4 = 3 ∨ Z' 3 14 = 0)) ∧ Z 3 3 ≤ Z' 3 3 ∧ (Z' 3 4 = 3 ∨ Z 3 3 + 1 ≤ Z' 3 3) ∧ (Z 3 4 = 3 → Z' 3 4 = 3)))) hx hG k0 k1 hr (fun Z' h' q1 q2 q3 q4 => ⟨Z', h', rfl, q1, q2, q3, q4⟩))
  subst e; exact ⟨Z', h', hca, q⟩
set_option maxRecDepth 100000 in
theorem cw_54_3 {l : Launch} {D : va_G} {b0 : Nat} {ad : Nat → Nat} {Hb : Heap} {tau : Nat → Int64} {d n s : Nat} {S : Nat → xS} {Z : xZ} {h : mx_H} {Post : mx_R → Prop} {T : Int → Int} {N : Int} {sg : SS} (hx : XH n s S Z h) (hG : GI n S Z)  {x0 x1 : Int} (p0 : 0 ≤ x0 ∧ x0 ≤ 1) (p1 : 0 ≤ x1 ∧ x1 ≤ 999) (k0 : Z 3 0 = 2) (k1 : (Z 3 3 ≤ Z 3 2 ∧ Z 3 2 ≤ Z 3 1 ∧ (Z 3 4 = 0 ∨ Z 3 4 = 3 ∨ Z 3 3 < Z 3 2) ∧ (Z 3 4 = 3 ∨ Z 3 14 = 0))) (hr : RC T N Z sg) (hP : ∀ (z : Int) (Z' : xZ) (h' : mx_H), XH n s S Z' h' → GI n S Z' → fr' [(3, 2), (3, 3), (3, 4), (3, 5), (3, 14), (3, 15)] Z Z' → RC T N Z' (gTk T N x0 x1 sg) ∧ (0 ≤ (gTk T N x0 x1 sg).1 → z = tVl T N sg.1) ∧ 0 ≤ z ∧ z ≤ 999 ∧ ((Z' 3 3 ≤ Z' 3 2 ∧ Z' 3 2 ≤ Z 3 1 ∧ (Z' 3 4 = 0 ∨ Z' 3 4 = 3 ∨ Z' 3 3 < Z' 3 2) ∧ (Z' 3 4 = 3 ∨ Z' 3 14 = 0)) ∧ Z 3 3 ≤ Z' 3 3 ∧ (Z' 3 4 = 3 ∨ Z 3 3 + 1 ≤ Z' 3 3) ∧ (Z 3 4 = 3 → Z' 3 4 = 3) ∧ (z = 0 ∨ (x0 ≤ z ∧ z ≤ x1)) ∧ (x0 = 1 → z = 0 → Z' 3 4 = 3) ∧ (Z 3 4 = 1 → x0 = 0 → x1 = 999 → Z 3 3 + 1 ≤ Z' 3 3)) → Post (some (xI z), h')) : mx_J (tB l D b0 ad Hb tau) mt_54 (d + 6) 0 [some (.ref 3), some (xI x0), some (xI x1), none] [] h Post := by
    have a3 : 3 < n := lt83 (GI_n hG) rfl
    have s3 : S 3 = .inl (7, [2, 0, 0, 0, 0, 0, 2, 0, 2, 2, 0, 2, 0, 0, 0, 0]) := GI_s hG 3 rfl
    refine mx_J.step (sn_54 0) (fun _ _ => rfl) ?_
    have b2 : 0 ≤ Z 3 5 ∧ Z 3 5 ≤ 999 := hG.pr 3 5
    refine JgetI (g := 5) (z := Z 3 5) hx (show mx_Sn _ _ 1 (mx_getf 7 5 4) from sn_54 1) a3 s3 rfl rfl rfl ?_
    refine mx_J.step (ls2 := [some (.ref 3), some (xI x0), some (xI x1), some (xI (Z 3 5))]) (sn_54 4) (fun _ _ => rfl) ?_
    refine mx_J.step (sn_54 5) (fun _ _ => rfl) ?_
    have b4 : 0 ≤ Z 3 4 ∧ Z 3 4 ≤ 400 := hG.pr 3 4
    refine JgetI (g := 4) (z := Z 3 4) hx (show mx_Sn _ _ 6 (mx_getf 7 4 9) from sn_54 6) a3 s3 rfl rfl rfl ?_
    refine JcI (z := 1) (show mx_Sn _ _ 9 (mx_const (.int 1) 10) from sn_54 9) rfl ?_
    refine Jicmp_eq (show mx_Sn _ _ 10 (mx_icmp_eq 20 13) from sn_54 10) (by omega) (by omega) (fun q5 => ?_) (fun q5 => ?_)
    · skip
      have g23 := (RC_y (k := 23) (v := 1) hr (by unfold tKk; omega) rfl (by omega))
      have v23 : Z 3 5 = tVl T N sg.1 := RC_v hr g23
      refine mx_J.step (sn_54 20) (fun _ _ => rfl) ?_
      refine mx_J.step (sn_54 21) (fun _ _ => rfl) ?_
      have c30 : ((Z 3 5) < x0 ∨ x1 < (Z 3 5)) → mx_J (tB l D b0 ad Hb tau) mt_54 (d + 6) 30 [some (.ref 3), some (xI x0), some (xI x1), some (xI (Z 3 5))] [] h Post := by
        intro f6_0
        refine mx_J.step (sn_54 30) (fun _ _ => rfl) ?_
        refine JcI (z := 3) (show mx_Sn _ _ 31 (mx_const (.int 3) 32) from sn_54 31) rfl ?_
        obtain ⟨Z7, h7, hc7, hx7, hG7, hf7, b7⟩ := ct_55_3 (T := T) (N := N) (sg := sg) (d := d + 5) (l := l) (D := D) (b0 := b0) (ad := ad) (Hb := Hb) (tau := tau) hx hG (show 2 ≤ 3 ∧ 3 ≤ 4 by omega) hr
        obtain ⟨br7, b7⟩ := b7
        have b8 : 0 ≤ Z7 3 4 ∧ Z7 3 4 ≤ 400 := hG7.pr 3 4
        refine Jcv0 hx (show mx_Sn _ _ 32 (mx_callv 55 2 7 35) from sn_54 32) a3 s3 hc7 rfl rfl rfl ?_
        refine JcI (z := 0) (show mx_Sn _ _ 35 (mx_const (.int 0) 36) from sn_54 35) rfl ?_
        have eq9 : Z7 3 2 = Z 3 2 := (hf7 3 2 rfl)
        have b10 : 0 ≤ Z 3 2 ∧ Z 3 2 ≤ 900 := hG.pr 3 2
        have eq11 : Z7 3 3 = Z 3 3 := (hf7 3 3 rfl)
        have b12 : 0 ≤ Z 3 3 ∧ Z 3 3 ≤ 900 := hG.pr 3 3
        have eq13 : Z7 3 7 = Z 3 7 := (hf7 3 7 rfl)
        have b14 : 0 ≤ Z 3 7 ∧ Z 3 7 ≤ 900 := hG.pr 3 7
        have b15 : 0 ≤ Z7 3 14 ∧ Z7 3 14 ≤ 4 := hG7.pr 3 14
        have eq16 : Z7 3 0 = Z 3 0 := (hf7 3 0 rfl)
        have b17 : 2 ≤ Z 3 0 ∧ Z 3 0 ≤ 4 := hG.pr 3 0
        have eq18 : Z7 3 1 = Z 3 1 := (hf7 3 1 rfl)
        have b19 : 0 ≤ Z 3 1 ∧ Z 3 1 ≤ 900 := hG.pr 3 1
        have eq20 : Z7 3 2 = Z 3 2 := (hf7 3 2 rfl)
        have eq21 : Z7 3 3 = Z 3 3 := (hf7 3 3 rfl)
        have eq22 : Z7 3 7 = Z 3 7 := (hf7 3 7 rfl)
        exact mx_J.ret (sn_54 36) (fun _ _ => rfl) (hP 0 Z7 h7 hx7 hG7 (fr_tr (M := [(3, 2), (3, 3), (3, 4), (3, 5), (3, 14), (3, 15)]) fr_rf (hf7) (M1 := []) rfl rfl) ⟨(RC_e br7 (gTk_3 g23 (by omega))), (fun q => absurd (gFt_1 (T := T) (N := N) (k := 3) (s := sg) (by decide)) (by rw [gTk_3 g23 (by omega)] at q; omega)), by omega⟩)
      refine Jicmp_lt (show mx_Sn _ _ 22 (mx_icmp_lt 30 25) from sn_54 22) (by omega) (by omega) (fun q23 => ?_) (fun q23 => ?_)
      · skip
        exact c30 (by omega)
      · skip
        refine mx_J.step (sn_54 25) (fun _ _ => rfl) ?_
        refine mx_J.step (sn_54 26) (fun _ _ => rfl) ?_
        refine Jicmp_le (show mx_Sn _ _ 27 (mx_icmp_le 37 30) from sn_54 27) (by omega) (by omega) (fun q24 => ?_) (fun q24 => ?_)
        · skip
          refine mx_J.step (sn_54 37) (fun _ _ => rfl) ?_
          have b26 : 2 ≤ Z 3 0 ∧ Z 3 0 ≤ 4 := hG.pr 3 0
          have b27 : 0 ≤ Z 3 1 ∧ Z 3 1 ≤ 900 := hG.pr 3 1
          have b28 : 0 ≤ Z 3 2 ∧ Z 3 2 ≤ 900 := hG.pr 3 2
          have b29 : 0 ≤ Z 3 3 ∧ Z 3 3 ≤ 900 := hG.pr 3 3
          have b30 : 0 ≤ Z 3 14 ∧ Z 3 14 ≤ 4 := hG.pr 3 14
          obtain ⟨Z25, h25, hc25, hx25, hG25, hf25, b25⟩ := ct_56_3r (T := T) (N := N) (sg := sg) (d := d + 0) (l := l) (D := D) (b0 := b0) (ad := ad) (Hb := Hb) (tau := tau) hx hG  (show Z 3 0 = 2 by omega) (show Z 3 2 ≤ Z 3 1 by omega) hr
          obtain ⟨br25, b25⟩ := b25
          have b31 : 0 ≤ Z25 3 2 ∧ Z25 3 2 ≤ 900 := hG25.pr 3 2
          have b32 : 0 ≤ Z25 3 3 ∧ Z25 3 3 ≤ 900 := hG25.pr 3 3
          have b33 : 0 ≤ Z25 3 4 ∧ Z25 3 4 ≤ 400 := hG25.pr 3 4
          refine Jcv0 hx (show mx_Sn _ _ 38 (mx_callv 56 1 7 41) from sn_54 38) a3 s3 hc25 rfl rfl rfl ?_
          refine mx_J.step (sn_54 41) (fun _ _ => rfl) ?_
          have eq34 : Z25 3 7 = Z 3 7 := (hf25 3 7 rfl)
          have b35 : 0 ≤ Z 3 7 ∧ Z 3 7 ≤ 900 := hG.pr 3 7
          have eq36 : Z25 3 14 = Z 3 14 := (hf25 3 14 rfl)
          have eq37 : Z25 3 0 = Z 3 0 := (hf25 3 0 rfl)
          have eq38 : Z25 3 1 = Z 3 1 := (hf25 3 1 rfl)
          have eq39 : Z25 3 7 = Z 3 7 := (hf25 3 7 rfl)
          have eq40 : Z25 3 14 = Z 3 14 := (hf25 3 14 rfl)
          exact mx_J.ret (sn_54 42) (fun _ _ => rfl) (hP (Z 3 5) Z25 h25 hx25 hG25 (fr_tr (M := [(3, 2), (3, 3), (3, 4), (3, 5), (3, 14), (3, 15)]) fr_rf (hf25) (M1 := []) rfl rfl) ⟨(RC_e br25 (gTk_y g23 (by omega))), (fun q => v23), by omega⟩)
        · skip
          exact c30 (by omega)
    · skip
      refine mx_J.step (sn_54 13) (fun _ _ => rfl) ?_
      refine JcI (z := 2) (show mx_Sn _ _ 14 (mx_const (.int 2) 15) from sn_54 14) rfl ?_
      obtain ⟨Z41, h41, hc41, hx41, hG41, hf41, b41⟩ := ct_55_3 (T := T) (N := N) (sg := sg) (d := d + 5) (l := l) (D := D) (b0 := b0) (ad := ad) (Hb := Hb) (tau := tau) hx hG (show 2 ≤ 2 ∧ 2 ≤ 4 by omega) hr
      obtain ⟨br41, b41⟩ := b41
      have b42 : 0 ≤ Z41 3 4 ∧ Z41 3 4 ≤ 400 := hG41.pr 3 4
      refine Jcv0 hx (show mx_Sn _ _ 15 (mx_callv 55 2 7 18) from sn_54 15) a3 s3 hc41 rfl rfl rfl ?_
      refine JcI (z := 0) (show mx_Sn _ _ 18 (mx_const (.int 0) 19) from sn_54 18) rfl ?_
      have eq43 : Z41 3 2 = Z 3 2 := (hf41 3 2 rfl)
      have b44 : 0 ≤ Z 3 2 ∧ Z 3 2 ≤ 900 := hG.pr 3 2
      have eq45 : Z41 3 3 = Z 3 3 := (hf41 3 3 rfl)
      have b46 : 0 ≤ Z 3 3 ∧ Z 3 3 ≤ 900 := hG.pr 3 3
      have eq47 : Z41 3 7 = Z 3 7 := (hf41 3 7 rfl)
      have b48 : 0 ≤ Z 3 7 ∧ Z 3 7 ≤ 900 := hG.pr 3 7
      have b49 : 0 ≤ Z41 3 14 ∧ Z41 3 14 ≤ 4 := hG41.pr 3 14
      have eq50 : Z41 3 0 = Z 3 0 := (hf41 3 0 rfl)
      have b51 : 2 ≤ Z 3 0 ∧ Z 3 0 ≤ 4 := hG.pr 3 0
      have eq52 : Z41 3 1 = Z 3 1 := (hf41 3 1 rfl)
      have b53 : 0 ≤ Z 3 1 ∧ Z 3 1 ≤ 900 := hG.pr 3 1
      have eq54 : Z41 3 2 = Z 3 2 := (hf41 3 2 rfl)
      have eq55 : Z41 3 3 = Z 3 3 := (hf41 3 3 rfl)
      have eq56 : Z41 3 7 = Z 3 7 := (hf41 3 7 rfl)
      exact mx_J.ret (sn_54 19) (fun _ _ => rfl) (hP 0 Z41 h41 hx41 hG41 (fr_tr (M := [(3, 2), (3, 3), (3, 4), (3, 5), (3, 14), (3, 15)]) fr_rf (hf41) (M1 := []) rfl rfl) ⟨(RC_e br41 (gTk_2 (RC_n (k := 23) (v := 1) hr (by unfold tKk; omega) rfl (by omega)))), (fun q => absurd (gFt_1 (T := T) (N := N) (k := 2) (s := sg) (by decide)) (by rw [gTk_2 (RC_n (k := 23) (v := 1) hr (by unfold tKk; omega) rfl (by omega))] at q; omega)), by omega⟩)
theorem ct_54_3 {l : Launch} {D : va_G} {b0 : Nat} {ad : Nat → Nat} {Hb : Heap} {tau : Nat → Int64} {d n s : Nat} {S : Nat → xS} {Z : xZ} {h : mx_H} {T : Int → Int} {N : Int} {sg : SS} (hx : XH n s S Z h) (hG : GI n S Z)  {x0 x1 : Int} (p0 : 0 ≤ x0 ∧ x0 ≤ 1) (p1 : 0 ≤ x1 ∧ x1 ≤ 999) (k0 : Z 3 0 = 2) (k1 : (Z 3 3 ≤ Z 3 2 ∧ Z 3 2 ≤ Z 3 1 ∧ (Z 3 4 = 0 ∨ Z 3 4 = 3 ∨ Z 3 3 < Z 3 2) ∧ (Z 3 4 = 3 ∨ Z 3 14 = 0))) (hr : RC T N Z sg) : ∃ (z : Int) (Z' : xZ) (h' : mx_H), mx_Ca (tB l D b0 ad Hb tau) (d + 7) 54 [.ref 3, xI x0, xI x1] h (some (xI z), h') ∧ XH n s S Z' h' ∧ GI n S Z' ∧ fr' [(3, 2), (3, 3), (3, 4), (3, 5), (3, 14), (3, 15)] Z Z' ∧ (RC T N Z' (gTk T N x0 x1 sg) ∧ (0 ≤ (gTk T N x0 x1 sg).1 → z = tVl T N sg.1) ∧ 0 ≤ z ∧ z ≤ 999 ∧ ((Z' 3 3 ≤ Z' 3 2 ∧ Z' 3 2 ≤ Z 3 1 ∧ (Z' 3 4 = 0 ∨ Z' 3 4 = 3 ∨ Z' 3 3 < Z' 3 2) ∧ (Z' 3 4 = 3 ∨ Z' 3 14 = 0)) ∧ Z 3 3 ≤ Z' 3 3 ∧ (Z' 3 4 = 3 ∨ Z 3 3 + 1 ≤ Z' 3 3) ∧ (Z 3 4 = 3 → Z' 3 4 = 3) ∧ (z = 0 ∨ (x0 ≤ z ∧ z ≤ x1)) ∧ (x0 = 1 → z = 0 → Z' 3 4 = 3) ∧ (Z 3 4 = 1 → x0 = 0 → x1 = 999 → Z 3 3 + 1 ≤ Z' 3 3))) := by
  obtain ⟨r, hca, z, Z', h', e, q⟩ := Jmt (B := tB l D b0 ad Hb tau) (M := mt_54) (mi := 54) (as := [.ref 3, xI x0, xI x1]) (d := d + 6) (ls := [some (.ref 3), some (xI x0), some (xI x1), none]) rfl rfl rfl rfl rfl rfl (cw_54_3 (l := l) (D := D) (b0 := b0) (ad := ad) (Hb := Hb) (tau := tau) (d := d) (Post := fun r => ∃ (z : Int) (Z' : xZ) (h' : mx_H), r = (some (xI z), h') ∧ XH n s S Z' h' ∧ GI n S Z' ∧ fr' [(3, 2), (3, 3), (3, 4), (3, 5), (3, 14), (3, 15)] Z Z' ∧ (RC T N Z' (gTk T N x0 x1 sg) ∧ (0 ≤ (gTk T N x0 x1 sg).1 → z = tVl T N sg.1) ∧ 0 ≤ z ∧ z ≤ 999 ∧ ((Z' 3 3 ≤ Z' 3 2 ∧ Z' 3 2 ≤ Z 3 1 ∧ (Z' 3 4 = 0 ∨ Z' 3 4 = 3 ∨ Z' 3 3 < Z' 3 2) ∧ (Z' 3 4 = 3 ∨ Z' 3 14 = 0)) ∧ Z 3 3 ≤ Z' 3 3 ∧ (Z' 3 4 = 3 ∨ Z 3 3 + 1 ≤ Z' 3 3) ∧ (Z 3 4 = 3 → Z' 3 4 = 3) ∧ (z = 0 ∨ (x0 ≤ z ∧ z ≤ x1)) ∧ (x0 = 1 → z = 0 → Z' 3 4 = 3) ∧ (Z 3 4 = 1 → x0 = 0 → x1 = 999 → Z 3 3 + 1 ≤ Z' 3 3)))) hx hG p0 p1 k0 k1 hr (fun z Z' h' q1 q2 q3 q4 => ⟨z, Z', h', rfl, q1, q2, q3, q4⟩))
  subst e; exact ⟨z, Z', h', hca, q⟩
set_option maxRecDepth 100000 in
theorem cw_52_3_0 {l : Launch} {D : va_G} {b0 : Nat} {ad : Nat → Nat} {Hb : Heap} {tau : Nat → Int64} {d n s : Nat} {S : Nat → xS} {Z : xZ} {h : mx_H} {Post : mx_R → Prop} {T : Int → Int} {N : Int} {sg : SS} (hx : XH n s S Z h) (hG : GI n S Z)  {x0 : Int} (p0 : 0 ≤ x0 ∧ x0 ≤ 1004) (k0 : (Z 3 4 = 3 ∨ Z 3 7 ≤ 899)) (hr : RC T N Z sg) (hP : ∀ (Z' : xZ) (h' : mx_H), XH n s S Z' h' → GI n S Z' → fr' [(3, 7), (5, (-1))] Z Z' → RC T N Z' (gEm x0 sg) ∧ (Z 3 7 ≤ Z' 3 7 ∧ Z' 3 7 ≤ Z 3 7 + 1) → Post (none, h')) : mx_J (tB l D b0 ad Hb tau) mt_52 (d + 0) 0 [some (.ref 3), some (xI x0)] [] h Post := by
    have a3 : 3 < n := lt83 (GI_n hG) rfl
    have s3 : S 3 = .inl (7, [2, 0, 0, 0, 0, 0, 2, 0, 2, 2, 0, 2, 0, 0, 0, 0]) := GI_s hG 3 rfl
    have a5 : 5 < n := lt83 (GI_n hG) rfl
    have s5 : S 5 = .inr (.int, 900, 0) := GI_s hG 5 rfl
    refine mx_J.step (sn_52 0) (fun _ _ => rfl) ?_
    have b2 : 0 ≤ Z 3 7 ∧ Z 3 7 ≤ 900 := hG.pr 3 7
    refine JgetI (g := 7) (z := Z 3 7) hx (show mx_Sn _ _ 1 (mx_getf 7 7 4) from sn_52 1) a3 s3 rfl rfl rfl ?_
    refine mx_J.step (sn_52 4) (fun _ _ => rfl) ?_
    refine JgetR (g := 6) (b := 5) hx (show mx_Sn _ _ 5 (mx_getf 7 6 8) from sn_52 5) a3 s3 rfl rfl (hG.prr 3 6 rfl) ?_
    refine JalenI (z := 900) hx (show mx_Sn _ _ 8 (mx_alen 9) from sn_52 8) a5 s5 (by decide) rfl ?_
    have c32 : ∀  (Z5 : xZ) (h5 : mx_H), (Z 3 7 ≤ Z5 3 7 ∧ Z5 3 7 ≤ Z 3 7 + 1) → RC T N Z5 (gEm x0 sg) → XH n s S Z5 h5 → GI n S Z5 → fr' [(3, 7), (5, (-1))] Z Z5 → mx_J (tB l D b0 ad Hb tau) mt_52 (d + 0) 32 [some (.ref 3), some (xI x0)] [] h5 Post := by
      intro Z5 h5 f4_0 f4_1 hx5 hG5 hf5
      have b6 : 0 ≤ Z5 3 7 ∧ Z5 3 7 ≤ 900 := hG5.pr 3 7
      have eq7 : Z5 3 4 = Z 3 4 := (hf5 3 4 rfl)
      have b8 : 0 ≤ Z 3 4 ∧ Z 3 4 ≤ 400 := hG.pr 3 4
      exact mx_J.ret (sn_52 32) (fun _ _ => rfl) (hP Z5 h5 hx5 hG5 (fr_tr (M := [(3, 7), (5, (-1))]) fr_rf (hf5) (M1 := []) rfl rfl) ⟨f4_1, by omega⟩)
    refine Jicmp_ge (show mx_Sn _ _ 9 (mx_icmp_ge 32 12) from sn_52 9) (by omega) (by omega) (fun q9 => ?_) (fun q9 => ?_)
    · skip
      exact c32 Z h (by omega) (RC_e hr (RC_emx hr (by omega))) hx hG fr_rf
    · skip
      refine mx_J.step (sn_52 12) (fun _ _ => rfl) ?_
      refine JgetR (g := 6) (b := 5) hx (show mx_Sn _ _ 13 (mx_getf 7 6 16) from sn_52 13) a3 s3 rfl rfl (hG.prr 3 6 rfl) ?_
      refine mx_J.step (sn_52 16) (fun _ _ => rfl) ?_
      refine JgetI (g := 7) (z := Z 3 7) hx (show mx_Sn _ _ 17 (mx_getf 7 7 20) from sn_52 17) a3 s3 rfl rfl rfl ?_
      refine mx_J.step (sn_52 20) (fun _ _ => rfl) ?_
      refine JiastI hx (show mx_Sn _ _ 21 (mx_iast 1 22) from sn_52 21) a5 s5 rfl (by omega) (fun Z12 h12 hx12 hE12 => ?_)
      have hG12 := GI_up hG hE12 (show 0 ≤ x0 ∧ x0 ≤ 1019 by omega) (show (x0 ≤ 1004 ∨ 1010 ≤ x0) by first | omega | (unfold f57 at *; omega)) rfl
      refine mx_J.step (sn_52 22) (fun _ _ => rfl) ?_
      refine mx_J.step (sn_52 23) (fun _ _ => rfl) ?_
      refine JgetI (g := 7) (z := Z 3 7) hx12 (show mx_Sn _ _ 24 (mx_getf 7 7 27) from sn_52 24) a3 s3 rfl rfl (up_nk hE12 rfl) ?_
      refine JcI (z := 1) (show mx_Sn _ _ 27 (mx_const (.int 1) 28) from sn_52 27) rfl ?_
      refine Jiadd (show mx_Sn _ _ 28 (mx_iadd 29) from sn_52 28) ?_
      refine JputI (g := 7) hx12 (show mx_Sn _ _ 29 (mx_putf 1 7 7 (.int) 32) from sn_52 29) a3 s3 rfl rfl rfl rfl (fun Z14 h14 hx14 hE14 => ?_)
      have hG14 := GI_up hG12 hE14 (show 0 ≤ (Z 3 7) + 1 ∧ (Z 3 7) + 1 ≤ 900 by omega) trivial rfl
      have rc15 : RC T N Z14 (gEm x0 sg) := RC_em hr ⟨((up_ni hE14 (by decide)).trans (up_nk hE12 rfl)), ((up_ni hE14 (by decide)).trans (up_nk hE12 rfl)), ((up_ni hE14 (by decide)).trans (up_nk hE12 rfl)), ((up_ni hE14 (by decide)).trans (up_nk hE12 rfl)), ((up_ni hE14 (by decide)).trans (up_nk hE12 rfl)), ((up_ni hE14 (by decide)).trans (up_nk hE12 rfl)), ((up_ni hE14 (by decide)).trans (up_nk hE12 rfl)), fun i => ((up_nk hE14 rfl).trans (up_nk hE12 rfl))⟩ (up_at hE14) ((up_nk hE14 rfl).trans (up_at hE12)) (fun i hi => (up_nk hE14 rfl).trans (up_ni hE12 hi))
      have eq16 : Z14 3 7 = (Z 3 7) + 1 := (up_at hE14)
      exact c32 Z14 h14 (by omega) rc15 hx14 hG14 (fr_tr (M := [(3, 7), (5, (-1))]) (fr_tr (M := [(3, 7), (5, (-1))]) fr_rf (fr_ua hE12) (M1 := []) rfl rfl) (fr_up hE14) rfl rfl)
theorem ct_52_3_0 {l : Launch} {D : va_G} {b0 : Nat} {ad : Nat → Nat} {Hb : Heap} {tau : Nat → Int64} {d n s : Nat} {S : Nat → xS} {Z : xZ} {h : mx_H} {T : Int → Int} {N : Int} {sg : SS} (hx : XH n s S Z h) (hG : GI n S Z)  {x0 : Int} (p0 : 0 ≤ x0 ∧ x0 ≤ 1004) (k0 : (Z 3 4 = 3 ∨ Z 3 7 ≤ 899)) (hr : RC T N Z sg) : ∃ (Z' : xZ) (h' : mx_H), mx_Ca (tB l D b0 ad Hb tau) (d + 1) 52 [.ref 3, xI x0] h (none, h') ∧ XH n s S Z' h' ∧ GI n S Z' ∧ fr' [(3, 7), (5, (-1))] Z Z' ∧ (RC T N Z' (gEm x0 sg) ∧ (Z 3 7 ≤ Z' 3 7 ∧ Z' 3 7 ≤ Z 3 7 + 1)) := by
  obtain ⟨r, hca, Z', h', e, q⟩ := Jmt (B := tB l D b0 ad Hb tau) (M := mt_52) (mi := 52) (as := [.ref 3, xI x0]) (d := d + 0) (ls := [some (.ref 3), some (xI x0)]) rfl rfl rfl rfl rfl rfl (cw_52_3_0 (l := l) (D := D) (b0 := b0) (ad := ad) (Hb := Hb) (tau := tau) (d := d) (Post := fun r => ∃ (Z' : xZ) (h' : mx_H), r = (none, h') ∧ XH n s S Z' h' ∧ GI n S Z' ∧ fr' [(3, 7), (5, (-1))] Z Z' ∧ (RC T N Z' (gEm x0 sg) ∧ (Z 3 7 ≤ Z' 3 7 ∧ Z' 3 7 ≤ Z 3 7 + 1))) hx hG p0 k0 hr (fun Z' h' q1 q2 q3 q4 => ⟨Z', h', rfl, q1, q2, q3, q4⟩))
  subst e; exact ⟨Z', h', hca, q⟩
set_option maxRecDepth 100000 in
theorem cw_52_3_1010 {l : Launch} {D : va_G} {b0 : Nat} {ad : Nat → Nat} {Hb : Heap} {tau : Nat → Int64} {d n s : Nat} {S : Nat → xS} {Z : xZ} {h : mx_H} {Post : mx_R → Prop} {T : Int → Int} {N : Int} {sg : SS} (hx : XH n s S Z h) (hG : GI n S Z)  {x0 : Int} (p0 : 1010 ≤ x0 ∧ x0 ≤ 1019) (k0 : (Z 3 4 = 3 ∨ Z 3 7 ≤ 899)) (hr : RC T N Z sg) (hP : ∀ (Z' : xZ) (h' : mx_H), XH n s S Z' h' → GI n S Z' → fr' [(3, 7), (5, (-1))] Z Z' → RC T N Z' (gEm x0 sg) ∧ (Z 3 7 ≤ Z' 3 7 ∧ Z' 3 7 ≤ Z 3 7 + 1) → Post (none, h')) : mx_J (tB l D b0 ad Hb tau) mt_52 (d + 0) 0 [some (.ref 3), some (xI x0)] [] h Post := by
    have a3 : 3 < n := lt83 (GI_n hG) rfl
    have s3 : S 3 = .inl (7, [2, 0, 0, 0, 0, 0, 2, 0, 2, 2, 0, 2, 0, 0, 0, 0]) := GI_s hG 3 rfl
    have a5 : 5 < n := lt83 (GI_n hG) rfl
    have s5 : S 5 = .inr (.int, 900, 0) := GI_s hG 5 rfl
    refine mx_J.step (sn_52 0) (fun _ _ => rfl) ?_
    have b2 : 0 ≤ Z 3 7 ∧ Z 3 7 ≤ 900 := hG.pr 3 7
    refine JgetI (g := 7) (z := Z 3 7) hx (show mx_Sn _ _ 1 (mx_getf 7 7 4) from sn_52 1) a3 s3 rfl rfl rfl ?_
    refine mx_J.step (sn_52 4) (fun _ _ => rfl) ?_
    refine JgetR (g := 6) (b := 5) hx (show mx_Sn _ _ 5 (mx_getf 7 6 8) from sn_52 5) a3 s3 rfl rfl (hG.prr 3 6 rfl) ?_
    refine JalenI (z := 900) hx (show mx_Sn _ _ 8 (mx_alen 9) from sn_52 8) a5 s5 (by decide) rfl ?_
    have c32 : ∀  (Z5 : xZ) (h5 : mx_H), (Z 3 7 ≤ Z5 3 7 ∧ Z5 3 7 ≤ Z 3 7 + 1) → RC T N Z5 (gEm x0 sg) → XH n s S Z5 h5 → GI n S Z5 → fr' [(3, 7), (5, (-1))] Z Z5 → mx_J (tB l D b0 ad Hb tau) mt_52 (d + 0) 32 [some (.ref 3), some (xI x0)] [] h5 Post := by
      intro Z5 h5 f4_0 f4_1 hx5 hG5 hf5
      have b6 : 0 ≤ Z5 3 7 ∧ Z5 3 7 ≤ 900 := hG5.pr 3 7
      have eq7 : Z5 3 4 = Z 3 4 := (hf5 3 4 rfl)
      have b8 : 0 ≤ Z 3 4 ∧ Z 3 4 ≤ 400 := hG.pr 3 4
      exact mx_J.ret (sn_52 32) (fun _ _ => rfl) (hP Z5 h5 hx5 hG5 (fr_tr (M := [(3, 7), (5, (-1))]) fr_rf (hf5) (M1 := []) rfl rfl) ⟨f4_1, by omega⟩)
    refine Jicmp_ge (show mx_Sn _ _ 9 (mx_icmp_ge 32 12) from sn_52 9) (by omega) (by omega) (fun q9 => ?_) (fun q9 => ?_)
    · skip
      exact c32 Z h (by omega) (RC_e hr (RC_emx hr (by omega))) hx hG fr_rf
    · skip
      refine mx_J.step (sn_52 12) (fun _ _ => rfl) ?_
      refine JgetR (g := 6) (b := 5) hx (show mx_Sn _ _ 13 (mx_getf 7 6 16) from sn_52 13) a3 s3 rfl rfl (hG.prr 3 6 rfl) ?_
      refine mx_J.step (sn_52 16) (fun _ _ => rfl) ?_
      refine JgetI (g := 7) (z := Z 3 7) hx (show mx_Sn _ _ 17 (mx_getf 7 7 20) from sn_52 17) a3 s3 rfl rfl rfl ?_
      refine mx_J.step (sn_52 20) (fun _ _ => rfl) ?_
      refine JiastI hx (show mx_Sn _ _ 21 (mx_iast 1 22) from sn_52 21) a5 s5 rfl (by omega) (fun Z12 h12 hx12 hE12 => ?_)
      have hG12 := GI_up hG hE12 (show 0 ≤ x0 ∧ x0 ≤ 1019 by omega) (show (x0 ≤ 1004 ∨ 1010 ≤ x0) by first | omega | (unfold f57 at *; omega)) rfl
      refine mx_J.step (sn_52 22) (fun _ _ => rfl) ?_
      refine mx_J.step (sn_52 23) (fun _ _ => rfl) ?_
      refine JgetI (g := 7) (z := Z 3 7) hx12 (show mx_Sn _ _ 24 (mx_getf 7 7 27) from sn_52 24) a3 s3 rfl rfl (up_nk hE12 rfl) ?_
      refine JcI (z := 1) (show mx_Sn _ _ 27 (mx_const (.int 1) 28) from sn_52 27) rfl ?_
      refine Jiadd (show mx_Sn _ _ 28 (mx_iadd 29) from sn_52 28) ?_
      refine JputI (g := 7) hx12 (show mx_Sn _ _ 29 (mx_putf 1 7 7 (.int) 32) from sn_52 29) a3 s3 rfl rfl rfl rfl (fun Z14 h14 hx14 hE14 => ?_)
      have hG14 := GI_up hG12 hE14 (show 0 ≤ (Z 3 7) + 1 ∧ (Z 3 7) + 1 ≤ 900 by omega) trivial rfl
      have rc15 : RC T N Z14 (gEm x0 sg) := RC_em hr ⟨((up_ni hE14 (by decide)).trans (up_nk hE12 rfl)), ((up_ni hE14 (by decide)).trans (up_nk hE12 rfl)), ((up_ni hE14 (by decide)).trans (up_nk hE12 rfl)), ((up_ni hE14 (by decide)).trans (up_nk hE12 rfl)), ((up_ni hE14 (by decide)).trans (up_nk hE12 rfl)), ((up_ni hE14 (by decide)).trans (up_nk hE12 rfl)), ((up_ni hE14 (by decide)).trans (up_nk hE12 rfl)), fun i => ((up_nk hE14 rfl).trans (up_nk hE12 rfl))⟩ (up_at hE14) ((up_nk hE14 rfl).trans (up_at hE12)) (fun i hi => (up_nk hE14 rfl).trans (up_ni hE12 hi))
      have eq16 : Z14 3 7 = (Z 3 7) + 1 := (up_at hE14)
      exact c32 Z14 h14 (by omega) rc15 hx14 hG14 (fr_tr (M := [(3, 7), (5, (-1))]) (fr_tr (M := [(3, 7), (5, (-1))]) fr_rf (fr_ua hE12) (M1 := []) rfl rfl) (fr_up hE14) rfl rfl)
theorem ct_52_3_1010 {l : Launch} {D : va_G} {b0 : Nat} {ad : Nat → Nat} {Hb : Heap} {tau : Nat → Int64} {d n s : Nat} {S : Nat → xS} {Z : xZ} {h : mx_H} {T : Int → Int} {N : Int} {sg : SS} (hx : XH n s S Z h) (hG : GI n S Z)  {x0 : Int} (p0 : 1010 ≤ x0 ∧ x0 ≤ 1019) (k0 : (Z 3 4 = 3 ∨ Z 3 7 ≤ 899)) (hr : RC T N Z sg) : ∃ (Z' : xZ) (h' : mx_H), mx_Ca (tB l D b0 ad Hb tau) (d + 1) 52 [.ref 3, xI x0] h (none, h') ∧ XH n s S Z' h' ∧ GI n S Z' ∧ fr' [(3, 7), (5, (-1))] Z Z' ∧ (RC T N Z' (gEm x0 sg) ∧ (Z 3 7 ≤ Z' 3 7 ∧ Z' 3 7 ≤ Z 3 7 + 1)) := by
  obtain ⟨r, hca, Z', h', e, q⟩ := Jmt (B := tB l D b0 ad Hb tau) (M := mt_52) (mi := 52) (as := [.ref 3, xI x0]) (d := d + 0) (ls := [some (.ref 3), some (xI x0)]) rfl rfl rfl rfl rfl rfl (cw_52_3_1010 (l := l) (D := D) (b0 := b0) (ad := ad) (Hb := Hb) (tau := tau) (d := d) (Post := fun r => ∃ (Z' : xZ) (h' : mx_H), r = (none, h') ∧ XH n s S Z' h' ∧ GI n S Z' ∧ fr' [(3, 7), (5, (-1))] Z Z' ∧ (RC T N Z' (gEm x0 sg) ∧ (Z 3 7 ≤ Z' 3 7 ∧ Z' 3 7 ≤ Z 3 7 + 1))) hx hG p0 k0 hr (fun Z' h' q1 q2 q3 q4 => ⟨Z', h', rfl, q1, q2, q3, q4⟩))
  subst e; exact ⟨Z', h', hca, q⟩
set_option maxRecDepth 100000 in
theorem cw_51_3 {l : Launch} {D : va_G} {b0 : Nat} {ad : Nat → Nat} {Hb : Heap} {tau : Nat → Int64} {d n s : Nat} {S : Nat → xS} {Z : xZ} {h : mx_H} {Post : mx_R → Prop} {T : Int → Int} {N : Int} {sg : SS} (hx : XH n s S Z h) (hG : GI n S Z)  {x0 : Int} (p0 : 0 ≤ x0 ∧ x0 ≤ 6) (k0 : Z 3 0 = 2) (k1 : (Z 3 3 ≤ Z 3 2 ∧ Z 3 2 ≤ Z 3 1 ∧ (Z 3 4 = 0 ∨ Z 3 4 = 3 ∨ Z 3 3 < Z 3 2) ∧ (Z 3 4 = 3 ∨ Z 3 14 = 0))) (k2 : ¬ Z 3 4 = 0) (k3 : ¬ Z 3 4 = 3) (hr : RC T N Z sg) (hP : ∀ (z : Int) (Z' : xZ) (h' : mx_H), XH n s S Z' h' → GI n S Z' → fr' [(3, 2), (3, 3), (3, 4), (3, 5), (3, 14), (3, 15)] Z Z' → RC T N Z' (gEn T N x0 sg) ∧ 0 ≤ z ∧ z ≤ 1 ∧ ((Z' 3 3 ≤ Z' 3 2 ∧ Z' 3 2 ≤ Z 3 1 ∧ (Z' 3 4 = 0 ∨ Z' 3 4 = 3 ∨ Z' 3 3 < Z' 3 2) ∧ (Z' 3 4 = 3 ∨ Z' 3 14 = 0)) ∧ Z 3 3 ≤ Z' 3 3 ∧ ((z = 0 ∧ x0 = 6 ∧ Z' 3 4 = 3) ∨ (z = 1 ∧ x0 ≤ 5 ∧ Z 3 3 + 1 ≤ Z' 3 3))) → Post (some (xI z), h')) : mx_J (tB l D b0 ad Hb tau) mt_51 (d + 6) 0 [some (.ref 3), some (xI x0)] [] h Post := by
    have a3 : 3 < n := lt83 (GI_n hG) rfl
    have s3 : S 3 = .inl (7, [2, 0, 0, 0, 0, 0, 2, 0, 2, 2, 0, 2, 0, 0, 0, 0]) := GI_s hG 3 rfl
    refine mx_J.step (sn_51 0) (fun _ _ => rfl) ?_
    refine JcI (z := 6) (show mx_Sn _ _ 1 (mx_const (.int 6) 3) from sn_51 1) rfl ?_
    refine Jicmp_lt (show mx_Sn _ _ 3 (mx_icmp_lt 13 6) from sn_51 3) (by omega) (by omega) (fun q1 => ?_) (fun q1 => ?_)
    · skip
      refine mx_J.step (sn_51 13) (fun _ _ => rfl) ?_
      have b3 : 2 ≤ Z 3 0 ∧ Z 3 0 ≤ 4 := hG.pr 3 0
      have b4 : 0 ≤ Z 3 1 ∧ Z 3 1 ≤ 900 := hG.pr 3 1
      have b5 : 0 ≤ Z 3 2 ∧ Z 3 2 ≤ 900 := hG.pr 3 2
      have b6 : 0 ≤ Z 3 3 ∧ Z 3 3 ≤ 900 := hG.pr 3 3
      have b7 : 0 ≤ Z 3 4 ∧ Z 3 4 ≤ 400 := hG.pr 3 4
      have b8 : 0 ≤ Z 3 14 ∧ Z 3 14 ≤ 4 := hG.pr 3 14
      obtain ⟨Z2, h2, hc2, hx2, hG2, hf2, b2⟩ := ct_56_3r (T := T) (N := N) (sg := sg) (d := d + 0) (l := l) (D := D) (b0 := b0) (ad := ad) (Hb := Hb) (tau := tau) hx hG  (show Z 3 0 = 2 by omega) (show Z 3 2 ≤ Z 3 1 by omega) hr
      obtain ⟨br2, b2⟩ := b2
      have b9 : 0 ≤ Z2 3 2 ∧ Z2 3 2 ≤ 900 := hG2.pr 3 2
      have b10 : 0 ≤ Z2 3 3 ∧ Z2 3 3 ≤ 900 := hG2.pr 3 3
      have b11 : 0 ≤ Z2 3 4 ∧ Z2 3 4 ≤ 400 := hG2.pr 3 4
      refine Jcv0 hx (show mx_Sn _ _ 14 (mx_callv 56 1 7 17) from sn_51 14) a3 s3 hc2 rfl rfl rfl ?_
      refine JcI (z := 1) (show mx_Sn _ _ 17 (mx_const (.int 1) 18) from sn_51 17) rfl ?_
      have eq12 : Z2 3 7 = Z 3 7 := (hf2 3 7 rfl)
      have b13 : 0 ≤ Z 3 7 ∧ Z 3 7 ≤ 900 := hG.pr 3 7
      have eq14 : Z2 3 14 = Z 3 14 := (hf2 3 14 rfl)
      have eq15 : Z2 3 0 = Z 3 0 := (hf2 3 0 rfl)
      have eq16 : Z2 3 1 = Z 3 1 := (hf2 3 1 rfl)
      have eq17 : Z2 3 7 = Z 3 7 := (hf2 3 7 rfl)
      have eq18 : Z2 3 14 = Z 3 14 := (hf2 3 14 rfl)
      exact mx_J.ret (show mx_Sn _ _ 18 (mx_zret) from sn_51 18) (fun _ _ => zr_ok (by omega)) (hP 1 Z2 h2 hx2 hG2 (fr_tr (M := [(3, 2), (3, 3), (3, 4), (3, 5), (3, 14), (3, 15)]) fr_rf (hf2) (M1 := []) rfl rfl) ⟨(RC_e br2 (gEn_y (by omega))), by omega⟩)
    · skip
      refine mx_J.step (sn_51 6) (fun _ _ => rfl) ?_
      refine JcI (z := 4) (show mx_Sn _ _ 7 (mx_const (.int 4) 8) from sn_51 7) rfl ?_
      have b20 : 0 ≤ Z 3 4 ∧ Z 3 4 ≤ 400 := hG.pr 3 4
      obtain ⟨Z19, h19, hc19, hx19, hG19, hf19, b19⟩ := ct_55_3 (T := T) (N := N) (sg := sg) (d := d + 5) (l := l) (D := D) (b0 := b0) (ad := ad) (Hb := Hb) (tau := tau) hx hG (show 2 ≤ 4 ∧ 4 ≤ 4 by omega) hr
      obtain ⟨br19, b19⟩ := b19
      have b21 : 0 ≤ Z19 3 4 ∧ Z19 3 4 ≤ 400 := hG19.pr 3 4
      refine Jcv0 hx (show mx_Sn _ _ 8 (mx_callv 55 2 7 11) from sn_51 8) a3 s3 hc19 rfl rfl rfl ?_
      refine JcI (z := 0) (show mx_Sn _ _ 11 (mx_const (.int 0) 12) from sn_51 11) rfl ?_
      have eq22 : Z19 3 2 = Z 3 2 := (hf19 3 2 rfl)
      have b23 : 0 ≤ Z 3 2 ∧ Z 3 2 ≤ 900 := hG.pr 3 2
      have eq24 : Z19 3 3 = Z 3 3 := (hf19 3 3 rfl)
      have b25 : 0 ≤ Z 3 3 ∧ Z 3 3 ≤ 900 := hG.pr 3 3
      have eq26 : Z19 3 7 = Z 3 7 := (hf19 3 7 rfl)
      have b27 : 0 ≤ Z 3 7 ∧ Z 3 7 ≤ 900 := hG.pr 3 7
      have b28 : 0 ≤ Z19 3 14 ∧ Z19 3 14 ≤ 4 := hG19.pr 3 14
      have eq29 : Z19 3 0 = Z 3 0 := (hf19 3 0 rfl)
      have b30 : 2 ≤ Z 3 0 ∧ Z 3 0 ≤ 4 := hG.pr 3 0
      have eq31 : Z19 3 1 = Z 3 1 := (hf19 3 1 rfl)
      have b32 : 0 ≤ Z 3 1 ∧ Z 3 1 ≤ 900 := hG.pr 3 1
      have eq33 : Z19 3 2 = Z 3 2 := (hf19 3 2 rfl)
      have eq34 : Z19 3 3 = Z 3 3 := (hf19 3 3 rfl)
      have eq35 : Z19 3 7 = Z 3 7 := (hf19 3 7 rfl)
      exact mx_J.ret (show mx_Sn _ _ 12 (mx_zret) from sn_51 12) (fun _ _ => zr_ok (by omega)) (hP 0 Z19 h19 hx19 hG19 (fr_tr (M := [(3, 2), (3, 3), (3, 4), (3, 5), (3, 14), (3, 15)]) fr_rf (hf19) (M1 := []) rfl rfl) ⟨(RC_e br19 (gEn_n (by omega))), by omega⟩)
theorem ct_51_3 {l : Launch} {D : va_G} {b0 : Nat} {ad : Nat → Nat} {Hb : Heap} {tau : Nat → Int64} {d n s : Nat} {S : Nat → xS} {Z : xZ} {h : mx_H} {T : Int → Int} {N : Int} {sg : SS} (hx : XH n s S Z h) (hG : GI n S Z)  {x0 : Int} (p0 : 0 ≤ x0 ∧ x0 ≤ 6) (k0 : Z 3 0 = 2) (k1 : (Z 3 3 ≤ Z 3 2 ∧ Z 3 2 ≤ Z 3 1 ∧ (Z 3 4 = 0 ∨ Z 3 4 = 3 ∨ Z 3 3 < Z 3 2) ∧ (Z 3 4 = 3 ∨ Z 3 14 = 0))) (k2 : ¬ Z 3 4 = 0) (k3 : ¬ Z 3 4 = 3) (hr : RC T N Z sg) : ∃ (z : Int) (Z' : xZ) (h' : mx_H), mx_Ca (tB l D b0 ad Hb tau) (d + 7) 51 [.ref 3, xI x0] h (some (xI z), h') ∧ XH n s S Z' h' ∧ GI n S Z' ∧ fr' [(3, 2), (3, 3), (3, 4), (3, 5), (3, 14), (3, 15)] Z Z' ∧ (RC T N Z' (gEn T N x0 sg) ∧ 0 ≤ z ∧ z ≤ 1 ∧ ((Z' 3 3 ≤ Z' 3 2 ∧ Z' 3 2 ≤ Z 3 1 ∧ (Z' 3 4 = 0 ∨ Z' 3 4 = 3 ∨ Z' 3 3 < Z' 3 2) ∧ (Z' 3 4 = 3 ∨ Z' 3 14 = 0)) ∧ Z 3 3 ≤ Z' 3 3 ∧ ((z = 0 ∧ x0 = 6 ∧ Z' 3 4 = 3) ∨ (z = 1 ∧ x0 ≤ 5 ∧ Z 3 3 + 1 ≤ Z' 3 3)))) := by
  obtain ⟨r, hca, z, Z', h', e, q⟩ := Jmt (B := tB l D b0 ad Hb tau) (M := mt_51) (mi := 51) (as := [.ref 3, xI x0]) (d := d + 6) (ls := [some (.ref 3), some (xI x0)]) rfl rfl rfl rfl rfl rfl (cw_51_3 (l := l) (D := D) (b0 := b0) (ad := ad) (Hb := Hb) (tau := tau) (d := d) (Post := fun r => ∃ (z : Int) (Z' : xZ) (h' : mx_H), r = (some (xI z), h') ∧ XH n s S Z' h' ∧ GI n S Z' ∧ fr' [(3, 2), (3, 3), (3, 4), (3, 5), (3, 14), (3, 15)] Z Z' ∧ (RC T N Z' (gEn T N x0 sg) ∧ 0 ≤ z ∧ z ≤ 1 ∧ ((Z' 3 3 ≤ Z' 3 2 ∧ Z' 3 2 ≤ Z 3 1 ∧ (Z' 3 4 = 0 ∨ Z' 3 4 = 3 ∨ Z' 3 3 < Z' 3 2) ∧ (Z' 3 4 = 3 ∨ Z' 3 14 = 0)) ∧ Z 3 3 ≤ Z' 3 3 ∧ ((z = 0 ∧ x0 = 6 ∧ Z' 3 4 = 3) ∨ (z = 1 ∧ x0 ≤ 5 ∧ Z 3 3 + 1 ≤ Z' 3 3))))) hx hG p0 k0 k1 k2 k3 hr (fun z Z' h' q1 q2 q3 q4 => ⟨z, Z', h', rfl, q1, q2, q3, q4⟩))
  subst e; exact ⟨z, Z', h', hca, q⟩
set_option maxRecDepth 100000 in
theorem cw_45_3 {l : Launch} {D : va_G} {b0 : Nat} {ad : Nat → Nat} {Hb : Heap} {tau : Nat → Int64} {d n s : Nat} {S : Nat → xS} {Z : xZ} {h : mx_H} {Post : mx_R → Prop} {T : Int → Int} {N : Int} {sg : SS} (hx : XH n s S Z h) (hG : GI n S Z)  {x0 : Int} (p0 : 1000 ≤ x0 ∧ x0 ≤ 1004) (k0 : Z 3 0 = 2) (k1 : (Z 3 3 ≤ Z 3 2 ∧ Z 3 2 ≤ Z 3 1 ∧ (Z 3 4 = 0 ∨ Z 3 4 = 3 ∨ Z 3 3 < Z 3 2) ∧ (Z 3 4 = 3 ∨ Z 3 14 = 0))) (k2 : ¬ Z 3 4 = 0) (k3 : ¬ Z 3 4 = 3) (k4 : Z 3 7 ≤ Z 3 3) (hr : RC T N Z sg) (hP : ∀ (Z' : xZ) (h' : mx_H), XH n s S Z' h' → GI n S Z' → fr' [(3, 2), (3, 3), (3, 4), (3, 5), (3, 7), (5, (-1))] Z Z' → RC T N Z' (gAd T N (gEm x0 sg)) ∧ ((Z' 3 3 ≤ Z' 3 2 ∧ Z' 3 2 ≤ Z 3 1 ∧ (Z' 3 4 = 0 ∨ Z' 3 4 = 3 ∨ Z' 3 3 < Z' 3 2) ∧ (Z' 3 4 = 3 ∨ Z' 3 14 = 0)) ∧ Z 3 3 + 1 ≤ Z' 3 3 ∧ Z' 3 7 - Z 3 7 ≤ Z' 3 3 - Z 3 3) → Post (none, h')) : mx_J (tB l D b0 ad Hb tau) mt_45 (d + 6) 0 [some (.ref 3), some (xI x0)] [] h Post := by
    have a3 : 3 < n := lt83 (GI_n hG) rfl
    have s3 : S 3 = .inl (7, [2, 0, 0, 0, 0, 0, 2, 0, 2, 2, 0, 2, 0, 0, 0, 0]) := GI_s hG 3 rfl
    have b1 : 0 ≤ Z 3 1 ∧ Z 3 1 ≤ 900 := hG.pr 3 1
    have b2 : 0 ≤ Z 3 2 ∧ Z 3 2 ≤ 900 := hG.pr 3 2
    refine mx_J.step (sn_45 0) (fun _ _ => rfl) ?_
    refine mx_J.step (sn_45 1) (fun _ _ => rfl) ?_
    have b4 : 0 ≤ Z 3 7 ∧ Z 3 7 ≤ 900 := hG.pr 3 7
    have b5 : 0 ≤ Z 3 4 ∧ Z 3 4 ≤ 400 := hG.pr 3 4
    obtain ⟨Z3, h3, hc3, hx3, hG3, hf3, b3⟩ := ct_52_3_0 (T := T) (N := N) (sg := sg) (d := d + 5) (l := l) (D := D) (b0 := b0) (ad := ad) (Hb := Hb) (tau := tau) hx hG (show 0 ≤ x0 ∧ x0 ≤ 1004 by omega) (show (Z 3 4 = 3 ∨ Z 3 7 ≤ 899) by omega) hr
    obtain ⟨br3, b3⟩ := b3
    have b6 : 0 ≤ Z3 3 7 ∧ Z3 3 7 ≤ 900 := hG3.pr 3 7
    refine Jcv0 hx (show mx_Sn _ _ 2 (mx_callv 52 2 7 5) from sn_45 2) a3 s3 hc3 rfl rfl rfl ?_
    refine mx_J.step (sn_45 5) (fun _ _ => rfl) ?_
    have eq8 : Z3 3 0 = Z 3 0 := (hf3 3 0 rfl)
    have b9 : 2 ≤ Z 3 0 ∧ Z 3 0 ≤ 4 := hG.pr 3 0
    have eq10 : Z3 3 1 = Z 3 1 := (hf3 3 1 rfl)
    have eq11 : Z3 3 2 = Z 3 2 := (hf3 3 2 rfl)
    have eq12 : Z3 3 3 = Z 3 3 := (hf3 3 3 rfl)
    have b13 : 0 ≤ Z 3 3 ∧ Z 3 3 ≤ 900 := hG.pr 3 3
    have eq14 : Z3 3 4 = Z 3 4 := (hf3 3 4 rfl)
    have eq15 : Z3 3 14 = Z 3 14 := (hf3 3 14 rfl)
    have b16 : 0 ≤ Z 3 14 ∧ Z 3 14 ≤ 4 := hG.pr 3 14
    obtain ⟨Z7, h7, hc7, hx7, hG7, hf7, b7⟩ := ct_56_3r (T := T) (N := N) (sg := gEm x0 sg) (d := d + 0) (l := l) (D := D) (b0 := b0) (ad := ad) (Hb := Hb) (tau := tau) hx3 hG3  (show Z3 3 0 = 2 by first | omega | (simp only [eq8, eq10, eq11, eq12, eq14, eq15]; omega)) (show Z3 3 2 ≤ Z3 3 1 by first | omega | (simp only [eq8, eq10, eq11, eq12, eq14, eq15]; omega)) br3
    try rw [eq8] at b7
    try rw [eq10] at b7
    try rw [eq11] at b7
    try rw [eq12] at b7
    try rw [eq14] at b7
    try rw [eq15] at b7
    obtain ⟨br7, b7⟩ := b7
    have b17 : 0 ≤ Z7 3 2 ∧ Z7 3 2 ≤ 900 := hG7.pr 3 2
    have b18 : 0 ≤ Z7 3 3 ∧ Z7 3 3 ≤ 900 := hG7.pr 3 3
    have b19 : 0 ≤ Z7 3 4 ∧ Z7 3 4 ≤ 400 := hG7.pr 3 4
    refine Jcv0 hx3 (show mx_Sn _ _ 6 (mx_callv 56 1 7 9) from sn_45 6) a3 s3 hc7 rfl rfl rfl ?_
    have eq20 : Z7 3 7 = Z3 3 7 := (hf7 3 7 rfl)
    have eq21 : Z7 3 14 = Z 3 14 := ((hf7 3 14 rfl).trans (hf3 3 14 rfl))
    have eq22 : Z7 3 0 = Z 3 0 := ((hf7 3 0 rfl).trans (hf3 3 0 rfl))
    have eq23 : Z7 3 1 = Z 3 1 := ((hf7 3 1 rfl).trans (hf3 3 1 rfl))
    have eq24 : Z7 3 7 = Z3 3 7 := (hf7 3 7 rfl)
    have eq25 : Z7 3 14 = Z 3 14 := ((hf7 3 14 rfl).trans (hf3 3 14 rfl))
    exact mx_J.ret (sn_45 9) (fun _ _ => rfl) (hP Z7 h7 hx7 hG7 (fr_tr (M := [(3, 2), (3, 3), (3, 4), (3, 5), (3, 7), (5, (-1))]) (fr_tr (M := [(3, 2), (3, 3), (3, 4), (3, 5), (3, 7), (5, (-1))]) fr_rf (hf3) (M1 := []) rfl rfl) (hf7) rfl rfl) ⟨br7, by omega⟩)
theorem ct_45_3 {l : Launch} {D : va_G} {b0 : Nat} {ad : Nat → Nat} {Hb : Heap} {tau : Nat → Int64} {d n s : Nat} {S : Nat → xS} {Z : xZ} {h : mx_H} {T : Int → Int} {N : Int} {sg : SS} (hx : XH n s S Z h) (hG : GI n S Z)  {x0 : Int} (p0 : 1000 ≤ x0 ∧ x0 ≤ 1004) (k0 : Z 3 0 = 2) (k1 : (Z 3 3 ≤ Z 3 2 ∧ Z 3 2 ≤ Z 3 1 ∧ (Z 3 4 = 0 ∨ Z 3 4 = 3 ∨ Z 3 3 < Z 3 2) ∧ (Z 3 4 = 3 ∨ Z 3 14 = 0))) (k2 : ¬ Z 3 4 = 0) (k3 : ¬ Z 3 4 = 3) (k4 : Z 3 7 ≤ Z 3 3) (hr : RC T N Z sg) : ∃ (Z' : xZ) (h' : mx_H), mx_Ca (tB l D b0 ad Hb tau) (d + 7) 45 [.ref 3, xI x0] h (none, h') ∧ XH n s S Z' h' ∧ GI n S Z' ∧ fr' [(3, 2), (3, 3), (3, 4), (3, 5), (3, 7), (5, (-1))] Z Z' ∧ (RC T N Z' (gAd T N (gEm x0 sg)) ∧ ((Z' 3 3 ≤ Z' 3 2 ∧ Z' 3 2 ≤ Z 3 1 ∧ (Z' 3 4 = 0 ∨ Z' 3 4 = 3 ∨ Z' 3 3 < Z' 3 2) ∧ (Z' 3 4 = 3 ∨ Z' 3 14 = 0)) ∧ Z 3 3 + 1 ≤ Z' 3 3 ∧ Z' 3 7 - Z 3 7 ≤ Z' 3 3 - Z 3 3)) := by
  obtain ⟨r, hca, Z', h', e, q⟩ := Jmt (B := tB l D b0 ad Hb tau) (M := mt_45) (mi := 45) (as := [.ref 3, xI x0]) (d := d + 6) (ls := [some (.ref 3), some (xI x0)]) rfl rfl rfl rfl rfl rfl (cw_45_3 (l := l) (D := D) (b0 := b0) (ad := ad) (Hb := Hb) (tau := tau) (d := d) (Post := fun r => ∃ (Z' : xZ) (h' : mx_H), r = (none, h') ∧ XH n s S Z' h' ∧ GI n S Z' ∧ fr' [(3, 2), (3, 3), (3, 4), (3, 5), (3, 7), (5, (-1))] Z Z' ∧ (RC T N Z' (gAd T N (gEm x0 sg)) ∧ ((Z' 3 3 ≤ Z' 3 2 ∧ Z' 3 2 ≤ Z 3 1 ∧ (Z' 3 4 = 0 ∨ Z' 3 4 = 3 ∨ Z' 3 3 < Z' 3 2) ∧ (Z' 3 4 = 3 ∨ Z' 3 14 = 0)) ∧ Z 3 3 + 1 ≤ Z' 3 3 ∧ Z' 3 7 - Z 3 7 ≤ Z' 3 3 - Z 3 3))) hx hG p0 k0 k1 k2 k3 k4 hr (fun Z' h' q1 q2 q3 q4 => ⟨Z', h', rfl, q1, q2, q3, q4⟩))
  subst e; exact ⟨Z', h', hca, q⟩
set_option maxRecDepth 100000 in
theorem cw_41_3 {l : Launch} {D : va_G} {b0 : Nat} {ad : Nat → Nat} {Hb : Heap} {tau : Nat → Int64} {d n s : Nat} {S : Nat → xS} {Z : xZ} {h : mx_H} {Post : mx_R → Prop} {T : Int → Int} {N : Int} {sg : SS} (hx : XH n s S Z h) (hG : GI n S Z)   (k0 : Z 3 0 = 2) (k1 : (Z 3 3 ≤ Z 3 2 ∧ Z 3 2 ≤ Z 3 1 ∧ (Z 3 4 = 0 ∨ Z 3 4 = 3 ∨ Z 3 3 < Z 3 2) ∧ (Z 3 4 = 3 ∨ Z 3 14 = 0))) (k2 : ¬ Z 3 4 = 0) (k3 : ¬ Z 3 4 = 3) (hr : RC T N Z sg) (hP : ∀ (Z' : xZ) (h' : mx_H), XH n s S Z' h' → GI n S Z' → fr' [(3, 2), (3, 3), (3, 4), (3, 5), (3, 7), (3, 14), (3, 15)] Z Z' → RC T N Z' (gRs (gEx T N 31 (gAd T N sg))) ∧ ((Z' 3 3 ≤ Z' 3 2 ∧ Z' 3 2 ≤ Z 3 1 ∧ (Z' 3 4 = 0 ∨ Z' 3 4 = 3 ∨ Z' 3 3 < Z' 3 2) ∧ (Z' 3 4 = 3 ∨ Z' 3 14 = 0)) ∧ Z 3 3 + 1 ≤ Z' 3 3 ∧ Z' 3 7 = 0 ∧ (Z' 3 4 = 3 ∨ Z 3 3 + 2 ≤ Z' 3 3)) → Post (none, h')) : mx_J (tB l D b0 ad Hb tau) mt_41 (d + 7) 0 [some (.ref 3)] [] h Post := by
    have a3 : 3 < n := lt83 (GI_n hG) rfl
    have s3 : S 3 = .inl (7, [2, 0, 0, 0, 0, 0, 2, 0, 2, 2, 0, 2, 0, 0, 0, 0]) := GI_s hG 3 rfl
    refine mx_J.step (sn_41 0) (fun _ _ => rfl) ?_
    have b2 : 2 ≤ Z 3 0 ∧ Z 3 0 ≤ 4 := hG.pr 3 0
    have b3 : 0 ≤ Z 3 1 ∧ Z 3 1 ≤ 900 := hG.pr 3 1
    have b4 : 0 ≤ Z 3 2 ∧ Z 3 2 ≤ 900 := hG.pr 3 2
    have b5 : 0 ≤ Z 3 3 ∧ Z 3 3 ≤ 900 := hG.pr 3 3
    have b6 : 0 ≤ Z 3 4 ∧ Z 3 4 ≤ 400 := hG.pr 3 4
    have b7 : 0 ≤ Z 3 14 ∧ Z 3 14 ≤ 4 := hG.pr 3 14
    obtain ⟨Z1, h1, hc1, hx1, hG1, hf1, b1⟩ := ct_56_3r (T := T) (N := N) (sg := sg) (d := d + 1) (l := l) (D := D) (b0 := b0) (ad := ad) (Hb := Hb) (tau := tau) hx hG  (show Z 3 0 = 2 by omega) (show Z 3 2 ≤ Z 3 1 by omega) hr
    obtain ⟨br1, b1⟩ := b1
    have b8 : 0 ≤ Z1 3 2 ∧ Z1 3 2 ≤ 900 := hG1.pr 3 2
    have b9 : 0 ≤ Z1 3 3 ∧ Z1 3 3 ≤ 900 := hG1.pr 3 3
    have b10 : 0 ≤ Z1 3 4 ∧ Z1 3 4 ≤ 400 := hG1.pr 3 4
    refine Jcv0 hx (show mx_Sn _ _ 1 (mx_callv 56 1 7 4) from sn_41 1) a3 s3 hc1 rfl rfl rfl ?_
    refine mx_J.step (sn_41 4) (fun _ _ => rfl) ?_
    refine JcI (z := 58) (show mx_Sn _ _ 5 (mx_const (.int 58) 7) from sn_41 5) rfl ?_
    have eq12 : Z1 3 0 = Z 3 0 := (hf1 3 0 rfl)
    have eq13 : Z1 3 1 = Z 3 1 := (hf1 3 1 rfl)
    have eq14 : Z1 3 7 = Z 3 7 := (hf1 3 7 rfl)
    have b15 : 0 ≤ Z 3 7 ∧ Z 3 7 ≤ 900 := hG.pr 3 7
    have eq16 : Z1 3 14 = Z 3 14 := (hf1 3 14 rfl)
    obtain ⟨Z11, h11, hc11, hx11, hG11, hf11, b11⟩ := ct_53_3_i58 (T := T) (N := N) (sg := gAd T N sg) (d := d + 0) (l := l) (D := D) (b0 := b0) (ad := ad) (Hb := Hb) (tau := tau) hx1 hG1  (show Z1 3 0 = 2 by first | omega | (simp only [eq12, eq13, eq14, eq16]; omega)) (show (Z1 3 3 ≤ Z1 3 2 ∧ Z1 3 2 ≤ Z1 3 1 ∧ (Z1 3 4 = 0 ∨ Z1 3 4 = 3 ∨ Z1 3 3 < Z1 3 2) ∧ (Z1 3 4 = 3 ∨ Z1 3 14 = 0)) by first | omega | (simp only [eq12, eq13, eq14, eq16]; omega)) br1
    try rw [eq12] at b11
    try rw [eq13] at b11
    try rw [eq14] at b11
    try rw [eq16] at b11
    obtain ⟨br11, b11⟩ := b11
    have b17 : 0 ≤ Z11 3 2 ∧ Z11 3 2 ≤ 900 := hG11.pr 3 2
    have b18 : 0 ≤ Z11 3 3 ∧ Z11 3 3 ≤ 900 := hG11.pr 3 3
    have b19 : 0 ≤ Z11 3 4 ∧ Z11 3 4 ≤ 400 := hG11.pr 3 4
    have eq20 : Z11 3 7 = Z 3 7 := ((hf11 3 7 rfl).trans (hf1 3 7 rfl))
    have b21 : 0 ≤ Z11 3 14 ∧ Z11 3 14 ≤ 4 := hG11.pr 3 14
    refine Jcv0 hx1 (show mx_Sn _ _ 7 (mx_callv 53 2 7 10) from sn_41 7) a3 s3 hc11 rfl rfl rfl ?_
    refine mx_J.step (sn_41 10) (fun _ _ => rfl) ?_
    refine JcI (z := 0) (show mx_Sn _ _ 11 (mx_const (.int 0) 12) from sn_41 11) rfl ?_
    refine JputI (g := 7) hx11 (show mx_Sn _ _ 12 (mx_putf 1 7 7 (.int) 15) from sn_41 12) a3 s3 rfl rfl rfl rfl (fun Z22 h22 hx22 hE22 => ?_)
    have hG22 := GI_up hG11 hE22 (show 0 ≤ 0 ∧ 0 ≤ 900 by omega) trivial rfl
    have rc23 : RC T N Z22 (gRs (gEx T N 31 (gAd T N sg))) := RC_rs br11 ⟨(up_ni hE22 (by decide)), (up_ni hE22 (by decide)), (up_ni hE22 (by decide)), (up_ni hE22 (by decide)), (up_ni hE22 (by decide)), (up_ni hE22 (by decide)), (up_ni hE22 (by decide)), fun i => (up_nk hE22 rfl)⟩ (up_at hE22)
    have eq24 : Z22 3 2 = Z11 3 2 := (up_ni hE22 (by decide))
    have eq25 : Z22 3 3 = Z11 3 3 := (up_ni hE22 (by decide))
    have eq26 : Z22 3 4 = Z11 3 4 := (up_ni hE22 (by decide))
    have eq27 : Z22 3 7 = 0 := (up_at hE22)
    have eq28 : Z22 3 14 = Z11 3 14 := (up_ni hE22 (by decide))
    have eq29 : Z22 3 0 = Z 3 0 := ((up_ni hE22 (by decide)).trans ((hf11 3 0 rfl).trans (hf1 3 0 rfl)))
    have eq30 : Z22 3 1 = Z 3 1 := ((up_ni hE22 (by decide)).trans ((hf11 3 1 rfl).trans (hf1 3 1 rfl)))
    have eq31 : Z22 3 2 = Z11 3 2 := (up_ni hE22 (by decide))
    have eq32 : Z22 3 3 = Z11 3 3 := (up_ni hE22 (by decide))
    have eq33 : Z22 3 4 = Z11 3 4 := (up_ni hE22 (by decide))
    have eq34 : Z22 3 7 = 0 := (up_at hE22)
    have eq35 : Z22 3 14 = Z11 3 14 := (up_ni hE22 (by decide))
    exact mx_J.ret (sn_41 15) (fun _ _ => rfl) (hP Z22 h22 hx22 hG22 (fr_tr (M := [(3, 2), (3, 3), (3, 4), (3, 5), (3, 7), (3, 14), (3, 15)]) (fr_tr (M := [(3, 2), (3, 3), (3, 4), (3, 5), (3, 7), (3, 14), (3, 15)]) (fr_tr (M := [(3, 2), (3, 3), (3, 4), (3, 5), (3, 7), (3, 14), (3, 15)]) fr_rf (hf1) (M1 := []) rfl rfl) (hf11) rfl rfl) (fr_up hE22) rfl rfl) ⟨rc23, by omega⟩)
theorem ct_41_3 {l : Launch} {D : va_G} {b0 : Nat} {ad : Nat → Nat} {Hb : Heap} {tau : Nat → Int64} {d n s : Nat} {S : Nat → xS} {Z : xZ} {h : mx_H} {T : Int → Int} {N : Int} {sg : SS} (hx : XH n s S Z h) (hG : GI n S Z)   (k0 : Z 3 0 = 2) (k1 : (Z 3 3 ≤ Z 3 2 ∧ Z 3 2 ≤ Z 3 1 ∧ (Z 3 4 = 0 ∨ Z 3 4 = 3 ∨ Z 3 3 < Z 3 2) ∧ (Z 3 4 = 3 ∨ Z 3 14 = 0))) (k2 : ¬ Z 3 4 = 0) (k3 : ¬ Z 3 4 = 3) (hr : RC T N Z sg) : ∃ (Z' : xZ) (h' : mx_H), mx_Ca (tB l D b0 ad Hb tau) (d + 8) 41 [.ref 3] h (none, h') ∧ XH n s S Z' h' ∧ GI n S Z' ∧ fr' [(3, 2), (3, 3), (3, 4), (3, 5), (3, 7), (3, 14), (3, 15)] Z Z' ∧ (RC T N Z' (gRs (gEx T N 31 (gAd T N sg))) ∧ ((Z' 3 3 ≤ Z' 3 2 ∧ Z' 3 2 ≤ Z 3 1 ∧ (Z' 3 4 = 0 ∨ Z' 3 4 = 3 ∨ Z' 3 3 < Z' 3 2) ∧ (Z' 3 4 = 3 ∨ Z' 3 14 = 0)) ∧ Z 3 3 + 1 ≤ Z' 3 3 ∧ Z' 3 7 = 0 ∧ (Z' 3 4 = 3 ∨ Z 3 3 + 2 ≤ Z' 3 3))) := by
  obtain ⟨r, hca, Z', h', e, q⟩ := Jmt (B := tB l D b0 ad Hb tau) (M := mt_41) (mi := 41) (as := [.ref 3]) (d := d + 7) (ls := [some (.ref 3)]) rfl rfl rfl rfl rfl rfl (cw_41_3 (l := l) (D := D) (b0 := b0) (ad := ad) (Hb := Hb) (tau := tau) (d := d) (Post := fun r => ∃ (Z' : xZ) (h' : mx_H), r = (none, h') ∧ XH n s S Z' h' ∧ GI n S Z' ∧ fr' [(3, 2), (3, 3), (3, 4), (3, 5), (3, 7), (3, 14), (3, 15)] Z Z' ∧ (RC T N Z' (gRs (gEx T N 31 (gAd T N sg))) ∧ ((Z' 3 3 ≤ Z' 3 2 ∧ Z' 3 2 ≤ Z 3 1 ∧ (Z' 3 4 = 0 ∨ Z' 3 4 = 3 ∨ Z' 3 3 < Z' 3 2) ∧ (Z' 3 4 = 3 ∨ Z' 3 14 = 0)) ∧ Z 3 3 + 1 ≤ Z' 3 3 ∧ Z' 3 7 = 0 ∧ (Z' 3 4 = 3 ∨ Z 3 3 + 2 ≤ Z' 3 3)))) hx hG k0 k1 k2 k3 hr (fun Z' h' q1 q2 q3 q4 => ⟨Z', h', rfl, q1, q2, q3, q4⟩))
  subst e; exact ⟨Z', h', hca, q⟩
def rbR_42 (l : Launch) (D : va_G) (b0 : Nat) (ad : Nat → Nat) (Hb : Heap) (tau : Nat → Int64) (kk : Nat) (x0 : Int) : Prop := ∀ (T : Int → Int) (N : Int) (sg : SS) (d n s : Nat) (S : Nat → xS) (Z : xZ) (h : mx_H) (hd : kk ≤ d) (hx : XH n s S Z h) (hG : GI n S Z) (k0 : Z 3 0 = 2) (k1 : (Z 3 3 ≤ Z 3 2 ∧ Z 3 2 ≤ Z 3 1 ∧ (Z 3 4 = 0 ∨ Z 3 4 = 3 ∨ Z 3 3 < Z 3 2) ∧ (Z 3 4 = 3 ∨ Z 3 14 = 0))) (k2 : Z 3 7 ≤ Z 3 3) (hr : RC T N Z (sg)), ∃ (Z' : xZ) (h' : mx_H), mx_Ca (tB l D b0 ad Hb tau) d 42 [.ref 3, xI x0] h (none, h') ∧ XH n s S Z' h' ∧ GI n S Z' ∧ fr' [(3, 2), (3, 3), (3, 4), (3, 5), (3, 7), (3, 14), (3, 15), (5, (-1))] Z Z' ∧ (RC T N Z' (smX T N (lvI T N x0) sg) ∧ ((Z' 3 3 ≤ Z' 3 2 ∧ Z' 3 2 ≤ Z 3 1 ∧ (Z' 3 4 = 0 ∨ Z' 3 4 = 3 ∨ Z' 3 3 < Z' 3 2) ∧ (Z' 3 4 = 3 ∨ Z' 3 14 = 0)) ∧ Z 3 3 ≤ Z' 3 3 ∧ Z' 3 7 - Z 3 7 ≤ Z' 3 3 - Z 3 3 ∧ (Z' 3 4 = 3 ∨ Z 3 3 + 1 ≤ Z' 3 3) ∧ (Z 3 4 = 3 → Z' 3 4 = 3)))
def rbR_46 (l : Launch) (D : va_G) (b0 : Nat) (ad : Nat → Nat) (Hb : Heap) (tau : Nat → Int64) (kk : Nat) (x0 : Int) : Prop := ∀ (T : Int → Int) (N : Int) (sg : SS) (d n s : Nat) (S : Nat → xS) (Z : xZ) (h : mx_H) (hd : kk ≤ d) (hx : XH n s S Z h) (hG : GI n S Z) (k0 : Z 3 0 = 2) (k1 : (Z 3 3 ≤ Z 3 2 ∧ Z 3 2 ≤ Z 3 1 ∧ (Z 3 4 = 0 ∨ Z 3 4 = 3 ∨ Z 3 3 < Z 3 2) ∧ (Z 3 4 = 3 ∨ Z 3 14 = 0))) (k2 : Z 3 7 ≤ Z 3 3) (hr : RC T N Z (sg)), ∃ (Z' : xZ) (h' : mx_H), mx_Ca (tB l D b0 ad Hb tau) d 46 [.ref 3, xI x0] h (none, h') ∧ XH n s S Z' h' ∧ GI n S Z' ∧ fr' [(3, 2), (3, 3), (3, 4), (3, 5), (3, 7), (3, 14), (3, 15), (5, (-1))] Z Z' ∧ (RC T N Z' (chX T N (lvT T N x0) sg) ∧ ((Z' 3 3 ≤ Z' 3 2 ∧ Z' 3 2 ≤ Z 3 1 ∧ (Z' 3 4 = 0 ∨ Z' 3 4 = 3 ∨ Z' 3 3 < Z' 3 2) ∧ (Z' 3 4 = 3 ∨ Z' 3 14 = 0)) ∧ Z 3 3 ≤ Z' 3 3 ∧ Z' 3 7 - Z 3 7 ≤ Z' 3 3 - Z 3 3 + 1 ∧ (Z 3 4 = 3 → Z' 3 4 = 3)))
def rbR_49 (l : Launch) (D : va_G) (b0 : Nat) (ad : Nat → Nat) (Hb : Heap) (tau : Nat → Int64) (kk : Nat) (x0 : Int) : Prop := ∀ (T : Int → Int) (N : Int) (sg : SS) (d n s : Nat) (S : Nat → xS) (Z : xZ) (h : mx_H) (hd : kk ≤ d) (hx : XH n s S Z h) (hG : GI n S Z) (k0 : Z 3 0 = 2) (k1 : (Z 3 3 ≤ Z 3 2 ∧ Z 3 2 ≤ Z 3 1 ∧ (Z 3 4 = 0 ∨ Z 3 4 = 3 ∨ Z 3 3 < Z 3 2) ∧ (Z 3 4 = 3 ∨ Z 3 14 = 0))) (k2 : Z 3 7 ≤ Z 3 3) (hr : RC T N Z (sg)), ∃ (Z' : xZ) (h' : mx_H), mx_Ca (tB l D b0 ad Hb tau) d 49 [.ref 3, xI x0] h (none, h') ∧ XH n s S Z' h' ∧ GI n S Z' ∧ fr' [(3, 2), (3, 3), (3, 4), (3, 5), (3, 7), (3, 14), (3, 15), (5, (-1))] Z Z' ∧ (RC T N Z' (unX T N (lvI T N x0) sg) ∧ ((Z' 3 3 ≤ Z' 3 2 ∧ Z' 3 2 ≤ Z 3 1 ∧ (Z' 3 4 = 0 ∨ Z' 3 4 = 3 ∨ Z' 3 3 < Z' 3 2) ∧ (Z' 3 4 = 3 ∨ Z' 3 14 = 0)) ∧ Z 3 3 ≤ Z' 3 3 ∧ Z' 3 7 - Z 3 7 ≤ Z' 3 3 - Z 3 3 ∧ (Z' 3 4 = 3 ∨ Z 3 3 + 1 ≤ Z' 3 3) ∧ (Z 3 4 = 3 → Z' 3 4 = 3)))
def rbR_47 (l : Launch) (D : va_G) (b0 : Nat) (ad : Nat → Nat) (Hb : Heap) (tau : Nat → Int64) (kk : Nat) (x0 : Int) : Prop := ∀ (T : Int → Int) (N : Int) (sg : SS) (d n s : Nat) (S : Nat → xS) (Z : xZ) (h : mx_H) (hd : kk ≤ d) (hx : XH n s S Z h) (hG : GI n S Z) (k0 : Z 3 0 = 2) (k1 : (Z 3 3 ≤ Z 3 2 ∧ Z 3 2 ≤ Z 3 1 ∧ (Z 3 4 = 0 ∨ Z 3 4 = 3 ∨ Z 3 3 < Z 3 2) ∧ (Z 3 4 = 3 ∨ Z 3 14 = 0))) (k2 : Z 3 7 ≤ Z 3 3) (hr : RC T N Z (sg)), ∃ (Z' : xZ) (h' : mx_H), mx_Ca (tB l D b0 ad Hb tau) d 47 [.ref 3, xI x0] h (none, h') ∧ XH n s S Z' h' ∧ GI n S Z' ∧ fr' [(3, 2), (3, 3), (3, 4), (3, 5), (3, 7), (3, 14), (3, 15), (5, (-1))] Z Z' ∧ (RC T N Z' (trX T N (lvI T N x0) sg) ∧ ((Z' 3 3 ≤ Z' 3 2 ∧ Z' 3 2 ≤ Z 3 1 ∧ (Z' 3 4 = 0 ∨ Z' 3 4 = 3 ∨ Z' 3 3 < Z' 3 2) ∧ (Z' 3 4 = 3 ∨ Z' 3 14 = 0)) ∧ Z 3 3 ≤ Z' 3 3 ∧ Z' 3 7 - Z 3 7 ≤ Z' 3 3 - Z 3 3 ∧ (Z' 3 4 = 3 ∨ Z 3 3 + 1 ≤ Z' 3 3) ∧ (Z 3 4 = 3 → Z' 3 4 = 3)))
def RBd (l : Launch) (D : va_G) (b0 : Nat) (ad : Nat → Nat) (Hb : Heap) (tau : Nat → Int64) (kk : Nat) (x0 : Int) : Prop := rbR_42 l D b0 ad Hb tau kk x0 ∧ rbR_46 l D b0 ad Hb tau kk x0 ∧ rbR_49 l D b0 ad Hb tau kk x0 ∧ rbR_47 l D b0 ad Hb tau kk x0
def RBdh (l : Launch) (D : va_G) (b0 : Nat) (ad : Nat → Nat) (Hb : Heap) (tau : Nat → Int64) (kk : Nat) (x0 : Int) : Prop := x0 ≤ 5 → RBd l D b0 ad Hb tau kk (x0 + 1)
theorem riR_42 {l : Launch} {D : va_G} {b0 : Nat} {ad : Nat → Nat} {Hb : Heap} {tau : Nat → Int64} {x0 : Int} {kk : Nat} (IH : RBdh l D b0 ad Hb tau kk x0) (h5 : x0 ≤ 5) {T : Int → Int} {N : Int} {sg : SS} {d n s : Nat} {S : Nat → xS} {Z : xZ} {h : mx_H} (hd : kk ≤ d) (hx : XH n s S Z h) (hG : GI n S Z) (_p0 : 1 ≤ x0 + 1 ∧ x0 + 1 ≤ 6) (k0 : Z 3 0 = 2) (k1 : (Z 3 3 ≤ Z 3 2 ∧ Z 3 2 ≤ Z 3 1 ∧ (Z 3 4 = 0 ∨ Z 3 4 = 3 ∨ Z 3 3 < Z 3 2) ∧ (Z 3 4 = 3 ∨ Z 3 14 = 0))) (k2 : Z 3 7 ≤ Z 3 3) (hr : RC T N Z (sg)) : ∃ (Z' : xZ) (h' : mx_H), mx_Ca (tB l D b0 ad Hb tau) d 42 [.ref 3, xI (x0 + 1)] h (none, h') ∧ XH n s S Z' h' ∧ GI n S Z' ∧ fr' [(3, 2), (3, 3), (3, 4), (3, 5), (3, 7), (3, 14), (3, 15), (5, (-1))] Z Z' ∧ (RC T N Z' (smX T N (lvI T N (x0 + 1)) sg) ∧ ((Z' 3 3 ≤ Z' 3 2 ∧ Z' 3 2 ≤ Z 3 1 ∧ (Z' 3 4 = 0 ∨ Z' 3 4 = 3 ∨ Z' 3 3 < Z' 3 2) ∧ (Z' 3 4 = 3 ∨ Z' 3 14 = 0)) ∧ Z 3 3 ≤ Z' 3 3 ∧ Z' 3 7 - Z 3 7 ≤ Z' 3 3 - Z 3 3 ∧ (Z' 3 4 = 3 ∨ Z 3 3 + 1 ≤ Z' 3 3) ∧ (Z 3 4 = 3 → Z' 3 4 = 3))) := (IH h5).1 T N sg d n s S Z h hd hx hG k0 k1 k2 hr
theorem riR_46 {l : Launch} {D : va_G} {b0 : Nat} {ad : Nat → Nat} {Hb : Heap} {tau : Nat → Int64} {x0 : Int} {kk : Nat} (IH : RBdh l D b0 ad Hb tau kk x0) (h5 : x0 ≤ 5) {T : Int → Int} {N : Int} {sg : SS} {d n s : Nat} {S : Nat → xS} {Z : xZ} {h : mx_H} (hd : kk ≤ d) (hx : XH n s S Z h) (hG : GI n S Z) (_p0 : 1 ≤ x0 + 1 ∧ x0 + 1 ≤ 6) (k0 : Z 3 0 = 2) (k1 : (Z 3 3 ≤ Z 3 2 ∧ Z 3 2 ≤ Z 3 1 ∧ (Z 3 4 = 0 ∨ Z 3 4 = 3 ∨ Z 3 3 < Z 3 2) ∧ (Z 3 4 = 3 ∨ Z 3 14 = 0))) (k2 : Z 3 7 ≤ Z 3 3) (hr : RC T N Z (sg)) : ∃ (Z' : xZ) (h' : mx_H), mx_Ca (tB l D b0 ad Hb tau) d 46 [.ref 3, xI (x0 + 1)] h (none, h') ∧ XH n s S Z' h' ∧ GI n S Z' ∧ fr' [(3, 2), (3, 3), (3, 4), (3, 5), (3, 7), (3, 14), (3, 15), (5, (-1))] Z Z' ∧ (RC T N Z' (chX T N (lvT T N (x0 + 1)) sg) ∧ ((Z' 3 3 ≤ Z' 3 2 ∧ Z' 3 2 ≤ Z 3 1 ∧ (Z' 3 4 = 0 ∨ Z' 3 4 = 3 ∨ Z' 3 3 < Z' 3 2) ∧ (Z' 3 4 = 3 ∨ Z' 3 14 = 0)) ∧ Z 3 3 ≤ Z' 3 3 ∧ Z' 3 7 - Z 3 7 ≤ Z' 3 3 - Z 3 3 + 1 ∧ (Z 3 4 = 3 → Z' 3 4 = 3))) := (IH h5).2.1 T N sg d n s S Z h hd hx hG k0 k1 k2 hr
theorem riR_49 {l : Launch} {D : va_G} {b0 : Nat} {ad : Nat → Nat} {Hb : Heap} {tau : Nat → Int64} {x0 : Int} {kk : Nat} (IH : RBdh l D b0 ad Hb tau kk x0) (h5 : x0 ≤ 5) {T : Int → Int} {N : Int} {sg : SS} {d n s : Nat} {S : Nat → xS} {Z : xZ} {h : mx_H} (hd : kk ≤ d) (hx : XH n s S Z h) (hG : GI n S Z) (_p0 : 1 ≤ x0 + 1 ∧ x0 + 1 ≤ 6) (k0 : Z 3 0 = 2) (k1 : (Z 3 3 ≤ Z 3 2 ∧ Z 3 2 ≤ Z 3 1 ∧ (Z 3 4 = 0 ∨ Z 3 4 = 3 ∨ Z 3 3 < Z 3 2) ∧ (Z 3 4 = 3 ∨ Z 3 14 = 0))) (k2 : Z 3 7 ≤ Z 3 3) (hr : RC T N Z (sg)) : ∃ (Z' : xZ) (h' : mx_H), mx_Ca (tB l D b0 ad Hb tau) d 49 [.ref 3, xI (x0 + 1)] h (none, h') ∧ XH n s S Z' h' ∧ GI n S Z' ∧ fr' [(3, 2), (3, 3), (3, 4), (3, 5), (3, 7), (3, 14), (3, 15), (5, (-1))] Z Z' ∧ (RC T N Z' (unX T N (lvI T N (x0 + 1)) sg) ∧ ((Z' 3 3 ≤ Z' 3 2 ∧ Z' 3 2 ≤ Z 3 1 ∧ (Z' 3 4 = 0 ∨ Z' 3 4 = 3 ∨ Z' 3 3 < Z' 3 2) ∧ (Z' 3 4 = 3 ∨ Z' 3 14 = 0)) ∧ Z 3 3 ≤ Z' 3 3 ∧ Z' 3 7 - Z 3 7 ≤ Z' 3 3 - Z 3 3 ∧ (Z' 3 4 = 3 ∨ Z 3 3 + 1 ≤ Z' 3 3) ∧ (Z 3 4 = 3 → Z' 3 4 = 3))) := (IH h5).2.2.1 T N sg d n s S Z h hd hx hG k0 k1 k2 hr
theorem riR_47 {l : Launch} {D : va_G} {b0 : Nat} {ad : Nat → Nat} {Hb : Heap} {tau : Nat → Int64} {x0 : Int} {kk : Nat} (IH : RBdh l D b0 ad Hb tau kk x0) (h5 : x0 ≤ 5) {T : Int → Int} {N : Int} {sg : SS} {d n s : Nat} {S : Nat → xS} {Z : xZ} {h : mx_H} (hd : kk ≤ d) (hx : XH n s S Z h) (hG : GI n S Z) (_p0 : 1 ≤ x0 + 1 ∧ x0 + 1 ≤ 6) (k0 : Z 3 0 = 2) (k1 : (Z 3 3 ≤ Z 3 2 ∧ Z 3 2 ≤ Z 3 1 ∧ (Z 3 4 = 0 ∨ Z 3 4 = 3 ∨ Z 3 3 < Z 3 2) ∧ (Z 3 4 = 3 ∨ Z 3 14 = 0))) (k2 : Z 3 7 ≤ Z 3 3) (hr : RC T N Z (sg)) : ∃ (Z' : xZ) (h' : mx_H), mx_Ca (tB l D b0 ad Hb tau) d 47 [.ref 3, xI (x0 + 1)] h (none, h') ∧ XH n s S Z' h' ∧ GI n S Z' ∧ fr' [(3, 2), (3, 3), (3, 4), (3, 5), (3, 7), (3, 14), (3, 15), (5, (-1))] Z Z' ∧ (RC T N Z' (trX T N (lvI T N (x0 + 1)) sg) ∧ ((Z' 3 3 ≤ Z' 3 2 ∧ Z' 3 2 ≤ Z 3 1 ∧ (Z' 3 4 = 0 ∨ Z' 3 4 = 3 ∨ Z' 3 3 < Z' 3 2) ∧ (Z' 3 4 = 3 ∨ Z' 3 14 = 0)) ∧ Z 3 3 ≤ Z' 3 3 ∧ Z' 3 7 - Z 3 7 ≤ Z' 3 3 - Z 3 3 ∧ (Z' 3 4 = 3 ∨ Z 3 3 + 1 ≤ Z' 3 3) ∧ (Z 3 4 = 3 → Z' 3 4 = 3))) := (IH h5).2.2.2 T N sg d n s S Z h hd hx hG k0 k1 k2 hr
set_option maxRecDepth 100000 in
theorem cw_44_3_s {l : Launch} {D : va_G} {b0 : Nat} {ad : Nat → Nat} {Hb : Heap} {tau : Nat → Int64} {d n s : Nat} {S : Nat → xS} {Z : xZ} {h : mx_H} {Post : mx_R → Prop} {T : Int → Int} {N : Int} {sg : SS} (hx : XH n s S Z h) (hG : GI n S Z)  {x0 : Int} (p0 : 0 ≤ x0 ∧ x0 ≤ 6) (k0 : Z 3 0 = 2) (k1 : (Z 3 3 ≤ Z 3 2 ∧ Z 3 2 ≤ Z 3 1 ∧ (Z 3 4 = 0 ∨ Z 3 4 = 3 ∨ Z 3 3 < Z 3 2) ∧ (Z 3 4 = 3 ∨ Z 3 14 = 0))) (k2 : Z 3 7 ≤ Z 3 3) (hr : RC T N Z sg) {kk : Nat} (IH : RBdh l D b0 ad Hb tau kk x0) (hd : kk ≤ d) (hP : ∀ (Z' : xZ) (h' : mx_H), XH n s S Z' h' → GI n S Z' → fr' [(3, 2), (3, 3), (3, 4), (3, 5), (3, 7), (3, 14), (3, 15), (5, (-1))] Z Z' → RC T N Z' (atX T N (lvI T N x0) sg) ∧ ((Z' 3 3 ≤ Z' 3 2 ∧ Z' 3 2 ≤ Z 3 1 ∧ (Z' 3 4 = 0 ∨ Z' 3 4 = 3 ∨ Z' 3 3 < Z' 3 2) ∧ (Z' 3 4 = 3 ∨ Z' 3 14 = 0)) ∧ Z 3 3 ≤ Z' 3 3 ∧ Z' 3 7 - Z 3 7 ≤ Z' 3 3 - Z 3 3 ∧ (Z' 3 4 = 3 ∨ Z 3 3 + 1 ≤ Z' 3 3) ∧ (Z 3 4 = 3 → Z' 3 4 = 3)) → Post (none, h')) : mx_J (tB l D b0 ad Hb tau) mt_44 (d + 7) 0 [some (.ref 3), some (xI x0)] [] h Post := by
    have a3 : 3 < n := lt83 (GI_n hG) rfl
    have s3 : S 3 = .inl (7, [2, 0, 0, 0, 0, 0, 2, 0, 2, 2, 0, 2, 0, 0, 0, 0]) := GI_s hG 3 rfl
    refine mx_J.step (sn_44 0) (fun _ _ => rfl) ?_
    have b2 : 0 ≤ Z 3 4 ∧ Z 3 4 ≤ 400 := hG.pr 3 4
    refine JgetI (g := 4) (z := Z 3 4) hx (show mx_Sn _ _ 1 (mx_getf 7 4 4) from sn_44 1) a3 s3 rfl rfl rfl ?_
    refine JcI (z := 1) (show mx_Sn _ _ 4 (mx_const (.int 1) 5) from sn_44 4) rfl ?_
    have c148 : ∀  (Z4 : xZ) (h4 : mx_H), (Z4 3 3 ≤ Z4 3 2 ∧ Z4 3 2 ≤ Z 3 1 ∧ (Z4 3 4 = 0 ∨ Z4 3 4 = 3 ∨ Z4 3 3 < Z4 3 2) ∧ (Z4 3 4 = 3 ∨ Z4 3 14 = 0)) → (Z 3 3 ≤ Z4 3 3 ∧ Z4 3 7 - Z 3 7 ≤ Z4 3 3 - Z 3 3 + 0) → ((Z4 3 4 = 3 ∨ Z 3 3 + 1 ≤ Z4 3 3) ∧ (Z 3 4 = 3 → Z4 3 4 = 3)) → RC T N Z4 (atX T N (lvI T N x0) sg) → XH n s S Z4 h4 → GI n S Z4 → fr' [(3, 2), (3, 3), (3, 4), (3, 5), (3, 7), (3, 14), (3, 15), (5, (-1))] Z Z4 → mx_J (tB l D b0 ad Hb tau) mt_44 (d + 7) 148 [some (.ref 3), some (xI x0)] [] h4 Post := by
      intro Z4 h4 f3_0 f3_1 f3_2 f3_3 hx4 hG4 hf4
      have eq5 : Z4 3 0 = Z 3 0 := (hf4 3 0 rfl)
      have b6 : 2 ≤ Z 3 0 ∧ Z 3 0 ≤ 4 := hG.pr 3 0
      have b7 : 0 ≤ Z4 3 2 ∧ Z4 3 2 ≤ 900 := hG4.pr 3 2
      have b8 : 0 ≤ Z4 3 3 ∧ Z4 3 3 ≤ 900 := hG4.pr 3 3
      have b9 : 0 ≤ Z4 3 4 ∧ Z4 3 4 ≤ 400 := hG4.pr 3 4
      have b10 : 0 ≤ Z4 3 7 ∧ Z4 3 7 ≤ 900 := hG4.pr 3 7
      have b11 : 0 ≤ Z4 3 14 ∧ Z4 3 14 ≤ 4 := hG4.pr 3 14
      have eq12 : Z4 3 0 = Z 3 0 := (hf4 3 0 rfl)
      have eq13 : Z4 3 1 = Z 3 1 := (hf4 3 1 rfl)
      have b14 : 0 ≤ Z 3 1 ∧ Z 3 1 ≤ 900 := hG.pr 3 1
      exact mx_J.ret (sn_44 148) (fun _ _ => rfl) (hP Z4 h4 hx4 hG4 (fr_tr (M := [(3, 2), (3, 3), (3, 4), (3, 5), (3, 7), (3, 14), (3, 15), (5, (-1))]) fr_rf (hf4) (M1 := []) rfl rfl) ⟨f3_3, by omega⟩)
    refine Jicmp_ne (show mx_Sn _ _ 5 (mx_icmp_ne 23 8) from sn_44 5) (by omega) (by omega) (fun q15 => ?_) (fun q15 => ?_)
    · skip
      refine mx_J.step (sn_44 23) (fun _ _ => rfl) ?_
      refine JgetI (g := 4) (z := Z 3 4) hx (show mx_Sn _ _ 24 (mx_getf 7 4 27) from sn_44 24) a3 s3 rfl rfl rfl ?_
      refine JcI (z := 40) (show mx_Sn _ _ 27 (mx_const (.int 40) 29) from sn_44 27) rfl ?_
      refine Jicmp_ne (show mx_Sn _ _ 29 (mx_icmp_ne 56 32) from sn_44 29) (by omega) (by omega) (fun q17 => ?_) (fun q17 => ?_)
      · skip
        refine mx_J.step (sn_44 56) (fun _ _ => rfl) ?_
        refine JgetI (g := 4) (z := Z 3 4) hx (show mx_Sn _ _ 57 (mx_getf 7 4 60) from sn_44 57) a3 s3 rfl rfl rfl ?_
        refine JcI (z := 305) (show mx_Sn _ _ 60 (mx_const (.int 305) 63) from sn_44 60) rfl ?_
        refine Jicmp_ne (show mx_Sn _ _ 63 (mx_icmp_ne 84 66) from sn_44 63) (by omega) (by omega) (fun q19 => ?_) (fun q19 => ?_)
        · skip
          refine mx_J.step (sn_44 84) (fun _ _ => rfl) ?_
          refine JgetI (g := 4) (z := Z 3 4) hx (show mx_Sn _ _ 85 (mx_getf 7 4 88) from sn_44 85) a3 s3 rfl rfl rfl ?_
          refine JcI (z := 301) (show mx_Sn _ _ 88 (mx_const (.int 301) 91) from sn_44 88) rfl ?_
          refine Jicmp_ne (show mx_Sn _ _ 91 (mx_icmp_ne 104 94) from sn_44 91) (by omega) (by omega) (fun q21 => ?_) (fun q21 => ?_)
          · skip
            refine mx_J.step (sn_44 104) (fun _ _ => rfl) ?_
            refine JgetI (g := 4) (z := Z 3 4) hx (show mx_Sn _ _ 105 (mx_getf 7 4 108) from sn_44 105) a3 s3 rfl rfl rfl ?_
            refine JcI (z := 309) (show mx_Sn _ _ 108 (mx_const (.int 309) 111) from sn_44 108) rfl ?_
            have c143 : ¬ (309 ≤ Z 3 4 ∧ Z 3 4 ≤ 312) → mx_J (tB l D b0 ad Hb tau) mt_44 (d + 7) 143 [some (.ref 3), some (xI x0)] [] h Post := by
              intro f23_0
              refine mx_J.step (sn_44 143) (fun _ _ => rfl) ?_
              refine JcI (z := 2) (show mx_Sn _ _ 144 (mx_const (.int 2) 145) from sn_44 144) rfl ?_
              obtain ⟨Z24, h24, hc24, hx24, hG24, hf24, b24⟩ := ct_55_3 (T := T) (N := N) (sg := sg) (d := d + 6) (l := l) (D := D) (b0 := b0) (ad := ad) (Hb := Hb) (tau := tau) hx hG (show 2 ≤ 2 ∧ 2 ≤ 4 by omega) hr
              obtain ⟨br24, b24⟩ := b24
              have b25 : 0 ≤ Z24 3 4 ∧ Z24 3 4 ≤ 400 := hG24.pr 3 4
              refine Jcv0 hx (show mx_Sn _ _ 145 (mx_callv 55 2 7 148) from sn_44 145) a3 s3 hc24 rfl rfl rfl ?_
              have eq26 : Z24 3 0 = Z 3 0 := (hf24 3 0 rfl)
              have b27 : 2 ≤ Z 3 0 ∧ Z 3 0 ≤ 4 := hG.pr 3 0
              have eq28 : Z24 3 2 = Z 3 2 := (hf24 3 2 rfl)
              have b29 : 0 ≤ Z 3 2 ∧ Z 3 2 ≤ 900 := hG.pr 3 2
              have eq30 : Z24 3 3 = Z 3 3 := (hf24 3 3 rfl)
              have b31 : 0 ≤ Z 3 3 ∧ Z 3 3 ≤ 900 := hG.pr 3 3
              have eq32 : Z24 3 7 = Z 3 7 := (hf24 3 7 rfl)
              have b33 : 0 ≤ Z 3 7 ∧ Z 3 7 ≤ 900 := hG.pr 3 7
              have b34 : 0 ≤ Z24 3 14 ∧ Z24 3 14 ≤ 4 := hG24.pr 3 14
              have eq35 : Z24 3 3 = Z 3 3 := (hf24 3 3 rfl)
              have eq36 : Z24 3 7 = Z 3 7 := (hf24 3 7 rfl)
              have eq37 : Z24 3 3 = Z 3 3 := (hf24 3 3 rfl)
              exact c148 Z24 h24 (by omega) (by omega) (by omega) (RC_e br24 (at_n (RC_n (k := 23) (v := 1) hr (by unfold tKk; omega) rfl (by omega)) (RC_n (k := 35) (v := 40) hr (by unfold tKk; omega) rfl (by omega)) (RC_n (k := 5) (v := 305) hr (by unfold tKk; omega) rfl (by omega)) (RC_n (k := 1) (v := 301) hr (by unfold tKk; omega) rfl (by omega)) (fun q => by have := (RC_w hr).1.mp q; omega))) hx24 hG24 (fr_tr (M := [(3, 2), (3, 3), (3, 4), (3, 5), (3, 7), (3, 14), (3, 15), (5, (-1))]) fr_rf (hf24) (M1 := []) rfl rfl)
            refine Jicmp_lt (show mx_Sn _ _ 111 (mx_icmp_lt 143 114) from sn_44 111) (by omega) (by omega) (fun q38 => ?_) (fun q38 => ?_)
            · skip
              exact c143 (by omega)
            · skip
              refine mx_J.step (sn_44 114) (fun _ _ => rfl) ?_
              refine JgetI (g := 4) (z := Z 3 4) hx (show mx_Sn _ _ 115 (mx_getf 7 4 118) from sn_44 115) a3 s3 rfl rfl rfl ?_
              refine JcI (z := 312) (show mx_Sn _ _ 118 (mx_const (.int 312) 121) from sn_44 118) rfl ?_
              refine Jicmp_gt (show mx_Sn _ _ 121 (mx_icmp_gt 143 124) from sn_44 121) (by omega) (by omega) (fun q40 => ?_) (fun q40 => ?_)
              · skip
                exact c143 (by omega)
              · skip
                refine mx_J.step (sn_44 124) (fun _ _ => rfl) ?_
                refine JcI (z := 1000) (show mx_Sn _ _ 125 (mx_const (.int 1000) 128) from sn_44 125) rfl ?_
                refine mx_J.step (sn_44 128) (fun _ _ => rfl) ?_
                refine JgetI (g := 4) (z := Z 3 4) hx (show mx_Sn _ _ 129 (mx_getf 7 4 132) from sn_44 129) a3 s3 rfl rfl rfl ?_
                refine Jiadd (show mx_Sn _ _ 132 (mx_iadd 133) from sn_44 132) ?_
                refine JcI (z := 309) (show mx_Sn _ _ 133 (mx_const (.int 309) 136) from sn_44 133) rfl ?_
                refine Jisub (show mx_Sn _ _ 136 (mx_isub 137) from sn_44 136) ?_
                have b43 : 2 ≤ Z 3 0 ∧ Z 3 0 ≤ 4 := hG.pr 3 0
                have b44 : 0 ≤ Z 3 1 ∧ Z 3 1 ≤ 900 := hG.pr 3 1
                have b45 : 0 ≤ Z 3 2 ∧ Z 3 2 ≤ 900 := hG.pr 3 2
                have b46 : 0 ≤ Z 3 3 ∧ Z 3 3 ≤ 900 := hG.pr 3 3
                have b47 : 0 ≤ Z 3 7 ∧ Z 3 7 ≤ 900 := hG.pr 3 7
                have b48 : 0 ≤ Z 3 14 ∧ Z 3 14 ≤ 4 := hG.pr 3 14
                obtain ⟨Z42, h42, hc42, hx42, hG42, hf42, b42⟩ := ct_45_3 (T := T) (N := N) (sg := sg) (d := d + 0) (l := l) (D := D) (b0 := b0) (ad := ad) (Hb := Hb) (tau := tau) hx hG (show 1000 ≤ (1000 + (Z 3 4)) - 309 ∧ (1000 + (Z 3 4)) - 309 ≤ 1004 by omega) (show Z 3 0 = 2 by omega) (show (Z 3 3 ≤ Z 3 2 ∧ Z 3 2 ≤ Z 3 1 ∧ (Z 3 4 = 0 ∨ Z 3 4 = 3 ∨ Z 3 3 < Z 3 2) ∧ (Z 3 4 = 3 ∨ Z 3 14 = 0)) by omega) (show ¬ Z 3 4 = 0 by omega) (show ¬ Z 3 4 = 3 by omega) (show Z 3 7 ≤ Z 3 3 by omega) hr
                obtain ⟨br42, b42⟩ := b42
                have b49 : 0 ≤ Z42 3 2 ∧ Z42 3 2 ≤ 900 := hG42.pr 3 2
                have b50 : 0 ≤ Z42 3 3 ∧ Z42 3 3 ≤ 900 := hG42.pr 3 3
                have b51 : 0 ≤ Z42 3 4 ∧ Z42 3 4 ≤ 400 := hG42.pr 3 4
                have b52 : 0 ≤ Z42 3 7 ∧ Z42 3 7 ≤ 900 := hG42.pr 3 7
                have eq53 : Z42 3 14 = Z 3 14 := (hf42 3 14 rfl)
                refine Jcv0 hx (show mx_Sn _ _ 137 (mx_callv 45 2 7 140) from sn_44 137) a3 s3 hc42 rfl rfl rfl ?_
                refine mx_J.step (sn_44 140) (fun _ _ => rfl) ?_
                have eq54 : Z42 3 0 = Z 3 0 := (hf42 3 0 rfl)
                have eq55 : Z42 3 14 = Z 3 14 := (hf42 3 14 rfl)
                exact c148 Z42 h42 (by omega) (by omega) (by omega) (RC_e br42 (at_w ((RC_w hr).1.mpr (by omega)).1 ((RC_w hr).1.mpr (by omega)).2 (by have q := (RC_w hr).2 (by omega) (by omega); omega))) hx42 hG42 (fr_tr (M := [(3, 2), (3, 3), (3, 4), (3, 5), (3, 7), (3, 14), (3, 15), (5, (-1))]) fr_rf (hf42) (M1 := []) rfl rfl)
          · skip
            refine mx_J.step (sn_44 94) (fun _ _ => rfl) ?_
            refine JcI (z := 1004) (show mx_Sn _ _ 95 (mx_const (.int 1004) 98) from sn_44 95) rfl ?_
            have b57 : 2 ≤ Z 3 0 ∧ Z 3 0 ≤ 4 := hG.pr 3 0
            have b58 : 0 ≤ Z 3 1 ∧ Z 3 1 ≤ 900 := hG.pr 3 1
            have b59 : 0 ≤ Z 3 2 ∧ Z 3 2 ≤ 900 := hG.pr 3 2
            have b60 : 0 ≤ Z 3 3 ∧ Z 3 3 ≤ 900 := hG.pr 3 3
            have b61 : 0 ≤ Z 3 7 ∧ Z 3 7 ≤ 900 := hG.pr 3 7
            have b62 : 0 ≤ Z 3 14 ∧ Z 3 14 ≤ 4 := hG.pr 3 14
            obtain ⟨Z56, h56, hc56, hx56, hG56, hf56, b56⟩ := ct_45_3 (T := T) (N := N) (sg := sg) (d := d + 0) (l := l) (D := D) (b0 := b0) (ad := ad) (Hb := Hb) (tau := tau) hx hG (show 1000 ≤ 1004 ∧ 1004 ≤ 1004 by omega) (show Z 3 0 = 2 by omega) (show (Z 3 3 ≤ Z 3 2 ∧ Z 3 2 ≤ Z 3 1 ∧ (Z 3 4 = 0 ∨ Z 3 4 = 3 ∨ Z 3 3 < Z 3 2) ∧ (Z 3 4 = 3 ∨ Z 3 14 = 0)) by omega) (show ¬ Z 3 4 = 0 by omega) (show ¬ Z 3 4 = 3 by omega) (show Z 3 7 ≤ Z 3 3 by omega) hr
            obtain ⟨br56, b56⟩ := b56
            have b63 : 0 ≤ Z56 3 2 ∧ Z56 3 2 ≤ 900 := hG56.pr 3 2
            have b64 : 0 ≤ Z56 3 3 ∧ Z56 3 3 ≤ 900 := hG56.pr 3 3
            have b65 : 0 ≤ Z56 3 4 ∧ Z56 3 4 ≤ 400 := hG56.pr 3 4
            have b66 : 0 ≤ Z56 3 7 ∧ Z56 3 7 ≤ 900 := hG56.pr 3 7
            have eq67 : Z56 3 14 = Z 3 14 := (hf56 3 14 rfl)
            refine Jcv0 hx (show mx_Sn _ _ 98 (mx_callv 45 2 7 101) from sn_44 98) a3 s3 hc56 rfl rfl rfl ?_
            refine mx_J.step (sn_44 101) (fun _ _ => rfl) ?_
            have eq68 : Z56 3 0 = Z 3 0 := (hf56 3 0 rfl)
            have eq69 : Z56 3 14 = Z 3 14 := (hf56 3 14 rfl)
            exact c148 Z56 h56 (by omega) (by omega) (by omega) (RC_e br56 (at_1 (RC_y (k := 1) (v := 301) hr (by unfold tKk; omega) rfl (by omega)))) hx56 hG56 (fr_tr (M := [(3, 2), (3, 3), (3, 4), (3, 5), (3, 7), (3, 14), (3, 15), (5, (-1))]) fr_rf (hf56) (M1 := []) rfl rfl)
        · skip
          refine mx_J.step (sn_44 66) (fun _ _ => rfl) ?_
          refine mx_J.step (sn_44 67) (fun _ _ => rfl) ?_
          have b71 : 2 ≤ Z 3 0 ∧ Z 3 0 ≤ 4 := hG.pr 3 0
          have b72 : 0 ≤ Z 3 1 ∧ Z 3 1 ≤ 900 := hG.pr 3 1
          have b73 : 0 ≤ Z 3 2 ∧ Z 3 2 ≤ 900 := hG.pr 3 2
          have b74 : 0 ≤ Z 3 3 ∧ Z 3 3 ≤ 900 := hG.pr 3 3
          have b75 : 0 ≤ Z 3 7 ∧ Z 3 7 ≤ 900 := hG.pr 3 7
          have b76 : 0 ≤ Z 3 14 ∧ Z 3 14 ≤ 4 := hG.pr 3 14
          obtain ⟨z70, Z70, h70, hc70, hx70, hG70, hf70, b70⟩ := ct_51_3 (T := T) (N := N) (sg := sg) (d := d + 0) (l := l) (D := D) (b0 := b0) (ad := ad) (Hb := Hb) (tau := tau) hx hG (show 0 ≤ x0 ∧ x0 ≤ 6 by omega) (show Z 3 0 = 2 by omega) (show (Z 3 3 ≤ Z 3 2 ∧ Z 3 2 ≤ Z 3 1 ∧ (Z 3 4 = 0 ∨ Z 3 4 = 3 ∨ Z 3 3 < Z 3 2) ∧ (Z 3 4 = 3 ∨ Z 3 14 = 0)) by omega) (show ¬ Z 3 4 = 0 by omega) (show ¬ Z 3 4 = 3 by omega) hr
          obtain ⟨br70, b70⟩ := b70
          have b77 : 0 ≤ Z70 3 2 ∧ Z70 3 2 ≤ 900 := hG70.pr 3 2
          have b78 : 0 ≤ Z70 3 3 ∧ Z70 3 3 ≤ 900 := hG70.pr 3 3
          have b79 : 0 ≤ Z70 3 4 ∧ Z70 3 4 ≤ 400 := hG70.pr 3 4
          have eq80 : Z70 3 7 = Z 3 7 := (hf70 3 7 rfl)
          have b81 : 0 ≤ Z70 3 14 ∧ Z70 3 14 ≤ 4 := hG70.pr 3 14
          refine Jcv hx (show mx_Sn _ _ 68 (mx_callv 51 2 7 71) from sn_44 68) a3 s3 hc70 rfl rfl rfl ?_
          refine Jif_eq (show mx_Sn _ _ 71 (mx_if_eq 148 74) from sn_44 71) (by omega) (fun q82 => ?_) (fun q82 => ?_)
          · skip
            have eq83 : Z70 3 0 = Z 3 0 := (hf70 3 0 rfl)
            have eq84 : Z70 3 7 = Z 3 7 := (hf70 3 7 rfl)
            have eq85 : Z70 3 7 = Z 3 7 := (hf70 3 7 rfl)
            exact c148 Z70 h70 (by omega) (by omega) (by omega) (RC_e br70 (((at_i (RC_y (k := 5) (v := 305) hr (by unfold tKk; omega) rfl (by omega))).trans (in_n (by omega))).trans (gEn_n (by omega)).symm)) hx70 hG70 (fr_tr (M := [(3, 2), (3, 3), (3, 4), (3, 5), (3, 7), (3, 14), (3, 15), (5, (-1))]) fr_rf (hf70) (M1 := []) rfl rfl)
          · skip
            have rc86 : RC T N Z70 (gAd T N sg) := RC_e br70 ((gEn_y (by omega)).symm)
            refine mx_J.step (sn_44 74) (fun _ _ => rfl) ?_
            refine mx_J.step (sn_44 75) (fun _ _ => rfl) ?_
            refine JcI (z := 1) (show mx_Sn _ _ 76 (mx_const (.int 1) 77) from sn_44 76) rfl ?_
            refine Jiadd (show mx_Sn _ _ 77 (mx_iadd 78) from sn_44 77) ?_
            have eq88 : Z70 3 0 = Z 3 0 := (hf70 3 0 rfl)
            have eq89 : Z70 3 1 = Z 3 1 := (hf70 3 1 rfl)
            have eq90 : Z70 3 7 = Z 3 7 := (hf70 3 7 rfl)
            obtain ⟨Z87, h87, hc87, hx87, hG87, hf87, b87⟩ := riR_46 IH (by omega) (hd := by omega) (T := T) (N := N) (sg := gAd T N sg) (d := d + 7) (l := l) (D := D) (b0 := b0) (ad := ad) (Hb := Hb) (tau := tau) hx70 hG70 (show 1 ≤ x0 + 1 ∧ x0 + 1 ≤ 6 by omega) (show Z70 3 0 = 2 by first | omega | (simp only [eq88, eq89, eq90]; omega)) (show (Z70 3 3 ≤ Z70 3 2 ∧ Z70 3 2 ≤ Z70 3 1 ∧ (Z70 3 4 = 0 ∨ Z70 3 4 = 3 ∨ Z70 3 3 < Z70 3 2) ∧ (Z70 3 4 = 3 ∨ Z70 3 14 = 0)) by first | omega | (simp only [eq88, eq89, eq90]; omega)) (show Z70 3 7 ≤ Z70 3 3 by first | omega | (simp only [eq88, eq89, eq90]; omega)) rc86
            try rw [eq88] at b87
            try rw [eq89] at b87
            try rw [eq90] at b87
            obtain ⟨br87, b87⟩ := b87
            have b91 : 0 ≤ Z87 3 2 ∧ Z87 3 2 ≤ 900 := hG87.pr 3 2
            have b92 : 0 ≤ Z87 3 3 ∧ Z87 3 3 ≤ 900 := hG87.pr 3 3
            have b93 : 0 ≤ Z87 3 4 ∧ Z87 3 4 ≤ 400 := hG87.pr 3 4
            have b94 : 0 ≤ Z87 3 7 ∧ Z87 3 7 ≤ 900 := hG87.pr 3 7
            have b95 : 0 ≤ Z87 3 14 ∧ Z87 3 14 ≤ 4 := hG87.pr 3 14
            refine Jcv0 hx70 (show mx_Sn _ _ 78 (mx_callv 46 2 7 81) from sn_44 78) a3 s3 hc87 rfl rfl rfl ?_
            refine mx_J.step (sn_44 81) (fun _ _ => rfl) ?_
            have eq96 : Z87 3 0 = Z 3 0 := ((hf87 3 0 rfl).trans (hf70 3 0 rfl))
            exact c148 Z87 h87 (by omega) (by omega) (by omega) (RC_e br87 ((at_i (RC_y (k := 5) (v := 305) hr (by unfold tKk; omega) rfl (by omega))).trans (in_y (by omega)))) hx87 hG87 (fr_tr (M := [(3, 2), (3, 3), (3, 4), (3, 5), (3, 7), (3, 14), (3, 15), (5, (-1))]) (fr_tr (M := [(3, 2), (3, 3), (3, 4), (3, 5), (3, 7), (3, 14), (3, 15), (5, (-1))]) fr_rf (hf70) (M1 := []) rfl rfl) (hf87) rfl rfl)
      · skip
        refine mx_J.step (sn_44 32) (fun _ _ => rfl) ?_
        refine mx_J.step (sn_44 33) (fun _ _ => rfl) ?_
        have b98 : 2 ≤ Z 3 0 ∧ Z 3 0 ≤ 4 := hG.pr 3 0
        have b99 : 0 ≤ Z 3 1 ∧ Z 3 1 ≤ 900 := hG.pr 3 1
        have b100 : 0 ≤ Z 3 2 ∧ Z 3 2 ≤ 900 := hG.pr 3 2
        have b101 : 0 ≤ Z 3 3 ∧ Z 3 3 ≤ 900 := hG.pr 3 3
        have b102 : 0 ≤ Z 3 7 ∧ Z 3 7 ≤ 900 := hG.pr 3 7
        have b103 : 0 ≤ Z 3 14 ∧ Z 3 14 ≤ 4 := hG.pr 3 14
        obtain ⟨z97, Z97, h97, hc97, hx97, hG97, hf97, b97⟩ := ct_51_3 (T := T) (N := N) (sg := sg) (d := d + 0) (l := l) (D := D) (b0 := b0) (ad := ad) (Hb := Hb) (tau := tau) hx hG (show 0 ≤ x0 ∧ x0 ≤ 6 by omega) (show Z 3 0 = 2 by omega) (show (Z 3 3 ≤ Z 3 2 ∧ Z 3 2 ≤ Z 3 1 ∧ (Z 3 4 = 0 ∨ Z 3 4 = 3 ∨ Z 3 3 < Z 3 2) ∧ (Z 3 4 = 3 ∨ Z 3 14 = 0)) by omega) (show ¬ Z 3 4 = 0 by omega) (show ¬ Z 3 4 = 3 by omega) hr
        obtain ⟨br97, b97⟩ := b97
        have b104 : 0 ≤ Z97 3 2 ∧ Z97 3 2 ≤ 900 := hG97.pr 3 2
        have b105 : 0 ≤ Z97 3 3 ∧ Z97 3 3 ≤ 900 := hG97.pr 3 3
        have b106 : 0 ≤ Z97 3 4 ∧ Z97 3 4 ≤ 400 := hG97.pr 3 4
        have eq107 : Z97 3 7 = Z 3 7 := (hf97 3 7 rfl)
        have b108 : 0 ≤ Z97 3 14 ∧ Z97 3 14 ≤ 4 := hG97.pr 3 14
        refine Jcv hx (show mx_Sn _ _ 34 (mx_callv 51 2 7 37) from sn_44 34) a3 s3 hc97 rfl rfl rfl ?_
        refine Jif_eq (show mx_Sn _ _ 37 (mx_if_eq 148 40) from sn_44 37) (by omega) (fun q109 => ?_) (fun q109 => ?_)
        · skip
          have eq110 : Z97 3 0 = Z 3 0 := (hf97 3 0 rfl)
          have eq111 : Z97 3 7 = Z 3 7 := (hf97 3 7 rfl)
          have eq112 : Z97 3 7 = Z 3 7 := (hf97 3 7 rfl)
          exact c148 Z97 h97 (by omega) (by omega) (by omega) (RC_e br97 (((at_o (RC_y (k := 35) (v := 40) hr (by unfold tKk; omega) rfl (by omega))).trans (in_n (by omega))).trans (gEn_n (by omega)).symm)) hx97 hG97 (fr_tr (M := [(3, 2), (3, 3), (3, 4), (3, 5), (3, 7), (3, 14), (3, 15), (5, (-1))]) fr_rf (hf97) (M1 := []) rfl rfl)
        · skip
          have rc113 : RC T N Z97 (gAd T N sg) := RC_e br97 ((gEn_y (by omega)).symm)
          refine mx_J.step (sn_44 40) (fun _ _ => rfl) ?_
          refine mx_J.step (sn_44 41) (fun _ _ => rfl) ?_
          refine JcI (z := 1) (show mx_Sn _ _ 42 (mx_const (.int 1) 43) from sn_44 42) rfl ?_
          refine Jiadd (show mx_Sn _ _ 43 (mx_iadd 44) from sn_44 43) ?_
          have eq115 : Z97 3 0 = Z 3 0 := (hf97 3 0 rfl)
          have eq116 : Z97 3 1 = Z 3 1 := (hf97 3 1 rfl)
          have eq117 : Z97 3 7 = Z 3 7 := (hf97 3 7 rfl)
          obtain ⟨Z114, h114, hc114, hx114, hG114, hf114, b114⟩ := riR_42 IH (by omega) (hd := by omega) (T := T) (N := N) (sg := gAd T N sg) (d := d + 7) (l := l) (D := D) (b0 := b0) (ad := ad) (Hb := Hb) (tau := tau) hx97 hG97 (show 1 ≤ x0 + 1 ∧ x0 + 1 ≤ 6 by omega) (show Z97 3 0 = 2 by first | omega | (simp only [eq115, eq116, eq117]; omega)) (show (Z97 3 3 ≤ Z97 3 2 ∧ Z97 3 2 ≤ Z97 3 1 ∧ (Z97 3 4 = 0 ∨ Z97 3 4 = 3 ∨ Z97 3 3 < Z97 3 2) ∧ (Z97 3 4 = 3 ∨ Z97 3 14 = 0)) by first | omega | (simp only [eq115, eq116, eq117]; omega)) (show Z97 3 7 ≤ Z97 3 3 by first | omega | (simp only [eq115, eq116, eq117]; omega)) rc113
          try rw [eq115] at b114
          try rw [eq116] at b114
          try rw [eq117] at b114
          obtain ⟨br114, b114⟩ := b114
          have b118 : 0 ≤ Z114 3 2 ∧ Z114 3 2 ≤ 900 := hG114.pr 3 2
          have b119 : 0 ≤ Z114 3 3 ∧ Z114 3 3 ≤ 900 := hG114.pr 3 3
          have b120 : 0 ≤ Z114 3 4 ∧ Z114 3 4 ≤ 400 := hG114.pr 3 4
          have b121 : 0 ≤ Z114 3 7 ∧ Z114 3 7 ≤ 900 := hG114.pr 3 7
          have b122 : 0 ≤ Z114 3 14 ∧ Z114 3 14 ≤ 4 := hG114.pr 3 14
          refine Jcv0 hx97 (show mx_Sn _ _ 44 (mx_callv 42 2 7 47) from sn_44 44) a3 s3 hc114 rfl rfl rfl ?_
          refine mx_J.step (sn_44 47) (fun _ _ => rfl) ?_
          refine JcI (z := 41) (show mx_Sn _ _ 48 (mx_const (.int 41) 50) from sn_44 48) rfl ?_
          have eq124 : Z114 3 0 = Z 3 0 := ((hf114 3 0 rfl).trans (hf97 3 0 rfl))
          have eq125 : Z114 3 1 = Z 3 1 := ((hf114 3 1 rfl).trans (hf97 3 1 rfl))
          obtain ⟨Z123, h123, hc123, hx123, hG123, hf123, b123⟩ := ct_53_3_i41 (T := T) (N := N) (sg := smX T N (lvI T N (x0 + 1)) (gAd T N sg)) (d := d + 0) (l := l) (D := D) (b0 := b0) (ad := ad) (Hb := Hb) (tau := tau) hx114 hG114  (show Z114 3 0 = 2 by first | omega | (simp only [eq124, eq125]; omega)) (show (Z114 3 3 ≤ Z114 3 2 ∧ Z114 3 2 ≤ Z114 3 1 ∧ (Z114 3 4 = 0 ∨ Z114 3 4 = 3 ∨ Z114 3 3 < Z114 3 2) ∧ (Z114 3 4 = 3 ∨ Z114 3 14 = 0)) by first | omega | (simp only [eq124, eq125]; omega)) br114
          try rw [eq124] at b123
          try rw [eq125] at b123
          obtain ⟨br123, b123⟩ := b123
          have b126 : 0 ≤ Z123 3 2 ∧ Z123 3 2 ≤ 900 := hG123.pr 3 2
          have b127 : 0 ≤ Z123 3 3 ∧ Z123 3 3 ≤ 900 := hG123.pr 3 3
          have b128 : 0 ≤ Z123 3 4 ∧ Z123 3 4 ≤ 400 := hG123.pr 3 4
          have eq129 : Z123 3 7 = Z114 3 7 := (hf123 3 7 rfl)
          have b130 : 0 ≤ Z123 3 14 ∧ Z123 3 14 ≤ 4 := hG123.pr 3 14
          refine Jcv0 hx114 (show mx_Sn _ _ 50 (mx_callv 53 2 7 53) from sn_44 50) a3 s3 hc123 rfl rfl rfl ?_
          refine mx_J.step (sn_44 53) (fun _ _ => rfl) ?_
          have eq131 : Z123 3 0 = Z 3 0 := ((hf123 3 0 rfl).trans ((hf114 3 0 rfl).trans (hf97 3 0 rfl)))
          have eq132 : Z123 3 7 = Z114 3 7 := (hf123 3 7 rfl)
          have eq133 : Z123 3 7 = Z114 3 7 := (hf123 3 7 rfl)
          exact c148 Z123 h123 (by omega) (by omega) (by omega) (RC_e br123 ((at_o (RC_y (k := 35) (v := 40) hr (by unfold tKk; omega) rfl (by omega))).trans (in_y (by omega)))) hx123 hG123 (fr_tr (M := [(3, 2), (3, 3), (3, 4), (3, 5), (3, 7), (3, 14), (3, 15), (5, (-1))]) (fr_tr (M := [(3, 2), (3, 3), (3, 4), (3, 5), (3, 7), (3, 14), (3, 15), (5, (-1))]) (fr_tr (M := [(3, 2), (3, 3), (3, 4), (3, 5), (3, 7), (3, 14), (3, 15), (5, (-1))]) fr_rf (hf97) (M1 := []) rfl rfl) (hf114) rfl rfl) (hf123) rfl rfl)
    · skip
      refine mx_J.step (sn_44 8) (fun _ _ => rfl) ?_
      refine mx_J.step (sn_44 9) (fun _ _ => rfl) ?_
      refine JcI (z := 0) (show mx_Sn _ _ 10 (mx_const (.int 0) 11) from sn_44 10) rfl ?_
      refine JcI (z := 999) (show mx_Sn _ _ 11 (mx_const (.int 999) 14) from sn_44 11) rfl ?_
      have b135 : 2 ≤ Z 3 0 ∧ Z 3 0 ≤ 4 := hG.pr 3 0
      have b136 : 0 ≤ Z 3 1 ∧ Z 3 1 ≤ 900 := hG.pr 3 1
      have b137 : 0 ≤ Z 3 2 ∧ Z 3 2 ≤ 900 := hG.pr 3 2
      have b138 : 0 ≤ Z 3 3 ∧ Z 3 3 ≤ 900 := hG.pr 3 3
      have b139 : 0 ≤ Z 3 7 ∧ Z 3 7 ≤ 900 := hG.pr 3 7
      have b140 : 0 ≤ Z 3 14 ∧ Z 3 14 ≤ 4 := hG.pr 3 14
      obtain ⟨z134, Z134, h134, hc134, hx134, hG134, hf134, b134⟩ := ct_54_3 (T := T) (N := N) (sg := sg) (d := d + 0) (l := l) (D := D) (b0 := b0) (ad := ad) (Hb := Hb) (tau := tau) hx hG (show 0 ≤ 0 ∧ 0 ≤ 1 by omega) (show 0 ≤ 999 ∧ 999 ≤ 999 by omega) (show Z 3 0 = 2 by omega) (show (Z 3 3 ≤ Z 3 2 ∧ Z 3 2 ≤ Z 3 1 ∧ (Z 3 4 = 0 ∨ Z 3 4 = 3 ∨ Z 3 3 < Z 3 2) ∧ (Z 3 4 = 3 ∨ Z 3 14 = 0)) by omega) hr
      obtain ⟨br134, b134⟩ := b134
      obtain ⟨bs134_0, b134⟩ := b134
      have b141 : 0 ≤ Z134 3 2 ∧ Z134 3 2 ≤ 900 := hG134.pr 3 2
      have b142 : 0 ≤ Z134 3 3 ∧ Z134 3 3 ≤ 900 := hG134.pr 3 3
      have b143 : 0 ≤ Z134 3 4 ∧ Z134 3 4 ≤ 400 := hG134.pr 3 4
      have eq144 : Z134 3 7 = Z 3 7 := (hf134 3 7 rfl)
      have b145 : 0 ≤ Z134 3 14 ∧ Z134 3 14 ≤ 4 := hG134.pr 3 14
      refine Jcv hx (show mx_Sn _ _ 14 (mx_callv 54 3 7 17) from sn_44 14) a3 s3 hc134 rfl rfl rfl ?_
      have eq147 : Z134 3 7 = Z 3 7 := (hf134 3 7 rfl)
      obtain ⟨Z146, h146, hc146, hx146, hG146, hf146, b146⟩ := ct_52_3_0 (T := T) (N := N) (sg := gTk T N 0 999 sg) (d := d + 6) (l := l) (D := D) (b0 := b0) (ad := ad) (Hb := Hb) (tau := tau) hx134 hG134 (show 0 ≤ z134 ∧ z134 ≤ 1004 by omega) (show (Z134 3 4 = 3 ∨ Z134 3 7 ≤ 899) by first | omega | (simp only [eq147]; omega)) br134
      try rw [eq147] at b146
      obtain ⟨br146, b146⟩ := b146
      have b148 : 0 ≤ Z146 3 7 ∧ Z146 3 7 ≤ 900 := hG146.pr 3 7
      refine Jcv0 hx134 (show mx_Sn _ _ 17 (mx_callv 52 2 7 20) from sn_44 17) a3 s3 hc146 rfl rfl rfl ?_
      refine mx_J.step (sn_44 20) (fun _ _ => rfl) ?_
      have eq149 : Z146 3 0 = Z 3 0 := ((hf146 3 0 rfl).trans (hf134 3 0 rfl))
      have eq150 : Z146 3 2 = Z134 3 2 := (hf146 3 2 rfl)
      have eq151 : Z146 3 3 = Z134 3 3 := (hf146 3 3 rfl)
      have eq152 : Z146 3 4 = Z134 3 4 := (hf146 3 4 rfl)
      have eq153 : Z146 3 14 = Z134 3 14 := (hf146 3 14 rfl)
      have eq154 : Z146 3 3 = Z134 3 3 := (hf146 3 3 rfl)
      have eq155 : Z146 3 3 = Z134 3 3 := (hf146 3 3 rfl)
      have eq156 : Z146 3 4 = Z134 3 4 := (hf146 3 4 rfl)
      exact c148 Z146 h146 (by omega) (by omega) (by omega) (RC_e br146 ((at_d (RC_y (k := 23) (v := 1) hr (by unfold tKk; omega) rfl (by omega))).trans (gEm_z (by assumption)))) hx146 hG146 (fr_tr (M := [(3, 2), (3, 3), (3, 4), (3, 5), (3, 7), (3, 14), (3, 15), (5, (-1))]) (fr_tr (M := [(3, 2), (3, 3), (3, 4), (3, 5), (3, 7), (3, 14), (3, 15), (5, (-1))]) fr_rf (hf134) (M1 := []) rfl rfl) (hf146) rfl rfl)
theorem ct_44_3_s {l : Launch} {D : va_G} {b0 : Nat} {ad : Nat → Nat} {Hb : Heap} {tau : Nat → Int64} {d n s : Nat} {S : Nat → xS} {Z : xZ} {h : mx_H} {T : Int → Int} {N : Int} {sg : SS} (hx : XH n s S Z h) (hG : GI n S Z)  {x0 : Int} (p0 : 0 ≤ x0 ∧ x0 ≤ 6) (k0 : Z 3 0 = 2) (k1 : (Z 3 3 ≤ Z 3 2 ∧ Z 3 2 ≤ Z 3 1 ∧ (Z 3 4 = 0 ∨ Z 3 4 = 3 ∨ Z 3 3 < Z 3 2) ∧ (Z 3 4 = 3 ∨ Z 3 14 = 0))) (k2 : Z 3 7 ≤ Z 3 3) (hr : RC T N Z sg) {kk : Nat} (IH : RBdh l D b0 ad Hb tau kk x0) (hd : kk ≤ d) : ∃ (Z' : xZ) (h' : mx_H), mx_Ca (tB l D b0 ad Hb tau) (d + 8) 44 [.ref 3, xI x0] h (none, h') ∧ XH n s S Z' h' ∧ GI n S Z' ∧ fr' [(3, 2), (3, 3), (3, 4), (3, 5), (3, 7), (3, 14), (3, 15), (5, (-1))] Z Z' ∧ (RC T N Z' (atX T N (lvI T N x0) sg) ∧ ((Z' 3 3 ≤ Z' 3 2 ∧ Z' 3 2 ≤ Z 3 1 ∧ (Z' 3 4 = 0 ∨ Z' 3 4 = 3 ∨ Z' 3 3 < Z' 3 2) ∧ (Z' 3 4 = 3 ∨ Z' 3 14 = 0)) ∧ Z 3 3 ≤ Z' 3 3 ∧ Z' 3 7 - Z 3 7 ≤ Z' 3 3 - Z 3 3 ∧ (Z' 3 4 = 3 ∨ Z 3 3 + 1 ≤ Z' 3 3) ∧ (Z 3 4 = 3 → Z' 3 4 = 3))) := by
  obtain ⟨r, hca, Z', h', e, q⟩ := Jmt (B := tB l D b0 ad Hb tau) (M := mt_44) (mi := 44) (as := [.ref 3, xI x0]) (d := d + 7) (ls := [some (.ref 3), some (xI x0)]) rfl rfl rfl rfl rfl rfl (cw_44_3_s (l := l) (D := D) (b0 := b0) (ad := ad) (Hb := Hb) (tau := tau) (d := d) (Post := fun r => ∃ (Z' : xZ) (h' : mx_H), r = (none, h') ∧ XH n s S Z' h' ∧ GI n S Z' ∧ fr' [(3, 2), (3, 3), (3, 4), (3, 5), (3, 7), (3, 14), (3, 15), (5, (-1))] Z Z' ∧ (RC T N Z' (atX T N (lvI T N x0) sg) ∧ ((Z' 3 3 ≤ Z' 3 2 ∧ Z' 3 2 ≤ Z 3 1 ∧ (Z' 3 4 = 0 ∨ Z' 3 4 = 3 ∨ Z' 3 3 < Z' 3 2) ∧ (Z' 3 4 = 3 ∨ Z' 3 14 = 0)) ∧ Z 3 3 ≤ Z' 3 3 ∧ Z' 3 7 - Z 3 7 ≤ Z' 3 3 - Z 3 3 ∧ (Z' 3 4 = 3 ∨ Z 3 3 + 1 ≤ Z' 3 3) ∧ (Z 3 4 = 3 → Z' 3 4 = 3)))) hx hG p0 k0 k1 k2 hr IH hd (fun Z' h' q1 q2 q3 q4 => ⟨Z', h', rfl, q1, q2, q3, q4⟩))
  subst e; exact ⟨Z', h', hca, q⟩
