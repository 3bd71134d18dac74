set_option maxRecDepth 100000 in
theorem cw_130_1_i3 {l : Launch} {D : va_G} {b0 : Nat} {ad : Nat → Nat} {Hb : Heap} {tau : Nat → Int64} {d n s : Nat} {S : Nat → xS} {Z : xZ} {h : mx_H} {Post : mx_R → Prop} (hx : XH n s S Z h) (hG : GI n S Z)  {x1 : Int} (p1 : (-2147483648) ≤ x1 ∧ x1 ≤ 2147483647) (hP : ∀ (z : Int) (Z' : xZ) (h' : mx_H), XH n s S Z' h' → GI n S Z' → fr' [(51, (-1))] Z Z' → (-6) ≤ z ∧ z ≤ 18 → Post (some (xI z), h')) : mx_J (tB l D b0 ad Hb tau) mt_130 (d + 2) 0 [some (.ref 1), some (xI 3), some (xI x1), none, none] [] h Post := by
    have a1 : 1 < n := lt83 (GI_n hG) rfl
    have s1 : S 1 = .inl (11, [2, 0, 0, 0, 2, 2, 2, 2, 2, 2, 2, 2, 2, 2, 2, 2, 2]) := GI_s hG 1 rfl
    have a7 : 7 < n := lt83 (GI_n hG) rfl
    have s7 : S 7 = .inl (0, [2, 2, 2, 2, 0, 0]) := GI_s hG 7 rfl
    have a34 : 34 < n := lt83 (GI_n hG) rfl
    have s34 : S 34 = .inr ((.object "TitheHeap$Tray"), 4, 2) := GI_s hG 34 rfl
    have a50 : 50 < n := lt83 (GI_n hG) rfl
    have s50 : S 50 = .inl (10, [2, 0, 0, 0]) := GI_s hG 50 rfl
    refine mx_J.step (sn_130 0) (fun _ _ => rfl) ?_
    refine mx_J.step (sn_130 1) (fun _ _ => rfl) ?_
    obtain ⟨z1, hc1, b1⟩ := ct_144_1_y (d := d + 1) (l := l) (D := D) (b0 := b0) (ad := ad) (Hb := Hb) (tau := tau) hx hG (show 0 ≤ 3 ∧ 3 ≤ 3 by omega)
    refine Jcv hx (show mx_Sn _ _ 2 (mx_callv 144 2 11 5) from sn_130 2) a1 s1 hc1 rfl rfl rfl ?_
    refine Jif_eq (show mx_Sn _ _ 5 (mx_if_eq 11 8) from sn_130 5) (by omega) (fun q2 => ?_) (fun q2 => ?_)
    · skip
      refine mx_J.step (sn_130 11) (fun _ _ => rfl) ?_
      refine JgetR (g := 10) (b := 34) hx (show mx_Sn _ _ 12 (mx_getf 11 10 15) from sn_130 12) a1 s1 rfl rfl (hG.prr 1 10 rfl) ?_
      refine mx_J.step (sn_130 15) (fun _ _ => rfl) ?_
      refine JaaldR (i := 3) (b := 50) hx (show mx_Sn _ _ 16 (mx_aald 17) from sn_130 16) a34 s34 (by omega) (show Z 34 3 = 50 by have hq := GI_ex hG 34 3; replace hq : ((0 : Int) ≤ 3 → (3 : Int) ≤ 3 → (Z 34 3) = 44 + 2 * 3) := hq; omega) ?_
      have b5 : 0 ≤ Z 50 3 ∧ Z 50 3 ≤ 1 := hG.pr 50 3
      refine JgetI (g := 3) (z := Z 50 3) hx (show mx_Sn _ _ 17 (mx_getf 10 3 20) from sn_130 17) a50 s50 rfl rfl rfl ?_
      refine Jif_eq (show mx_Sn _ _ 20 (mx_if_eq 26 23) from sn_130 20) (by omega) (fun q6 => ?_) (fun q6 => ?_)
      · skip
        refine mx_J.step (sn_130 26) (fun _ _ => rfl) ?_
        have c41 : mx_J (tB l D b0 ad Hb tau) mt_130 (d + 2) 41 [some (.ref 1), some (xI 3), some (xI x1), none, none] [] h Post := by
          refine JcI (z := (-3)) (show mx_Sn _ _ 41 (mx_const (.int (-3)) 43) from sn_130 41) rfl ?_
          exact mx_J.ret (sn_130 43) (fun _ _ => rfl) (hP (-3) Z h hx hG fr_rf (by omega))
        refine Jif_lt (show mx_Sn _ _ 27 (mx_if_lt 41 30) from sn_130 27) (by omega) (fun q8 => ?_) (fun q8 => ?_)
        · skip
          exact c41 
        · skip
          refine mx_J.step (sn_130 30) (fun _ _ => rfl) ?_
          refine mx_J.step (sn_130 31) (fun _ _ => rfl) ?_
          refine JgetR (g := 5) (b := 7) hx (show mx_Sn _ _ 32 (mx_getf 11 5 35) from sn_130 32) a1 s1 rfl rfl (hG.prr 1 5 rfl) ?_
          have b11 : 0 ≤ Z 7 5 ∧ Z 7 5 ≤ 385 := hG.pr 7 5
          refine JgetI (g := 5) (z := Z 7 5) hx (show mx_Sn _ _ 35 (mx_getf 0 5 38) from sn_130 35) a7 s7 rfl rfl rfl ?_
          refine Jicmp_lt (show mx_Sn _ _ 38 (mx_icmp_lt 44 41) from sn_130 38) (by omega) (by omega) (fun q12 => ?_) (fun q12 => ?_)
          · skip
            refine mx_J.step (sn_130 44) (fun _ _ => rfl) ?_
            refine JgetR (g := 5) (b := 7) hx (show mx_Sn _ _ 45 (mx_getf 11 5 48) from sn_130 45) a1 s1 rfl rfl (hG.prr 1 5 rfl) ?_
            refine mx_J.step (sn_130 48) (fun _ _ => rfl) ?_
            have b15 : 0 ≤ Z 7 5 ∧ Z 7 5 ≤ 385 := hG.pr 7 5
            have b16 : 0 ≤ Z 10 x1 ∧ Z 10 x1 ≤ 18 := hG.pr 10 x1
            obtain ⟨z14, hc14, b14⟩ := ct_5_7 (d := d + 1) (l := l) (D := D) (b0 := b0) (ad := ad) (Hb := Hb) (tau := tau) hx hG (show (-2147483648) ≤ x1 ∧ x1 ≤ 2147483647 by omega)
            refine Jcv hx (show mx_Sn _ _ 49 (mx_callv 5 2 0 52) from sn_130 49) a7 s7 hc14 rfl rfl rfl ?_
            refine mx_J.step (sn_130 52) (fun _ _ => rfl) ?_
            refine JgetR (g := 10) (b := 34) hx (show mx_Sn _ _ 53 (mx_getf 11 10 56) from sn_130 53) a1 s1 rfl rfl (hG.prr 1 10 rfl) ?_
            refine mx_J.step (sn_130 56) (fun _ _ => rfl) ?_
            refine JaaldR (i := 3) (b := 50) hx (show mx_Sn _ _ 57 (mx_aald 58) from sn_130 57) a34 s34 (by omega) (show Z 34 3 = 50 by have hq := GI_ex hG 34 3; replace hq : ((0 : Int) ≤ 3 → (3 : Int) ≤ 3 → (Z 34 3) = 44 + 2 * 3) := hq; omega) ?_
            have b19 : 0 ≤ Z 50 2 ∧ Z 50 2 ≤ 40 := hG.pr 50 2
            refine JgetI (g := 2) (z := Z 50 2) hx (show mx_Sn _ _ 58 (mx_getf 10 2 61) from sn_130 58) a50 s50 rfl rfl rfl ?_
            refine Jmmin (show mx_Sn _ _ 61 (mx_mmin 64) from sn_130 61) (by omega) (by omega) ⟨_, rfl⟩ rfl (fun y20 hy20 => ?_)
            refine mx_J.step (ls2 := [some (.ref 1), some (xI 3), some (xI x1), some (xI y20), none]) (sn_130 64) (fun _ _ => rfl) ?_
            refine JcI (z := 0) (show mx_Sn _ _ 65 (mx_const (.int 0) 66) from sn_130 65) rfl ?_
            refine mx_J.step (ls2 := [some (.ref 1), some (xI 3), some (xI x1), some (xI y20), some (xI 0)]) (sn_130 66) (fun _ _ => rfl) ?_
            have c68 : ∀ (m21 : Nat) (w21_4 : Int) (Z22 : xZ) (h22 : mx_H), 18 - w21_4 < (m21 : Int) → 0 ≤ w21_4 ∧ w21_4 ≤ 18 → XH n s S Z22 h22 → GI n S Z22 → fr' [(51, (-1))] Z Z22 → mx_J (tB l D b0 ad Hb tau) mt_130 (d + 2) 68 [some (.ref 1), some (xI 3), some (xI x1), some (xI y20), some (xI w21_4)] [] h22 Post := by
              intro m21
              induction m21 with
              | zero => intro w21_4 Z22 h22 q21 f21_0 hx22 hG22 hf22; exact absurd q21 (by omega)
              | succ m21 ih21 =>
                intro w21_4 Z22 h22 q21 f21_0 hx22 hG22 hf22
                refine mx_J.step (sn_130 68) (fun _ _ => rfl) ?_
                refine mx_J.step (sn_130 70) (fun _ _ => rfl) ?_
                refine Jicmp_ge (show mx_Sn _ _ 71 (mx_icmp_ge 102 74) from sn_130 71) (by omega) (by omega) (fun q23 => ?_) (fun q23 => ?_)
                · skip
                  refine mx_J.step (sn_130 102) (fun _ _ => rfl) ?_
                  exact mx_J.ret (sn_130 103) (fun _ _ => rfl) (hP y20 Z22 h22 hx22 hG22 (fr_tr (M := [(51, (-1))]) fr_rf (hf22) (M1 := []) rfl rfl) (by omega))
                · skip
                  refine mx_J.step (sn_130 74) (fun _ _ => rfl) ?_
                  refine JgetR (g := 10) (b := 34) hx22 (show mx_Sn _ _ 75 (mx_getf 11 10 78) from sn_130 75) a1 s1 rfl rfl (hG22.prr 1 10 rfl) ?_
                  refine mx_J.step (sn_130 78) (fun _ _ => rfl) ?_
                  refine JaaldR (i := 3) (b := 50) hx22 (show mx_Sn _ _ 79 (mx_aald 80) from sn_130 79) a34 s34 (by omega) (show Z22 34 3 = 50 by have hq := GI_ex hG22 34 3; replace hq : ((0 : Int) ≤ 3 → (3 : Int) ≤ 3 → (Z22 34 3) = 44 + 2 * 3) := hq; omega) ?_
                  refine mx_J.step (sn_130 80) (fun _ _ => rfl) ?_
                  refine mx_J.step (sn_130 82) (fun _ _ => rfl) ?_
                  refine JgetR (g := 5) (b := 7) hx22 (show mx_Sn _ _ 83 (mx_getf 11 5 86) from sn_130 83) a1 s1 rfl rfl (hG22.prr 1 5 rfl) ?_
                  refine mx_J.step (sn_130 86) (fun _ _ => rfl) ?_
                  refine mx_J.step (sn_130 87) (fun _ _ => rfl) ?_
                  have eq27 : Z22 9 (x1 * 18 + w21_4) = Z 9 (x1 * 18 + w21_4) := (hf22 9 (x1 * 18 + w21_4) rfl)
                  have b28 : 0 ≤ Z 9 (x1 * 18 + w21_4) ∧ Z 9 (x1 * 18 + w21_4) ≤ 18 := hG.pr 9 (x1 * 18 + w21_4)
                  have eq29 : Z22 10 x1 = Z 10 x1 := (hf22 10 x1 rfl)
                  have b30 : 0 ≤ Z 10 x1 ∧ Z 10 x1 ≤ 18 := hG.pr 10 x1
                  have eq31 : Z22 7 5 = Z 7 5 := (hf22 7 5 rfl)
                  have b32 : 0 ≤ Z 7 5 ∧ Z 7 5 ≤ 385 := hG.pr 7 5
                  obtain ⟨z26, hc26, b26⟩ := ct_6_7 (d := d + 0) (l := l) (D := D) (b0 := b0) (ad := ad) (Hb := Hb) (tau := tau) hx22 hG22 (show (-2147483648) ≤ x1 ∧ x1 ≤ 2147483647 by omega) (show (-2147483648) ≤ w21_4 ∧ w21_4 ≤ 2147483647 by omega)
                  try rw [eq27] at b26
                  try rw [eq29] at b26
                  try rw [eq31] at b26
                  refine Jcv hx22 (show mx_Sn _ _ 89 (mx_callv 6 3 0 92) from sn_130 89) a7 s7 hc26 rfl rfl rfl ?_
                  refine Ji2l (show mx_Sn _ _ 92 (mx_i2l 93) from sn_130 92) (by omega) ?_
                  have eq34 : Z22 50 1 = Z 50 1 := (hf22 50 1 rfl)
                  have b35 : 0 ≤ Z 50 1 ∧ Z 50 1 ≤ 3 := hG.pr 50 1
                  obtain ⟨Z33, h33, hc33, hx33, hG33, hf33, b33⟩ := ct_84_50 (d := d + 1) (l := l) (D := D) (b0 := b0) (ad := ad) (Hb := Hb) (tau := tau) hx22 hG22 (show (-2147483648) ≤ w21_4 ∧ w21_4 ≤ 2147483647 by omega) (show (-9223372036854775808) ≤ z26 ∧ z26 ≤ 9223372036854775807 by omega)
                  try rw [eq34] at b33
                  have b36 : (-9223372036854775808) ≤ Z33 51 w21_4 ∧ Z33 51 w21_4 ≤ 9223372036854775807 := hG33.pr 51 w21_4
                  refine Jcv0 hx22 (show mx_Sn _ _ 93 (mx_callv 84 3 10 96) from sn_130 93) a50 s50 hc33 rfl rfl rfl ?_
                  refine Jiinc (z := w21_4) (cz := 1) (ls2 := [some (.ref 1), some (xI 3), some (xI x1), some (xI y20), some (xI (w21_4 + 1))]) (show mx_Sn _ _ 96 (mx_iinc 4 1 99) from sn_130 96) rfl rfl rfl rfl ?_
                  refine mx_J.step (sn_130 99) (fun _ _ => rfl) ?_
                  exact ih21 (w21_4 + 1) Z33 h33 (by omega) (by omega) hx33 hG33 (fr_tr (M := [(51, (-1))]) (fr_tr (M := [(51, (-1))]) fr_rf (hf22) (M1 := []) rfl rfl) (hf33) rfl rfl)
            exact c68 (Int.toNat (18 - 0) + 1) 0 Z h (by omega) (by omega) hx hG fr_rf
          · skip
            exact c41 
      · skip
        refine JcI (z := (-6)) (show mx_Sn _ _ 23 (mx_const (.int (-6)) 25) from sn_130 23) rfl ?_
        exact mx_J.ret (sn_130 25) (fun _ _ => rfl) (hP (-6) Z h hx hG fr_rf (by omega))
    · skip
      exfalso; omega
theorem ct_130_1_i3 {l : Launch} {D : va_G} {b0 : Nat} {ad : Nat → Nat} {Hb : Heap} {tau : Nat → Int64} {d n s : Nat} {S : Nat → xS} {Z : xZ} {h : mx_H} (hx : XH n s S Z h) (hG : GI n S Z)  {x1 : Int} (p1 : (-2147483648) ≤ x1 ∧ x1 ≤ 2147483647) : ∃ (z : Int) (Z' : xZ) (h' : mx_H), mx_Ca (tB l D b0 ad Hb tau) (d + 3) 130 [.ref 1, xI 3, xI x1] h (some (xI z), h') ∧ XH n s S Z' h' ∧ GI n S Z' ∧ fr' [(51, (-1))] Z Z' ∧ ((-6) ≤ z ∧ z ≤ 18) := by
  obtain ⟨r, hca, z, Z', h', e, q⟩ := Jmt (B := tB l D b0 ad Hb tau) (M := mt_130) (mi := 130) (as := [.ref 1, xI 3, xI x1]) (d := d + 2) (ls := [some (.ref 1), some (xI 3), some (xI x1), none, none]) rfl rfl rfl rfl rfl rfl (cw_130_1_i3 (l := l) (D := D) (b0 := b0) (ad := ad) (Hb := Hb) (tau := tau) (d := d) (Post := fun r => ∃ (z : Int) (Z' : xZ) (h' : mx_H), r = (some (xI z), h') ∧ XH n s S Z' h' ∧ GI n S Z' ∧ fr' [(51, (-1))] Z Z' ∧ ((-6) ≤ z ∧ z ≤ 18)) hx hG p1 (fun z Z' h' q1 q2 q3 q4 => ⟨z, Z', h', rfl, q1, q2, q3, q4⟩))
  subst e; exact ⟨z, Z', h', hca, q⟩
set_option maxRecDepth 100000 in
theorem cw_130_1_n {l : Launch} {D : va_G} {b0 : Nat} {ad : Nat → Nat} {Hb : Heap} {tau : Nat → Int64} {d n s : Nat} {S : Nat → xS} {Z : xZ} {h : mx_H} {Post : mx_R → Prop} (hx : XH n s S Z h) (hG : GI n S Z)  {x0 x1 : Int} (p0 : (-2147483648) ≤ x0 ∧ x0 ≤ (-1)) (p1 : (-2147483648) ≤ x1 ∧ x1 ≤ 2147483647) (hP : ∀ z : Int, (-2) ≤ z ∧ z ≤ (-2) → Post (some (xI z), h)) : mx_J (tB l D b0 ad Hb tau) mt_130 (d + 1) 0 [some (.ref 1), some (xI x0), some (xI x1), none, none] [] h Post := by
    have a1 : 1 < n := lt83 (GI_n hG) rfl
    have s1 : S 1 = .inl (11, [2, 0, 0, 0, 2, 2, 2, 2, 2, 2, 2, 2, 2, 2, 2, 2, 2]) := GI_s hG 1 rfl
    refine mx_J.step (sn_130 0) (fun _ _ => rfl) ?_
    refine mx_J.step (sn_130 1) (fun _ _ => rfl) ?_
    obtain ⟨z1, hc1, b1⟩ := ct_144_1_n (d := d + 0) (l := l) (D := D) (b0 := b0) (ad := ad) (Hb := Hb) (tau := tau) hx hG (show (-2147483648) ≤ x0 ∧ x0 ≤ (-1) by omega)
    refine Jcv hx (show mx_Sn _ _ 2 (mx_callv 144 2 11 5) from sn_130 2) a1 s1 hc1 rfl rfl rfl ?_
    refine Jif_eq (show mx_Sn _ _ 5 (mx_if_eq 11 8) from sn_130 5) (by omega) (fun q2 => ?_) (fun q2 => ?_)
    · skip
      exfalso; omega
    · skip
      refine JcI (z := (-2)) (show mx_Sn _ _ 8 (mx_const (.int (-2)) 10) from sn_130 8) rfl ?_
      exact mx_J.ret (sn_130 10) (fun _ _ => rfl) (hP (-2) (by omega))
theorem ct_130_1_n {l : Launch} {D : va_G} {b0 : Nat} {ad : Nat → Nat} {Hb : Heap} {tau : Nat → Int64} {d n s : Nat} {S : Nat → xS} {Z : xZ} {h : mx_H} (hx : XH n s S Z h) (hG : GI n S Z)  {x0 x1 : Int} (p0 : (-2147483648) ≤ x0 ∧ x0 ≤ (-1)) (p1 : (-2147483648) ≤ x1 ∧ x1 ≤ 2147483647) : ∃ z : Int, mx_Ca (tB l D b0 ad Hb tau) (d + 2) 130 [.ref 1, xI x0, xI x1] h (some (xI z), h) ∧ ((-2) ≤ z ∧ z ≤ (-2)) := by
  obtain ⟨r, hca, z, e, hp⟩ := Jmt (B := tB l D b0 ad Hb tau) (M := mt_130) (mi := 130) (as := [.ref 1, xI x0, xI x1]) (d := d + 1) (ls := [some (.ref 1), some (xI x0), some (xI x1), none, none]) rfl rfl rfl rfl rfl rfl (cw_130_1_n (l := l) (D := D) (b0 := b0) (ad := ad) (Hb := Hb) (tau := tau) (d := d) (Post := fun r => ∃ z : Int, r = (some (xI z), h) ∧ ((-2) ≤ z ∧ z ≤ (-2))) hx hG p0 p1 (fun z hz => ⟨z, rfl, hz⟩))
  subst e; exact ⟨z, hca, hp⟩
set_option maxRecDepth 100000 in
theorem cw_130_1_p {l : Launch} {D : va_G} {b0 : Nat} {ad : Nat → Nat} {Hb : Heap} {tau : Nat → Int64} {d n s : Nat} {S : Nat → xS} {Z : xZ} {h : mx_H} {Post : mx_R → Prop} (hx : XH n s S Z h) (hG : GI n S Z)  {x0 x1 : Int} (p0 : 4 ≤ x0 ∧ x0 ≤ 2147483647) (p1 : (-2147483648) ≤ x1 ∧ x1 ≤ 2147483647) (hP : ∀ z : Int, (-2) ≤ z ∧ z ≤ (-2) → Post (some (xI z), h)) : mx_J (tB l D b0 ad Hb tau) mt_130 (d + 1) 0 [some (.ref 1), some (xI x0), some (xI x1), none, none] [] h Post := by
    have a1 : 1 < n := lt83 (GI_n hG) rfl
    have s1 : S 1 = .inl (11, [2, 0, 0, 0, 2, 2, 2, 2, 2, 2, 2, 2, 2, 2, 2, 2, 2]) := GI_s hG 1 rfl
    refine mx_J.step (sn_130 0) (fun _ _ => rfl) ?_
    refine mx_J.step (sn_130 1) (fun _ _ => rfl) ?_
    obtain ⟨z1, hc1, b1⟩ := ct_144_1_p (d := d + 0) (l := l) (D := D) (b0 := b0) (ad := ad) (Hb := Hb) (tau := tau) hx hG (show 4 ≤ x0 ∧ x0 ≤ 2147483647 by omega)
    refine Jcv hx (show mx_Sn _ _ 2 (mx_callv 144 2 11 5) from sn_130 2) a1 s1 hc1 rfl rfl rfl ?_
    refine Jif_eq (show mx_Sn _ _ 5 (mx_if_eq 11 8) from sn_130 5) (by omega) (fun q2 => ?_) (fun q2 => ?_)
    · skip
      exfalso; omega
    · skip
      refine JcI (z := (-2)) (show mx_Sn _ _ 8 (mx_const (.int (-2)) 10) from sn_130 8) rfl ?_
      exact mx_J.ret (sn_130 10) (fun _ _ => rfl) (hP (-2) (by omega))
theorem ct_130_1_p {l : Launch} {D : va_G} {b0 : Nat} {ad : Nat → Nat} {Hb : Heap} {tau : Nat → Int64} {d n s : Nat} {S : Nat → xS} {Z : xZ} {h : mx_H} (hx : XH n s S Z h) (hG : GI n S Z)  {x0 x1 : Int} (p0 : 4 ≤ x0 ∧ x0 ≤ 2147483647) (p1 : (-2147483648) ≤ x1 ∧ x1 ≤ 2147483647) : ∃ z : Int, mx_Ca (tB l D b0 ad Hb tau) (d + 2) 130 [.ref 1, xI x0, xI x1] h (some (xI z), h) ∧ ((-2) ≤ z ∧ z ≤ (-2)) := by
  obtain ⟨r, hca, z, e, hp⟩ := Jmt (B := tB l D b0 ad Hb tau) (M := mt_130) (mi := 130) (as := [.ref 1, xI x0, xI x1]) (d := d + 1) (ls := [some (.ref 1), some (xI x0), some (xI x1), none, none]) rfl rfl rfl rfl rfl rfl (cw_130_1_p (l := l) (D := D) (b0 := b0) (ad := ad) (Hb := Hb) (tau := tau) (d := d) (Post := fun r => ∃ z : Int, r = (some (xI z), h) ∧ ((-2) ≤ z ∧ z ≤ (-2))) hx hG p0 p1 (fun z hz => ⟨z, rfl, hz⟩))
  subst e; exact ⟨z, hca, hp⟩
theorem ct_130_1 {l : Launch} {D : va_G} {b0 : Nat} {ad : Nat → Nat} {Hb : Heap} {tau : Nat → Int64} {d n s : Nat} {S : Nat → xS} {Z : xZ} {h : mx_H} (hx : XH n s S Z h) (hG : GI n S Z) {x0 x1 : Int} (p0 : (-2147483648) ≤ x0 ∧ x0 ≤ 2147483647) (p1 : (-2147483648) ≤ x1 ∧ x1 ≤ 2147483647) : ∃ (z : Int) (Z' : xZ) (h' : mx_H), mx_Ca (tB l D b0 ad Hb tau) (d + 3) 130 [.ref 1, xI x0, xI x1] h (some (xI z), h') ∧ XH n s S Z' h' ∧ GI n S Z' ∧ fr' [(45, (-1)), (47, (-1)), (49, (-1)), (51, (-1))] Z Z' ∧ ((-6) ≤ z ∧ z ≤ 18) := by
  have hc : x0 = 0 ∨ x0 = 1 ∨ x0 = 2 ∨ x0 = 3 ∨ ((-2147483648) ≤ x0 ∧ x0 ≤ (-1)) ∨ (4 ≤ x0 ∧ x0 ≤ 2147483647) := by omega
  rcases hc with hc | hc | hc | hc | hc | hc
  · subst hc
    obtain ⟨z, Z', h', hca, q1, q2, q3, b⟩ := ct_130_1_i0 (d := d + 0) (l := l) (D := D) (b0 := b0) (ad := ad) (Hb := Hb) (tau := tau) hx hG p1
    exact ⟨z, Z', h', hca, q1, q2, fr_tr (M1 := []) fr_rf q3 rfl rfl, by omega⟩
  · subst hc
    obtain ⟨z, Z', h', hca, q1, q2, q3, b⟩ := ct_130_1_i1 (d := d + 0) (l := l) (D := D) (b0 := b0) (ad := ad) (Hb := Hb) (tau := tau) hx hG p1
    exact ⟨z, Z', h', hca, q1, q2, fr_tr (M1 := []) fr_rf q3 rfl rfl, by omega⟩
  · subst hc
    obtain ⟨z, Z', h', hca, q1, q2, q3, b⟩ := ct_130_1_i2 (d := d + 0) (l := l) (D := D) (b0 := b0) (ad := ad) (Hb := Hb) (tau := tau) hx hG p1
    exact ⟨z, Z', h', hca, q1, q2, fr_tr (M1 := []) fr_rf q3 rfl rfl, by omega⟩
  · subst hc
    obtain ⟨z, Z', h', hca, q1, q2, q3, b⟩ := ct_130_1_i3 (d := d + 0) (l := l) (D := D) (b0 := b0) (ad := ad) (Hb := Hb) (tau := tau) hx hG p1
    exact ⟨z, Z', h', hca, q1, q2, fr_tr (M1 := []) fr_rf q3 rfl rfl, by omega⟩
  · skip
    obtain ⟨z, hca, b⟩ := ct_130_1_n (d := d + 1) (l := l) (D := D) (b0 := b0) (ad := ad) (Hb := Hb) (tau := tau) hx hG hc p1
    exact ⟨z, Z, h, hca, hx, hG, fr_rf, by omega⟩
  · skip
    obtain ⟨z, hca, b⟩ := ct_130_1_p (d := d + 1) (l := l) (D := D) (b0 := b0) (ad := ad) (Hb := Hb) (tau := tau) hx hG hc p1
    exact ⟨z, Z, h, hca, hx, hG, fr_rf, by omega⟩
set_option maxRecDepth 100000 in
theorem cw_287_ {l : Launch} {D : va_G} {b0 : Nat} {ad : Nat → Nat} {Hb : Heap} {tau : Nat → Int64} {d n s : Nat} {S : Nat → xS} {Z : xZ} {h : mx_H} {Post : mx_R → Prop} (hx : XH n s S Z h) (hG : GI n S Z)  {x0 x1 : Int} (p0 : 0 ≤ x0 ∧ x0 ≤ 100) (p1 : 0 ≤ x1 ∧ x1 ≤ 100) (k0 : x0 < x1) (hP : Post (none, h)) : mx_J (tB l D b0 ad Hb tau) mt_287 (d + 1) 0 [some (xI x0), some (xI x1)] [] h Post := by
    refine mx_J.step (sn_287 0) (fun _ _ => rfl) ?_
    refine mx_J.step (sn_287 1) (fun _ _ => rfl) ?_
    refine Jsio (show mx_Sn _ _ 2 (mx_sio 9) from sn_287 2) (by omega) (by omega) ⟨_, rfl⟩ rfl ?_
    exact mx_J.ret (sn_287 9) (fun _ _ => rfl) hP
theorem ct_287_ {l : Launch} {D : va_G} {b0 : Nat} {ad : Nat → Nat} {Hb : Heap} {tau : Nat → Int64} {d n s : Nat} {S : Nat → xS} {Z : xZ} {h : mx_H} (hx : XH n s S Z h) (hG : GI n S Z)  {x0 x1 : Int} (p0 : 0 ≤ x0 ∧ x0 ≤ 100) (p1 : 0 ≤ x1 ∧ x1 ≤ 100) (k0 : x0 < x1) : mx_Ca (tB l D b0 ad Hb tau) (d + 2) 287 [xI x0, xI x1] h (none, h) := by
  obtain ⟨r, hca, e⟩ := Jmt (B := tB l D b0 ad Hb tau) (M := mt_287) (mi := 287) (as := [xI x0, xI x1]) (d := d + 1) (ls := [some (xI x0), some (xI x1)]) rfl rfl rfl rfl rfl rfl (cw_287_ (l := l) (D := D) (b0 := b0) (ad := ad) (Hb := Hb) (tau := tau) (d := d) (Post := fun r => r = (none, h)) hx hG p0 p1 k0 rfl)
  subst e; exact hca
set_option maxRecDepth 100000 in
theorem cw_290_4096 {l : Launch} {D : va_G} {b0 : Nat} {ad : Nat → Nat} {Hb : Heap} {tau : Nat → Int64} {d n s : Nat} {S : Nat → xS} {Z : xZ} {h : mx_H} {Post : mx_R → Prop} (hx : XH n s S Z h) (hG : GI n S Z)   (hP : ∀ z : Int, 0 ≤ z ∧ z ≤ 0 → Post (some (xI z), h)) : mx_J (tB l D b0 ad Hb tau) mt_290 (d + 0) 0 [some (.ref 4096)] [] h Post := by
    refine JcI (z := 1) (show mx_Sn _ _ 0 (mx_const (.int 1) 3) from sn_290 0) rfl ?_
    refine Jif_eq (show mx_Sn _ _ 3 (mx_if_eq 13 6) from sn_290 3) (by omega) (fun q1 => ?_) (fun q1 => ?_)
    · skip
      exfalso; omega
    · skip
      refine mx_J.step (sn_290 6) (fun _ _ => rfl) ?_
      refine Jscod (L := sb_0) (show mx_Sn _ _ 7 (mx_scod 10) from sn_290 7) rfl ?_
      refine mx_J.step (sn_290 10) (fun _ _ => rfl) ?_
      exact mx_J.ret (show mx_Sn _ _ 14 (mx_nret .byte) from sn_290 14) (fun _ _ => nr_ok_byte (by omega)) (hP 0 (by omega))
theorem ct_290_4096 {l : Launch} {D : va_G} {b0 : Nat} {ad : Nat → Nat} {Hb : Heap} {tau : Nat → Int64} {d n s : Nat} {S : Nat → xS} {Z : xZ} {h : mx_H} (hx : XH n s S Z h) (hG : GI n S Z)   : ∃ z : Int, mx_Ca (tB l D b0 ad Hb tau) (d + 1) 290 [.ref 4096] h (some (xI z), h) ∧ (0 ≤ z ∧ z ≤ 0) := by
  obtain ⟨r, hca, z, e, hp⟩ := Jmt (B := tB l D b0 ad Hb tau) (M := mt_290) (mi := 290) (as := [.ref 4096]) (d := d + 0) (ls := [some (.ref 4096)]) rfl rfl rfl rfl rfl rfl (cw_290_4096 (l := l) (D := D) (b0 := b0) (ad := ad) (Hb := Hb) (tau := tau) (d := d) (Post := fun r => ∃ z : Int, r = (some (xI z), h) ∧ (0 ≤ z ∧ z ≤ 0)) hx hG  (fun z hz => ⟨z, rfl, hz⟩))
  subst e; exact ⟨z, hca, hp⟩
set_option maxRecDepth 100000 in
theorem cw_289_4096 {l : Launch} {D : va_G} {b0 : Nat} {ad : Nat → Nat} {Hb : Heap} {tau : Nat → Int64} {d n s : Nat} {S : Nat → xS} {Z : xZ} {h : mx_H} {Post : mx_R → Prop} (hx : XH n s S Z h) (hG : GI n S Z)   (hP : ∀ z : Int, 1 ≤ z ∧ z ≤ 1 → Post (some (xI z), h)) : mx_J (tB l D b0 ad Hb tau) mt_289 (d + 0) 0 [some (.ref 4096)] [] h Post := by
    refine JcI (z := 1) (show mx_Sn _ _ 0 (mx_const (.int 1) 3) from sn_289 0) rfl ?_
    refine Jif_eq (show mx_Sn _ _ 3 (mx_if_eq 17 6) from sn_289 3) (by omega) (fun q1 => ?_) (fun q1 => ?_)
    · skip
      exfalso; omega
    · skip
      refine mx_J.step (sn_289 6) (fun _ _ => rfl) ?_
      refine Jscod (L := sb_0) (show mx_Sn _ _ 7 (mx_scod 10) from sn_289 7) rfl ?_
      refine Jif_ne (show mx_Sn _ _ 10 (mx_if_ne 17 13) from sn_289 10) (by omega) (fun q2 => ?_) (fun q2 => ?_)
      · skip
        exfalso; omega
      · skip
        refine JcI (z := 1) (show mx_Sn _ _ 13 (mx_const (.int 1) 14) from sn_289 13) rfl ?_
        refine mx_J.step (sn_289 14) (fun _ _ => rfl) ?_
        exact mx_J.ret (show mx_Sn _ _ 18 (mx_zret) from sn_289 18) (fun _ _ => zr_ok (by omega)) (hP 1 (by omega))
theorem ct_289_4096 {l : Launch} {D : va_G} {b0 : Nat} {ad : Nat → Nat} {Hb : Heap} {tau : Nat → Int64} {d n s : Nat} {S : Nat → xS} {Z : xZ} {h : mx_H} (hx : XH n s S Z h) (hG : GI n S Z)   : ∃ z : Int, mx_Ca (tB l D b0 ad Hb tau) (d + 1) 289 [.ref 4096] h (some (xI z), h) ∧ (1 ≤ z ∧ z ≤ 1) := by
  obtain ⟨r, hca, z, e, hp⟩ := Jmt (B := tB l D b0 ad Hb tau) (M := mt_289) (mi := 289) (as := [.ref 4096]) (d := d + 0) (ls := [some (.ref 4096)]) rfl rfl rfl rfl rfl rfl (cw_289_4096 (l := l) (D := D) (b0 := b0) (ad := ad) (Hb := Hb) (tau := tau) (d := d) (Post := fun r => ∃ z : Int, r = (some (xI z), h) ∧ (1 ≤ z ∧ z ≤ 1)) hx hG  (fun z hz => ⟨z, rfl, hz⟩))
  subst e; exact ⟨z, hca, hp⟩
set_option maxRecDepth 100000 in
theorem cw_291_4096 {l : Launch} {D : va_G} {b0 : Nat} {ad : Nat → Nat} {Hb : Heap} {tau : Nat → Int64} {d n s : Nat} {S : Nat → xS} {Z : xZ} {h : mx_H} {Post : mx_R → Prop} (hx : XH n s S Z h) (hG : GI n S Z)   (hP : ∀ z : Int, 76 ≤ z ∧ z ≤ 76 → Post (some (xI z), h)) : mx_J (tB l D b0 ad Hb tau) mt_291 (d + 1) 0 [some (.ref 4096)] [] h Post := by
    refine mx_J.step (sn_291 0) (fun _ _ => rfl) ?_
    refine mx_J.step (sn_291 1) (fun _ _ => rfl) ?_
    refine Jsalen (L := sb_0) (z := 76) (show mx_Sn _ _ 4 (mx_salen 5) from sn_291 4) rfl rfl ?_
    refine mx_J.step (sn_291 5) (fun _ _ => rfl) ?_
    obtain ⟨z1, hc1, b1⟩ := ct_290_4096 (d := d + 0) (l := l) (D := D) (b0 := b0) (ad := ad) (Hb := Hb) (tau := tau) hx hG 
    refine Jck (show mx_Sn _ _ 6 (mx_callk 290 1 9) from sn_291 6) rfl hc1 rfl rfl rfl ?_
    refine Jishr0 (show mx_Sn _ _ 9 (mx_ishr 10) from sn_291 9) (by omega) ?_
    exact mx_J.ret (sn_291 10) (fun _ _ => rfl) (hP 76 (by omega))
theorem ct_291_4096 {l : Launch} {D : va_G} {b0 : Nat} {ad : Nat → Nat} {Hb : Heap} {tau : Nat → Int64} {d n s : Nat} {S : Nat → xS} {Z : xZ} {h : mx_H} (hx : XH n s S Z h) (hG : GI n S Z)   : ∃ z : Int, mx_Ca (tB l D b0 ad Hb tau) (d + 2) 291 [.ref 4096] h (some (xI z), h) ∧ (76 ≤ z ∧ z ≤ 76) := by
  obtain ⟨r, hca, z, e, hp⟩ := Jmt (B := tB l D b0 ad Hb tau) (M := mt_291) (mi := 291) (as := [.ref 4096]) (d := d + 1) (ls := [some (.ref 4096)]) rfl rfl rfl rfl rfl rfl (cw_291_4096 (l := l) (D := D) (b0 := b0) (ad := ad) (Hb := Hb) (tau := tau) (d := d) (Post := fun r => ∃ z : Int, r = (some (xI z), h) ∧ (76 ≤ z ∧ z ≤ 76)) hx hG  (fun z hz => ⟨z, rfl, hz⟩))
  subst e; exact ⟨z, hca, hp⟩
set_option maxRecDepth 100000 in
theorem cw_288_4097 {l : Launch} {D : va_G} {b0 : Nat} {ad : Nat → Nat} {Hb : Heap} {tau : Nat → Int64} {d n s : Nat} {S : Nat → xS} {Z : xZ} {h : mx_H} {Post : mx_R → Prop} (hx : XH n s S Z h) (hG : GI n S Z)  {x0 : Int} (p0 : 0 ≤ x0 ∧ x0 ≤ 75) (hP : ∀ z : Int, 32 ≤ z ∧ z ≤ 122 → Post (some (xI z), h)) : mx_J (tB l D b0 ad Hb tau) mt_288 (d + 2) 0 [some (.ref 4097), some (xI x0)] [] h Post := by
    refine mx_J.step (sn_288 0) (fun _ _ => rfl) ?_
    refine mx_J.step (sn_288 1) (fun _ _ => rfl) ?_
    refine Jsalen (L := sb_0) (z := 76) (show mx_Sn _ _ 2 (mx_salen 3) from sn_288 2) rfl rfl ?_
    have hc1 := ct_287_ (d := d + 0) (l := l) (D := D) (b0 := b0) (ad := ad) (Hb := Hb) (tau := tau) hx hG (show 0 ≤ x0 ∧ x0 ≤ 100 by omega) (show 0 ≤ 76 ∧ 76 ≤ 100 by omega) (show x0 < 76 by omega)
    refine Jcs0 (show mx_Sn _ _ 3 (mx_calls 287 2 6) from sn_288 3) hc1 rfl rfl rfl ?_
    refine mx_J.step (sn_288 6) (fun _ _ => rfl) ?_
    refine mx_J.step (sn_288 7) (fun _ _ => rfl) ?_
    refine Jsb_0 (show mx_Sn _ _ 8 (mx_sbald 9) from sn_288 8) rfl (by omega) (fun y2 hy2 => ?_)
    refine JcI (z := 255) (show mx_Sn _ _ 9 (mx_const (.int 255) 12) from sn_288 9) rfl ?_
    refine JiandM (q := 256) 8 (show mx_Sn _ _ 12 (mx_iand 13) from sn_288 12) rfl rfl rfl ?_
    refine Ji2c (show mx_Sn _ _ 13 (mx_i2c 14) from sn_288 13) (by omega) ?_
    exact mx_J.ret (show mx_Sn _ _ 14 (mx_nret .char) from sn_288 14) (fun _ _ => nr_ok_char (by omega)) (hP (y2 % 256) (by omega))
theorem ct_288_4097 {l : Launch} {D : va_G} {b0 : Nat} {ad : Nat → Nat} {Hb : Heap} {tau : Nat → Int64} {d n s : Nat} {S : Nat → xS} {Z : xZ} {h : mx_H} (hx : XH n s S Z h) (hG : GI n S Z)  {x0 : Int} (p0 : 0 ≤ x0 ∧ x0 ≤ 75) : ∃ z : Int, mx_Ca (tB l D b0 ad Hb tau) (d + 3) 288 [.ref 4097, xI x0] h (some (xI z), h) ∧ (32 ≤ z ∧ z ≤ 122) := by
  obtain ⟨r, hca, z, e, hp⟩ := Jmt (B := tB l D b0 ad Hb tau) (M := mt_288) (mi := 288) (as := [.ref 4097, xI x0]) (d := d + 2) (ls := [some (.ref 4097), some (xI x0)]) rfl rfl rfl rfl rfl rfl (cw_288_4097 (l := l) (D := D) (b0 := b0) (ad := ad) (Hb := Hb) (tau := tau) (d := d) (Post := fun r => ∃ z : Int, r = (some (xI z), h) ∧ (32 ≤ z ∧ z ≤ 122)) hx hG p0 (fun z hz => ⟨z, rfl, hz⟩))
  subst e; exact ⟨z, hca, hp⟩
set_option maxRecDepth 100000 in
theorem cw_292_4096 {l : Launch} {D : va_G} {b0 : Nat} {ad : Nat → Nat} {Hb : Heap} {tau : Nat → Int64} {d n s : Nat} {S : Nat → xS} {Z : xZ} {h : mx_H} {Post : mx_R → Prop} (hx : XH n s S Z h) (hG : GI n S Z)  {x0 : Int} (p0 : 0 ≤ x0 ∧ x0 ≤ 75) (hP : ∀ z : Int, 32 ≤ z ∧ z ≤ 122 → Post (some (xI z), h)) : mx_J (tB l D b0 ad Hb tau) mt_292 (d + 3) 0 [some (.ref 4096), some (xI x0)] [] h Post := by
    refine mx_J.step (sn_292 0) (fun _ _ => rfl) ?_
    obtain ⟨z1, hc1, b1⟩ := ct_289_4096 (d := d + 2) (l := l) (D := D) (b0 := b0) (ad := ad) (Hb := Hb) (tau := tau) hx hG 
    refine Jck (show mx_Sn _ _ 1 (mx_callk 289 1 4) from sn_292 1) rfl hc1 rfl rfl rfl ?_
    refine Jif_eq (show mx_Sn _ _ 4 (mx_if_eq 16 7) from sn_292 4) (by omega) (fun q2 => ?_) (fun q2 => ?_)
    · skip
      exfalso; omega
    · skip
      refine mx_J.step (sn_292 7) (fun _ _ => rfl) ?_
      refine mx_J.step (sn_292 8) (fun _ _ => rfl) ?_
      refine mx_J.step (sn_292 11) (fun _ _ => rfl) ?_
      obtain ⟨z3, hc3, b3⟩ := ct_288_4097 (d := d + 0) (l := l) (D := D) (b0 := b0) (ad := ad) (Hb := Hb) (tau := tau) hx hG (show 0 ≤ x0 ∧ x0 ≤ 75 by omega)
      refine Jcs (show mx_Sn _ _ 12 (mx_calls 288 2 15) from sn_292 12) hc3 rfl rfl rfl ?_
      exact mx_J.ret (show mx_Sn _ _ 15 (mx_nret .char) from sn_292 15) (fun _ _ => nr_ok_char (by omega)) (hP z3 (by omega))
theorem ct_292_4096 {l : Launch} {D : va_G} {b0 : Nat} {ad : Nat → Nat} {Hb : Heap} {tau : Nat → Int64} {d n s : Nat} {S : Nat → xS} {Z : xZ} {h : mx_H} (hx : XH n s S Z h) (hG : GI n S Z)  {x0 : Int} (p0 : 0 ≤ x0 ∧ x0 ≤ 75) : ∃ z : Int, mx_Ca (tB l D b0 ad Hb tau) (d + 4) 292 [.ref 4096, xI x0] h (some (xI z), h) ∧ (32 ≤ z ∧ z ≤ 122) := by
  obtain ⟨r, hca, z, e, hp⟩ := Jmt (B := tB l D b0 ad Hb tau) (M := mt_292) (mi := 292) (as := [.ref 4096, xI x0]) (d := d + 3) (ls := [some (.ref 4096), some (xI x0)]) rfl rfl rfl rfl rfl rfl (cw_292_4096 (l := l) (D := D) (b0 := b0) (ad := ad) (Hb := Hb) (tau := tau) (d := d) (Post := fun r => ∃ z : Int, r = (some (xI z), h) ∧ (32 ≤ z ∧ z ≤ 122)) hx hG p0 (fun z hz => ⟨z, rfl, hz⟩))
  subst e; exact ⟨z, hca, hp⟩
set_option maxRecDepth 100000 in
theorem cw_290_4098 {l : Launch} {D : va_G} {b0 : Nat} {ad : Nat → Nat} {Hb : Heap} {tau : Nat → Int64} {d n s : Nat} {S : Nat → xS} {Z : xZ} {h : mx_H} {Post : mx_R → Prop} (hx : XH n s S Z h) (hG : GI n S Z)   (hP : ∀ z : Int, 0 ≤ z ∧ z ≤ 0 → Post (some (xI z), h)) : mx_J (tB l D b0 ad Hb tau) mt_290 (d + 0) 0 [some (.ref 4098)] [] h Post := by
    refine JcI (z := 1) (show mx_Sn _ _ 0 (mx_const (.int 1) 3) from sn_290 0) rfl ?_
    refine Jif_eq (show mx_Sn _ _ 3 (mx_if_eq 13 6) from sn_290 3) (by omega) (fun q1 => ?_) (fun q1 => ?_)
    · skip
      exfalso; omega
    · skip
      refine mx_J.step (sn_290 6) (fun _ _ => rfl) ?_
      refine Jscod (L := sb_1) (show mx_Sn _ _ 7 (mx_scod 10) from sn_290 7) rfl ?_
      refine mx_J.step (sn_290 10) (fun _ _ => rfl) ?_
      exact mx_J.ret (show mx_Sn _ _ 14 (mx_nret .byte) from sn_290 14) (fun _ _ => nr_ok_byte (by omega)) (hP 0 (by omega))
theorem ct_290_4098 {l : Launch} {D : va_G} {b0 : Nat} {ad : Nat → Nat} {Hb : Heap} {tau : Nat → Int64} {d n s : Nat} {S : Nat → xS} {Z : xZ} {h : mx_H} (hx : XH n s S Z h) (hG : GI n S Z)   : ∃ z : Int, mx_Ca (tB l D b0 ad Hb tau) (d + 1) 290 [.ref 4098] h (some (xI z), h) ∧ (0 ≤ z ∧ z ≤ 0) := by
  obtain ⟨r, hca, z, e, hp⟩ := Jmt (B := tB l D b0 ad Hb tau) (M := mt_290) (mi := 290) (as := [.ref 4098]) (d := d + 0) (ls := [some (.ref 4098)]) rfl rfl rfl rfl rfl rfl (cw_290_4098 (l := l) (D := D) (b0 := b0) (ad := ad) (Hb := Hb) (tau := tau) (d := d) (Post := fun r => ∃ z : Int, r = (some (xI z), h) ∧ (0 ≤ z ∧ z ≤ 0)) hx hG  (fun z hz => ⟨z, rfl, hz⟩))
  subst e; exact ⟨z, hca, hp⟩
set_option maxRecDepth 100000 in
theorem cw_289_4098 {l : Launch} {D : va_G} {b0 : Nat} {ad : Nat → Nat} {Hb : Heap} {tau : Nat → Int64} {d n s : Nat} {S : Nat → xS} {Z : xZ} {h : mx_H} {Post : mx_R → Prop} (hx : XH n s S Z h) (hG : GI n S Z)   (hP : ∀ z : Int, 1 ≤ z ∧ z ≤ 1 → Post (some (xI z), h)) : mx_J (tB l D b0 ad Hb tau) mt_289 (d + 0) 0 [some (.ref 4098)] [] h Post := by
    refine JcI (z := 1) (show mx_Sn _ _ 0 (mx_const (.int 1) 3) from sn_289 0) rfl ?_
    refine Jif_eq (show mx_Sn _ _ 3 (mx_if_eq 17 6) from sn_289 3) (by omega) (fun q1 => ?_) (fun q1 => ?_)
    · skip
      exfalso; omega
    · skip
      refine mx_J.step (sn_289 6) (fun _ _ => rfl) ?_
      refine Jscod (L := sb_1) (show mx_Sn _ _ 7 (mx_scod 10) from sn_289 7) rfl ?_
      refine Jif_ne (show mx_Sn _ _ 10 (mx_if_ne 17 13) from sn_289 10) (by omega) (fun q2 => ?_) (fun q2 => ?_)
      · skip
        exfalso; omega
      · skip
        refine JcI (z := 1) (show mx_Sn _ _ 13 (mx_const (.int 1) 14) from sn_289 13) rfl ?_
        refine mx_J.step (sn_289 14) (fun _ _ => rfl) ?_
        exact mx_J.ret (show mx_Sn _ _ 18 (mx_zret) from sn_289 18) (fun _ _ => zr_ok (by omega)) (hP 1 (by omega))
theorem ct_289_4098 {l : Launch} {D : va_G} {b0 : Nat} {ad : Nat → Nat} {Hb : Heap} {tau : Nat → Int64} {d n s : Nat} {S : Nat → xS} {Z : xZ} {h : mx_H} (hx : XH n s S Z h) (hG : GI n S Z)   : ∃ z : Int, mx_Ca (tB l D b0 ad Hb tau) (d + 1) 289 [.ref 4098] h (some (xI z), h) ∧ (1 ≤ z ∧ z ≤ 1) := by
  obtain ⟨r, hca, z, e, hp⟩ := Jmt (B := tB l D b0 ad Hb tau) (M := mt_289) (mi := 289) (as := [.ref 4098]) (d := d + 0) (ls := [some (.ref 4098)]) rfl rfl rfl rfl rfl rfl (cw_289_4098 (l := l) (D := D) (b0 := b0) (ad := ad) (Hb := Hb) (tau := tau) (d := d) (Post := fun r => ∃ z : Int, r = (some (xI z), h) ∧ (1 ≤ z ∧ z ≤ 1)) hx hG  (fun z hz => ⟨z, rfl, hz⟩))
  subst e; exact ⟨z, hca, hp⟩
set_option maxRecDepth 100000 in
theorem cw_291_4098 {l : Launch} {D : va_G} {b0 : Nat} {ad : Nat → Nat} {Hb : Heap} {tau : Nat → Int64} {d n s : Nat} {S : Nat → xS} {Z : xZ} {h : mx_H} {Post : mx_R → Prop} (hx : XH n s S Z h) (hG : GI n S Z)   (hP : ∀ z : Int, 12 ≤ z ∧ z ≤ 12 → Post (some (xI z), h)) : mx_J (tB l D b0 ad Hb tau) mt_291 (d + 1) 0 [some (.ref 4098)] [] h Post := by
    refine mx_J.step (sn_291 0) (fun _ _ => rfl) ?_
    refine mx_J.step (sn_291 1) (fun _ _ => rfl) ?_
    refine Jsalen (L := sb_1) (z := 12) (show mx_Sn _ _ 4 (mx_salen 5) from sn_291 4) rfl rfl ?_
    refine mx_J.step (sn_291 5) (fun _ _ => rfl) ?_
    obtain ⟨z1, hc1, b1⟩ := ct_290_4098 (d := d + 0) (l := l) (D := D) (b0 := b0) (ad := ad) (Hb := Hb) (tau := tau) hx hG 
    refine Jck (show mx_Sn _ _ 6 (mx_callk 290 1 9) from sn_291 6) rfl hc1 rfl rfl rfl ?_
    refine Jishr0 (show mx_Sn _ _ 9 (mx_ishr 10) from sn_291 9) (by omega) ?_
    exact mx_J.ret (sn_291 10) (fun _ _ => rfl) (hP 12 (by omega))
theorem ct_291_4098 {l : Launch} {D : va_G} {b0 : Nat} {ad : Nat → Nat} {Hb : Heap} {tau : Nat → Int64} {d n s : Nat} {S : Nat → xS} {Z : xZ} {h : mx_H} (hx : XH n s S Z h) (hG : GI n S Z)   : ∃ z : Int, mx_Ca (tB l D b0 ad Hb tau) (d + 2) 291 [.ref 4098] h (some (xI z), h) ∧ (12 ≤ z ∧ z ≤ 12) := by
  obtain ⟨r, hca, z, e, hp⟩ := Jmt (B := tB l D b0 ad Hb tau) (M := mt_291) (mi := 291) (as := [.ref 4098]) (d := d + 1) (ls := [some (.ref 4098)]) rfl rfl rfl rfl rfl rfl (cw_291_4098 (l := l) (D := D) (b0 := b0) (ad := ad) (Hb := Hb) (tau := tau) (d := d) (Post := fun r => ∃ z : Int, r = (some (xI z), h) ∧ (12 ≤ z ∧ z ≤ 12)) hx hG  (fun z hz => ⟨z, rfl, hz⟩))
  subst e; exact ⟨z, hca, hp⟩
set_option maxRecDepth 100000 in
theorem cw_288_4099 {l : Launch} {D : va_G} {b0 : Nat} {ad : Nat → Nat} {Hb : Heap} {tau : Nat → Int64} {d n s : Nat} {S : Nat → xS} {Z : xZ} {h : mx_H} {Post : mx_R → Prop} (hx : XH n s S Z h) (hG : GI n S Z)  {x0 : Int} (p0 : 0 ≤ x0 ∧ x0 ≤ 11) (hP : ∀ z : Int, 32 ≤ z ∧ z ≤ 122 → Post (some (xI z), h)) : mx_J (tB l D b0 ad Hb tau) mt_288 (d + 2) 0 [some (.ref 4099), some (xI x0)] [] h Post := by
    refine mx_J.step (sn_288 0) (fun _ _ => rfl) ?_
    refine mx_J.step (sn_288 1) (fun _ _ => rfl) ?_
    refine Jsalen (L := sb_1) (z := 12) (show mx_Sn _ _ 2 (mx_salen 3) from sn_288 2) rfl rfl ?_
    have hc1 := ct_287_ (d := d + 0) (l := l) (D := D) (b0 := b0) (ad := ad) (Hb := Hb) (tau := tau) hx hG (show 0 ≤ x0 ∧ x0 ≤ 100 by omega) (show 0 ≤ 12 ∧ 12 ≤ 100 by omega) (show x0 < 12 by omega)
    refine Jcs0 (show mx_Sn _ _ 3 (mx_calls 287 2 6) from sn_288 3) hc1 rfl rfl rfl ?_
    refine mx_J.step (sn_288 6) (fun _ _ => rfl) ?_
    refine mx_J.step (sn_288 7) (fun _ _ => rfl) ?_
    refine Jsb_1 (show mx_Sn _ _ 8 (mx_sbald 9) from sn_288 8) rfl (by omega) (fun y2 hy2 => ?_)
    refine JcI (z := 255) (show mx_Sn _ _ 9 (mx_const (.int 255) 12) from sn_288 9) rfl ?_
    refine JiandM (q := 256) 8 (show mx_Sn _ _ 12 (mx_iand 13) from sn_288 12) rfl rfl rfl ?_
    refine Ji2c (show mx_Sn _ _ 13 (mx_i2c 14) from sn_288 13) (by omega) ?_
    exact mx_J.ret (show mx_Sn _ _ 14 (mx_nret .char) from sn_288 14) (fun _ _ => nr_ok_char (by omega)) (hP (y2 % 256) (by omega))
theorem ct_288_4099 {l : Launch} {D : va_G} {b0 : Nat} {ad : Nat → Nat} {Hb : Heap} {tau : Nat → Int64} {d n s : Nat} {S : Nat → xS} {Z : xZ} {h : mx_H} (hx : XH n s S Z h) (hG : GI n S Z)  {x0 : Int} (p0 : 0 ≤ x0 ∧ x0 ≤ 11) : ∃ z : Int, mx_Ca (tB l D b0 ad Hb tau) (d + 3) 288 [.ref 4099, xI x0] h (some (xI z), h) ∧ (32 ≤ z ∧ z ≤ 122) := by
  obtain ⟨r, hca, z, e, hp⟩ := Jmt (B := tB l D b0 ad Hb tau) (M := mt_288) (mi := 288) (as := [.ref 4099, xI x0]) (d := d + 2) (ls := [some (.ref 4099), some (xI x0)]) rfl rfl rfl rfl rfl rfl (cw_288_4099 (l := l) (D := D) (b0 := b0) (ad := ad) (Hb := Hb) (tau := tau) (d := d) (Post := fun r => ∃ z : Int, r = (some (xI z), h) ∧ (32 ≤ z ∧ z ≤ 122)) hx hG p0 (fun z hz => ⟨z, rfl, hz⟩))
  subst e; exact ⟨z, hca, hp⟩
set_option maxRecDepth 100000 in
theorem cw_292_4098 {l : Launch} {D : va_G} {b0 : Nat} {ad : Nat → Nat} {Hb : Heap} {tau : Nat → Int64} {d n s : Nat} {S : Nat → xS} {Z : xZ} {h : mx_H} {Post : mx_R → Prop} (hx : XH n s S Z h) (hG : GI n S Z)  {x0 : Int} (p0 : 0 ≤ x0 ∧ x0 ≤ 11) (hP : ∀ z : Int, 32 ≤ z ∧ z ≤ 122 → Post (some (xI z), h)) : mx_J (tB l D b0 ad Hb tau) mt_292 (d + 3) 0 [some (.ref 4098), some (xI x0)] [] h Post := by
    refine mx_J.step (sn_292 0) (fun _ _ => rfl) ?_
    obtain ⟨z1, hc1, b1⟩ := ct_289_4098 (d := d + 2) (l := l) (D := D) (b0 := b0) (ad := ad) (Hb := Hb) (tau := tau) hx hG 
    refine Jck (show mx_Sn _ _ 1 (mx_callk 289 1 4) from sn_292 1) rfl hc1 rfl rfl rfl ?_
    refine Jif_eq (show mx_Sn _ _ 4 (mx_if_eq 16 7) from sn_292 4) (by omega) (fun q2 => ?_) (fun q2 => ?_)
    · skip
      exfalso; omega
    · skip
      refine mx_J.step (sn_292 7) (fun _ _ => rfl) ?_
      refine mx_J.step (sn_292 8) (fun _ _ => rfl) ?_
      refine mx_J.step (sn_292 11) (fun _ _ => rfl) ?_
      obtain ⟨z3, hc3, b3⟩ := ct_288_4099 (d := d + 0) (l := l) (D := D) (b0 := b0) (ad := ad) (Hb := Hb) (tau := tau) hx hG (show 0 ≤ x0 ∧ x0 ≤ 11 by omega)
      refine Jcs (show mx_Sn _ _ 12 (mx_calls 288 2 15) from sn_292 12) hc3 rfl rfl rfl ?_
      exact mx_J.ret (show mx_Sn _ _ 15 (mx_nret .char) from sn_292 15) (fun _ _ => nr_ok_char (by omega)) (hP z3 (by omega))
theorem ct_292_4098 {l : Launch} {D : va_G} {b0 : Nat} {ad : Nat → Nat} {Hb : Heap} {tau : Nat → Int64} {d n s : Nat} {S : Nat → xS} {Z : xZ} {h : mx_H} (hx : XH n s S Z h) (hG : GI n S Z)  {x0 : Int} (p0 : 0 ≤ x0 ∧ x0 ≤ 11) : ∃ z : Int, mx_Ca (tB l D b0 ad Hb tau) (d + 4) 292 [.ref 4098, xI x0] h (some (xI z), h) ∧ (32 ≤ z ∧ z ≤ 122) := by
  obtain ⟨r, hca, z, e, hp⟩ := Jmt (B := tB l D b0 ad Hb tau) (M := mt_292) (mi := 292) (as := [.ref 4098, xI x0]) (d := d + 3) (ls := [some (.ref 4098), some (xI x0)]) rfl rfl rfl rfl rfl rfl (cw_292_4098 (l := l) (D := D) (b0 := b0) (ad := ad) (Hb := Hb) (tau := tau) (d := d) (Post := fun r => ∃ z : Int, r = (some (xI z), h) ∧ (32 ≤ z ∧ z ≤ 122)) hx hG p0 (fun z hz => ⟨z, rfl, hz⟩))
  subst e; exact ⟨z, hca, hp⟩
set_option maxRecDepth 100000 in
theorem cw_293_ {l : Launch} {D : va_G} {b0 : Nat} {ad : Nat → Nat} {Hb : Heap} {tau : Nat → Int64} {d n s : Nat} {S : Nat → xS} {Z : xZ} {h : mx_H} {Post : mx_R → Prop} (hx : XH n s S Z h) (hG : GI n S Z)  {x0 : Int} (p0 : 0 ≤ x0 ∧ x0 ≤ 255) (hP : ∀ z : Int, 1 ≤ z ∧ z ≤ 1 → Post (some (xI z), h)) : mx_J (tB l D b0 ad Hb tau) mt_293 (d + 0) 0 [some (xI x0)] [] h Post := by
    refine mx_J.step (sn_293 0) (fun _ _ => rfl) ?_
    refine Jif_lt (show mx_Sn _ _ 1 (mx_if_lt 15 4) from sn_293 1) (by omega) (fun q1 => ?_) (fun q1 => ?_)
    · skip
      exfalso; omega
    · skip
      refine mx_J.step (sn_293 4) (fun _ _ => rfl) ?_
      refine JcI (z := 255) (show mx_Sn _ _ 5 (mx_const (.int 255) 8) from sn_293 5) rfl ?_
      refine Jicmp_gt (show mx_Sn _ _ 8 (mx_icmp_gt 15 11) from sn_293 8) (by omega) (by omega) (fun q2 => ?_) (fun q2 => ?_)
      · skip
        exfalso; omega
      · skip
        refine JcI (z := 1) (show mx_Sn _ _ 11 (mx_const (.int 1) 12) from sn_293 11) rfl ?_
        refine mx_J.step (sn_293 12) (fun _ _ => rfl) ?_
        exact mx_J.ret (show mx_Sn _ _ 16 (mx_zret) from sn_293 16) (fun _ _ => zr_ok (by omega)) (hP 1 (by omega))
theorem ct_293_ {l : Launch} {D : va_G} {b0 : Nat} {ad : Nat → Nat} {Hb : Heap} {tau : Nat → Int64} {d n s : Nat} {S : Nat → xS} {Z : xZ} {h : mx_H} (hx : XH n s S Z h) (hG : GI n S Z)  {x0 : Int} (p0 : 0 ≤ x0 ∧ x0 ≤ 255) : ∃ z : Int, mx_Ca (tB l D b0 ad Hb tau) (d + 1) 293 [xI x0] h (some (xI z), h) ∧ (1 ≤ z ∧ z ≤ 1) := by
  obtain ⟨r, hca, z, e, hp⟩ := Jmt (B := tB l D b0 ad Hb tau) (M := mt_293) (mi := 293) (as := [xI x0]) (d := d + 0) (ls := [some (xI x0)]) rfl rfl rfl rfl rfl rfl (cw_293_ (l := l) (D := D) (b0 := b0) (ad := ad) (Hb := Hb) (tau := tau) (d := d) (Post := fun r => ∃ z : Int, r = (some (xI z), h) ∧ (1 ≤ z ∧ z ≤ 1)) hx hG p0 (fun z hz => ⟨z, rfl, hz⟩))
  subst e; exact ⟨z, hca, hp⟩
set_option maxRecDepth 100000 in
theorem cw_294_4099_i0_i12 {l : Launch} {D : va_G} {b0 : Nat} {ad : Nat → Nat} {Hb : Heap} {tau : Nat → Int64} {d n s : Nat} {S : Nat → xS} {Z : xZ} {h : mx_H} {Post : mx_R → Prop} (hx : XH n s S Z h) (hG : GI n S Z)  {x0 : Int} (p0 : 0 ≤ x0 ∧ x0 ≤ 255) (hP : ∀ z : Int, (-1) ≤ z ∧ z ≤ 11 → Post (some (xI z), h)) : mx_J (tB l D b0 ad Hb tau) mt_294 (d + 0) 0 [some (.ref 4099), some (xI x0), some (xI 0), some (xI 12), none, none] [] h Post := by
    refine mx_J.step (sn_294 0) (fun _ _ => rfl) ?_
    refine Ji2bX (show mx_Sn _ _ 1 (mx_i2b 2) from sn_294 1) (fun y1 hy1 => ?_)
    refine mx_J.step (ls2 := [some (.ref 4099), some (xI x0), some (xI 0), some (xI 12), some (xI y1), none]) (sn_294 2) (fun _ _ => rfl) ?_
    refine mx_J.step (sn_294 4) (fun _ _ => rfl) ?_
    refine mx_J.step (ls2 := [some (.ref 4099), some (xI x0), some (xI 0), some (xI 12), some (xI y1), some (xI 0)]) (sn_294 5) (fun _ _ => rfl) ?_
    have c7 : ∀ (m2 : Nat) (w2_5 : Int), 12 - w2_5 < (m2 : Int) → 0 ≤ w2_5 ∧ w2_5 ≤ 12 → mx_J (tB l D b0 ad Hb tau) mt_294 (d + 0) 7 [some (.ref 4099), some (xI x0), some (xI 0), some (xI 12), some (xI y1), some (xI w2_5)] [] h Post := by
      intro m2
      induction m2 with
      | zero => intro w2_5 q2 f2_0; exact absurd q2 (by omega)
      | succ m2 ih2 =>
        intro w2_5 q2 f2_0
        refine mx_J.step (sn_294 7) (fun _ _ => rfl) ?_
        refine mx_J.step (sn_294 9) (fun _ _ => rfl) ?_
        refine Jicmp_ge (show mx_Sn _ _ 10 (mx_icmp_ge 31 13) from sn_294 10) (by omega) (by omega) (fun q3 => ?_) (fun q3 => ?_)
        · skip
          refine JcI (z := (-1)) (show mx_Sn _ _ 31 (mx_const (.int (-1)) 32) from sn_294 31) rfl ?_
          exact mx_J.ret (sn_294 32) (fun _ _ => rfl) (hP (-1) (by omega))
        · skip
          refine mx_J.step (sn_294 13) (fun _ _ => rfl) ?_
          refine mx_J.step (sn_294 14) (fun _ _ => rfl) ?_
          refine Jsb_1 (show mx_Sn _ _ 16 (mx_sbald 17) from sn_294 16) rfl (by omega) (fun y4 hy4 => ?_)
          refine mx_J.step (sn_294 17) (fun _ _ => rfl) ?_
          refine Jicmp_ne (show mx_Sn _ _ 19 (mx_icmp_ne 25 22) from sn_294 19) (by omega) (by omega) (fun q5 => ?_) (fun q5 => ?_)
          · skip
            refine Jiinc (z := w2_5) (cz := 1) (ls2 := [some (.ref 4099), some (xI x0), some (xI 0), some (xI 12), some (xI y1), some (xI (w2_5 + 1))]) (show mx_Sn _ _ 25 (mx_iinc 5 1 28) from sn_294 25) rfl rfl rfl rfl ?_
            refine mx_J.step (sn_294 28) (fun _ _ => rfl) ?_
            exact ih2 (w2_5 + 1) (by omega) (by omega)
          · skip
            refine mx_J.step (sn_294 22) (fun _ _ => rfl) ?_
            exact mx_J.ret (sn_294 24) (fun _ _ => rfl) (hP w2_5 (by omega))
    exact c7 (Int.toNat (12 - 0) + 1) 0 (by omega) (by omega)
theorem ct_294_4099_i0_i12 {l : Launch} {D : va_G} {b0 : Nat} {ad : Nat → Nat} {Hb : Heap} {tau : Nat → Int64} {d n s : Nat} {S : Nat → xS} {Z : xZ} {h : mx_H} (hx : XH n s S Z h) (hG : GI n S Z)  {x0 : Int} (p0 : 0 ≤ x0 ∧ x0 ≤ 255) : ∃ z : Int, mx_Ca (tB l D b0 ad Hb tau) (d + 1) 294 [.ref 4099, xI x0, xI 0, xI 12] h (some (xI z), h) ∧ ((-1) ≤ z ∧ z ≤ 11) := by
  obtain ⟨r, hca, z, e, hp⟩ := Jmt (B := tB l D b0 ad Hb tau) (M := mt_294) (mi := 294) (as := [.ref 4099, xI x0, xI 0, xI 12]) (d := d + 0) (ls := [some (.ref 4099), some (xI x0), some (xI 0), some (xI 12), none, none]) rfl rfl rfl rfl rfl rfl (cw_294_4099_i0_i12 (l := l) (D := D) (b0 := b0) (ad := ad) (Hb := Hb) (tau := tau) (d := d) (Post := fun r => ∃ z : Int, r = (some (xI z), h) ∧ ((-1) ≤ z ∧ z ≤ 11)) hx hG p0 (fun z hz => ⟨z, rfl, hz⟩))
  subst e; exact ⟨z, hca, hp⟩
set_option maxRecDepth 100000 in
theorem cw_295_4099_i0_i12 {l : Launch} {D : va_G} {b0 : Nat} {ad : Nat → Nat} {Hb : Heap} {tau : Nat → Int64} {d n s : Nat} {S : Nat → xS} {Z : xZ} {h : mx_H} {Post : mx_R → Prop} (hx : XH n s S Z h) (hG : GI n S Z)  {x0 : Int} (p0 : 0 ≤ x0 ∧ x0 ≤ 255) (hP : ∀ z : Int, (-1) ≤ z ∧ z ≤ 11 → Post (some (xI z), h)) : mx_J (tB l D b0 ad Hb tau) mt_295 (d + 1) 0 [some (.ref 4099), some (xI x0), some (xI 0), some (xI 12)] [] h Post := by
    refine mx_J.step (sn_295 0) (fun _ _ => rfl) ?_
    obtain ⟨z1, hc1, b1⟩ := ct_293_ (d := d + 0) (l := l) (D := D) (b0 := b0) (ad := ad) (Hb := Hb) (tau := tau) hx hG (show 0 ≤ x0 ∧ x0 ≤ 255 by omega)
    refine Jcs (show mx_Sn _ _ 1 (mx_calls 293 1 4) from sn_295 1) hc1 rfl rfl rfl ?_
    refine Jif_ne (show mx_Sn _ _ 4 (mx_if_ne 9 7) from sn_295 4) (by omega) (fun q2 => ?_) (fun q2 => ?_)
    · skip
      refine mx_J.step (sn_295 9) (fun _ _ => rfl) ?_
      refine JcI (z := 0) (show mx_Sn _ _ 10 (mx_const (.int 0) 11) from sn_295 10) rfl ?_
      refine Jmmax (show mx_Sn _ _ 11 (mx_mmax 14) from sn_295 11) (by omega) (by omega) ⟨_, rfl⟩ rfl (fun y3 hy3 => ?_)
      refine mx_J.step (ls2 := [some (.ref 4099), some (xI x0), some (xI y3), some (xI 12)]) (sn_295 14) (fun _ _ => rfl) ?_
      refine mx_J.step (sn_295 15) (fun _ _ => rfl) ?_
      refine mx_J.step (sn_295 16) (fun _ _ => rfl) ?_
      refine Jsalen (L := sb_1) (z := 12) (show mx_Sn _ _ 17 (mx_salen 18) from sn_295 17) rfl rfl ?_
      refine Jmmin (show mx_Sn _ _ 18 (mx_mmin 21) from sn_295 18) (by omega) (by omega) ⟨_, rfl⟩ rfl (fun y4 hy4 => ?_)
      refine mx_J.step (ls2 := [some (.ref 4099), some (xI x0), some (xI y3), some (xI y4)]) (sn_295 21) (fun _ _ => rfl) ?_
      refine mx_J.step (sn_295 22) (fun _ _ => rfl) ?_
      refine mx_J.step (sn_295 23) (fun _ _ => rfl) ?_
      refine Jicmp_lt (show mx_Sn _ _ 24 (mx_icmp_lt 29 27) from sn_295 24) (by omega) (by omega) (fun q5 => ?_) (fun q5 => ?_)
      · skip
        refine mx_J.step (sn_295 29) (fun _ _ => rfl) ?_
        refine mx_J.step (sn_295 30) (fun _ _ => rfl) ?_
        refine mx_J.step (sn_295 31) (fun _ _ => rfl) ?_
        refine mx_J.step (sn_295 32) (fun _ _ => rfl) ?_
        have el6 : y3 = 0 := by omega
        rw [el6]
        have el6 : y4 = 12 := by omega
        rw [el6]
        obtain ⟨z6, hc6, b6⟩ := ct_294_4099_i0_i12 (d := d + 0) (l := l) (D := D) (b0 := b0) (ad := ad) (Hb := Hb) (tau := tau) hx hG (show 0 ≤ x0 ∧ x0 ≤ 255 by omega)
        refine Jcs (show mx_Sn _ _ 33 (mx_calls 294 4 36) from sn_295 33) hc6 rfl rfl rfl ?_
        exact mx_J.ret (sn_295 36) (fun _ _ => rfl) (hP z6 (by omega))
      · skip
        exfalso; omega
    · skip
      exfalso; omega
theorem ct_295_4099_i0_i12 {l : Launch} {D : va_G} {b0 : Nat} {ad : Nat → Nat} {Hb : Heap} {tau : Nat → Int64} {d n s : Nat} {S : Nat → xS} {Z : xZ} {h : mx_H} (hx : XH n s S Z h) (hG : GI n S Z)  {x0 : Int} (p0 : 0 ≤ x0 ∧ x0 ≤ 255) : ∃ z : Int, mx_Ca (tB l D b0 ad Hb tau) (d + 2) 295 [.ref 4099, xI x0, xI 0, xI 12] h (some (xI z), h) ∧ ((-1) ≤ z ∧ z ≤ 11) := by
  obtain ⟨r, hca, z, e, hp⟩ := Jmt (B := tB l D b0 ad Hb tau) (M := mt_295) (mi := 295) (as := [.ref 4099, xI x0, xI 0, xI 12]) (d := d + 1) (ls := [some (.ref 4099), some (xI x0), some (xI 0), some (xI 12)]) rfl rfl rfl rfl rfl rfl (cw_295_4099_i0_i12 (l := l) (D := D) (b0 := b0) (ad := ad) (Hb := Hb) (tau := tau) (d := d) (Post := fun r => ∃ z : Int, r = (some (xI z), h) ∧ ((-1) ≤ z ∧ z ≤ 11)) hx hG p0 (fun z hz => ⟨z, rfl, hz⟩))
  subst e; exact ⟨z, hca, hp⟩
set_option maxRecDepth 100000 in
theorem cw_296_4098_i0 {l : Launch} {D : va_G} {b0 : Nat} {ad : Nat → Nat} {Hb : Heap} {tau : Nat → Int64} {d n s : Nat} {S : Nat → xS} {Z : xZ} {h : mx_H} {Post : mx_R → Prop} (hx : XH n s S Z h) (hG : GI n S Z)  {x0 : Int} (p0 : 0 ≤ x0 ∧ x0 ≤ 255) (hP : ∀ z : Int, (-1) ≤ z ∧ z ≤ 11 → Post (some (xI z), h)) : mx_J (tB l D b0 ad Hb tau) mt_296 (d + 2) 0 [some (.ref 4098), some (xI x0), some (xI 0)] [] h Post := by
    refine mx_J.step (sn_296 0) (fun _ _ => rfl) ?_
    obtain ⟨z1, hc1, b1⟩ := ct_289_4098 (d := d + 1) (l := l) (D := D) (b0 := b0) (ad := ad) (Hb := Hb) (tau := tau) hx hG 
    refine Jck (show mx_Sn _ _ 1 (mx_callk 289 1 4) from sn_296 1) rfl hc1 rfl rfl rfl ?_
    refine Jif_eq (show mx_Sn _ _ 4 (mx_if_eq 23 7) from sn_296 4) (by omega) (fun q2 => ?_) (fun q2 => ?_)
    · skip
      exfalso; omega
    · skip
      refine mx_J.step (sn_296 7) (fun _ _ => rfl) ?_
      refine mx_J.step (sn_296 8) (fun _ _ => rfl) ?_
      refine mx_J.step (sn_296 11) (fun _ _ => rfl) ?_
      refine mx_J.step (sn_296 12) (fun _ _ => rfl) ?_
      refine mx_J.step (sn_296 13) (fun _ _ => rfl) ?_
      obtain ⟨z3, hc3, b3⟩ := ct_291_4098 (d := d + 0) (l := l) (D := D) (b0 := b0) (ad := ad) (Hb := Hb) (tau := tau) hx hG 
      refine Jck (show mx_Sn _ _ 14 (mx_callk 291 1 17) from sn_296 14) rfl hc3 rfl rfl rfl ?_
      have el4 : z3 = 12 := by omega
      rw [el4]
      obtain ⟨z4, hc4, b4⟩ := ct_295_4099_i0_i12 (d := d + 0) (l := l) (D := D) (b0 := b0) (ad := ad) (Hb := Hb) (tau := tau) hx hG (show 0 ≤ x0 ∧ x0 ≤ 255 by omega)
      refine Jcs (show mx_Sn _ _ 17 (mx_calls 295 4 20) from sn_296 17) hc4 rfl rfl rfl ?_
      refine mx_J.step (sn_296 20) (fun _ _ => rfl) ?_
      exact mx_J.ret (sn_296 36) (fun _ _ => rfl) (hP z4 (by omega))
theorem ct_296_4098_i0 {l : Launch} {D : va_G} {b0 : Nat} {ad : Nat → Nat} {Hb : Heap} {tau : Nat → Int64} {d n s : Nat} {S : Nat → xS} {Z : xZ} {h : mx_H} (hx : XH n s S Z h) (hG : GI n S Z)  {x0 : Int} (p0 : 0 ≤ x0 ∧ x0 ≤ 255) : ∃ z : Int, mx_Ca (tB l D b0 ad Hb tau) (d + 3) 296 [.ref 4098, xI x0, xI 0] h (some (xI z), h) ∧ ((-1) ≤ z ∧ z ≤ 11) := by
  obtain ⟨r, hca, z, e, hp⟩ := Jmt (B := tB l D b0 ad Hb tau) (M := mt_296) (mi := 296) (as := [.ref 4098, xI x0, xI 0]) (d := d + 2) (ls := [some (.ref 4098), some (xI x0), some (xI 0)]) rfl rfl rfl rfl rfl rfl (cw_296_4098_i0 (l := l) (D := D) (b0 := b0) (ad := ad) (Hb := Hb) (tau := tau) (d := d) (Post := fun r => ∃ z : Int, r = (some (xI z), h) ∧ ((-1) ≤ z ∧ z ≤ 11)) hx hG p0 (fun z hz => ⟨z, rfl, hz⟩))
  subst e; exact ⟨z, hca, hp⟩
set_option maxRecDepth 100000 in
theorem cw_297_4098 {l : Launch} {D : va_G} {b0 : Nat} {ad : Nat → Nat} {Hb : Heap} {tau : Nat → Int64} {d n s : Nat} {S : Nat → xS} {Z : xZ} {h : mx_H} {Post : mx_R → Prop} (hx : XH n s S Z h) (hG : GI n S Z)  {x0 : Int} (p0 : 0 ≤ x0 ∧ x0 ≤ 255) (hP : ∀ z : Int, (-1) ≤ z ∧ z ≤ 11 → Post (some (xI z), h)) : mx_J (tB l D b0 ad Hb tau) mt_297 (d + 3) 0 [some (.ref 4098), some (xI x0)] [] h Post := by
    refine mx_J.step (sn_297 0) (fun _ _ => rfl) ?_
    refine mx_J.step (sn_297 1) (fun _ _ => rfl) ?_
    refine JcI (z := 0) (show mx_Sn _ _ 2 (mx_const (.int 0) 3) from sn_297 2) rfl ?_
    obtain ⟨z1, hc1, b1⟩ := ct_296_4098_i0 (d := d + 0) (l := l) (D := D) (b0 := b0) (ad := ad) (Hb := Hb) (tau := tau) hx hG (show 0 ≤ x0 ∧ x0 ≤ 255 by omega)
    refine Jck (show mx_Sn _ _ 3 (mx_callk 296 3 6) from sn_297 3) rfl hc1 rfl rfl rfl ?_
    exact mx_J.ret (sn_297 6) (fun _ _ => rfl) (hP z1 (by omega))
theorem ct_297_4098 {l : Launch} {D : va_G} {b0 : Nat} {ad : Nat → Nat} {Hb : Heap} {tau : Nat → Int64} {d n s : Nat} {S : Nat → xS} {Z : xZ} {h : mx_H} (hx : XH n s S Z h) (hG : GI n S Z)  {x0 : Int} (p0 : 0 ≤ x0 ∧ x0 ≤ 255) : ∃ z : Int, mx_Ca (tB l D b0 ad Hb tau) (d + 4) 297 [.ref 4098, xI x0] h (some (xI z), h) ∧ ((-1) ≤ z ∧ z ≤ 11) := by
  obtain ⟨r, hca, z, e, hp⟩ := Jmt (B := tB l D b0 ad Hb tau) (M := mt_297) (mi := 297) (as := [.ref 4098, xI x0]) (d := d + 3) (ls := [some (.ref 4098), some (xI x0)]) rfl rfl rfl rfl rfl rfl (cw_297_4098 (l := l) (D := D) (b0 := b0) (ad := ad) (Hb := Hb) (tau := tau) (d := d) (Post := fun r => ∃ z : Int, r = (some (xI z), h) ∧ ((-1) ≤ z ∧ z ≤ 11)) hx hG p0 (fun z hz => ⟨z, rfl, hz⟩))
  subst e; exact ⟨z, hca, hp⟩
set_option maxRecDepth 100000 in
theorem cw_57_3 {l : Launch} {D : va_G} {b0 : Nat} {ad : Nat → Nat} {Hb : Heap} {tau : Nat → Int64} {d n s : Nat} {S : Nat → xS} {Z : xZ} {h : mx_H} {Post : mx_R → Prop} (hx : XH n s S Z h) (hG : GI n S Z)  {x0 x1 x2 : Int} (p0 : 0 ≤ x0 ∧ x0 ≤ 900) (p1 : 48 ≤ x1 ∧ x1 ≤ 97) (p2 : 57 ≤ x2 ∧ x2 ≤ 122) (k0 : Z 3 0 = 2) (hP : ∀ z : Int, 0 ≤ z ∧ z ≤ 1 ∧ ((z = 1 ∧ x0 < Z 3 1 ∧ x1 ≤ Z 2 x0 ∧ Z 2 x0 ≤ x2) ∨ (z = 0 ∧ ¬ (x0 < Z 3 1 ∧ x1 ≤ Z 2 x0 ∧ Z 2 x0 ≤ x2))) → Post (some (xI z), h)) : mx_J (tB l D b0 ad Hb tau) mt_57 (d + 0) 0 [some (.ref 3), some (xI x0), some (xI x1), some (xI x2)] [] h Post := by
    have a2 : 2 < n := lt83 (GI_n hG) rfl
    have s2 : S 2 = .inr (.byte, 900, 0) := GI_s hG 2 rfl
    have a3 : 3 < n := lt83 (GI_n hG) rfl
    have s3 : S 3 = .inl (7, [2, 0, 0, 0, 0, 0, 2, 0, 2, 2, 0, 2, 0, 0, 0, 0]) := GI_s hG 3 rfl
    have b1 : 0 ≤ Z 3 1 ∧ Z 3 1 ≤ 900 := hG.pr 3 1
    have b2 : (-128) ≤ Z 2 x0 ∧ Z 2 x0 ≤ 127 := hG.pr 2 x0
    refine mx_J.step (sn_57 0) (fun _ _ => rfl) ?_
    refine mx_J.step (sn_57 1) (fun _ _ => rfl) ?_
    have b4 : 0 ≤ Z 3 1 ∧ Z 3 1 ≤ 900 := hG.pr 3 1
    refine JgetI (g := 1) (z := Z 3 1) hx (show mx_Sn _ _ 2 (mx_getf 7 1 5) from sn_57 2) a3 s3 rfl rfl rfl ?_
    have c33 : ∀ (k5_0 : Int), 0 ≤ k5_0 ∧ k5_0 ≤ 1 → ((k5_0 = 1 ∧ x0 < Z 3 1 ∧ x1 ≤ Z 2 x0 ∧ Z 2 x0 ≤ x2) ∨ (k5_0 = 0 ∧ ¬ (x0 < Z 3 1 ∧ x1 ≤ Z 2 x0 ∧ Z 2 x0 ≤ x2))) → mx_J (tB l D b0 ad Hb tau) mt_57 (d + 0) 33 [some (.ref 3), some (xI x0), some (xI x1), some (xI x2)] [xI k5_0] h Post := by
      intro k5_0 f5_0 f5_1
      have b6 : 2 ≤ Z 3 0 ∧ Z 3 0 ≤ 4 := hG.pr 3 0
      have b7 : 0 ≤ Z 3 1 ∧ Z 3 1 ≤ 900 := hG.pr 3 1
      have b8 : (-128) ≤ Z 2 x0 ∧ Z 2 x0 ≤ 127 := hG.pr 2 x0
      exact mx_J.ret (show mx_Sn _ _ 33 (mx_zret) from sn_57 33) (fun _ _ => zr_ok (by omega)) (hP k5_0 (by omega))
    have c32 : ¬ (x0 < Z 3 1 ∧ x1 ≤ Z 2 x0 ∧ Z 2 x0 ≤ x2) → mx_J (tB l D b0 ad Hb tau) mt_57 (d + 0) 32 [some (.ref 3), some (xI x0), some (xI x1), some (xI x2)] [] h Post := by
      intro f9_0
      refine JcI (z := 0) (show mx_Sn _ _ 32 (mx_const (.int 0) 33) from sn_57 32) rfl ?_
      exact c33 0 (by omega) (by omega)
    refine Jicmp_ge (show mx_Sn _ _ 5 (mx_icmp_ge 32 8) from sn_57 5) (by omega) (by omega) (fun q10 => ?_) (fun q10 => ?_)
    · skip
      exact c32 (by omega)
    · skip
      refine mx_J.step (sn_57 8) (fun _ _ => rfl) ?_
      refine JgetR (g := 0) (b := 2) hx (show mx_Sn _ _ 9 (mx_getf 7 0 12) from sn_57 9) a3 s3 rfl rfl (show Z 3 0 = ((2 : Nat) : Int) from k0) ?_
      refine mx_J.step (sn_57 12) (fun _ _ => rfl) ?_
      have b12 : (-128) ≤ Z 2 x0 ∧ Z 2 x0 ≤ 127 := hG.pr 2 x0
      refine JbaldI (z := Z 2 x0) hx (show mx_Sn _ _ 13 (mx_bald 14) from sn_57 13) a2 s2 (by omega) rfl ?_
      refine mx_J.step (sn_57 14) (fun _ _ => rfl) ?_
      refine Jicmp_lt (show mx_Sn _ _ 15 (mx_icmp_lt 32 18) from sn_57 15) (by omega) (by omega) (fun q13 => ?_) (fun q13 => ?_)
      · skip
        exact c32 (by omega)
      · skip
        refine mx_J.step (sn_57 18) (fun _ _ => rfl) ?_
        refine JgetR (g := 0) (b := 2) hx (show mx_Sn _ _ 19 (mx_getf 7 0 22) from sn_57 19) a3 s3 rfl rfl (show Z 3 0 = ((2 : Nat) : Int) from k0) ?_
        refine mx_J.step (sn_57 22) (fun _ _ => rfl) ?_
        have b15 : (-128) ≤ Z 2 x0 ∧ Z 2 x0 ≤ 127 := hG.pr 2 x0
        refine JbaldI (z := Z 2 x0) hx (show mx_Sn _ _ 23 (mx_bald 24) from sn_57 23) a2 s2 (by omega) rfl ?_
        refine mx_J.step (sn_57 24) (fun _ _ => rfl) ?_
        refine Jicmp_gt (show mx_Sn _ _ 25 (mx_icmp_gt 32 28) from sn_57 25) (by omega) (by omega) (fun q16 => ?_) (fun q16 => ?_)
        · skip
          exact c32 (by omega)
        · skip
          refine JcI (z := 1) (show mx_Sn _ _ 28 (mx_const (.int 1) 29) from sn_57 28) rfl ?_
          refine mx_J.step (sn_57 29) (fun _ _ => rfl) ?_
          exact c33 1 (by omega) (by omega)
theorem ct_57_3 {l : Launch} {D : va_G} {b0 : Nat} {ad : Nat → Nat} {Hb : Heap} {tau : Nat → Int64} {d n s : Nat} {S : Nat → xS} {Z : xZ} {h : mx_H} (hx : XH n s S Z h) (hG : GI n S Z)  {x0 x1 x2 : Int} (p0 : 0 ≤ x0 ∧ x0 ≤ 900) (p1 : 48 ≤ x1 ∧ x1 ≤ 97) (p2 : 57 ≤ x2 ∧ x2 ≤ 122) (k0 : Z 3 0 = 2) : ∃ z : Int, mx_Ca (tB l D b0 ad Hb tau) (d + 1) 57 [.ref 3, xI x0, xI x1, xI x2] h (some (xI z), h) ∧ (0 ≤ z ∧ z ≤ 1 ∧ ((z = 1 ∧ x0 < Z 3 1 ∧ x1 ≤ Z 2 x0 ∧ Z 2 x0 ≤ x2) ∨ (z = 0 ∧ ¬ (x0 < Z 3 1 ∧ x1 ≤ Z 2 x0 ∧ Z 2 x0 ≤ x2)))) := by
  obtain ⟨r, hca, z, e, hp⟩ := Jmt (B := tB l D b0 ad Hb tau) (M := mt_57) (mi := 57) (as := [.ref 3, xI x0, xI x1, xI x2]) (d := d + 0) (ls := [some (.ref 3), some (xI x0), some (xI x1), some (xI x2)]) rfl rfl rfl rfl rfl rfl (cw_57_3 (l := l) (D := D) (b0 := b0) (ad := ad) (Hb := Hb) (tau := tau) (d := d) (Post := fun r => ∃ z : Int, r = (some (xI z), h) ∧ (0 ≤ z ∧ z ≤ 1 ∧ ((z = 1 ∧ x0 < Z 3 1 ∧ x1 ≤ Z 2 x0 ∧ Z 2 x0 ≤ x2) ∨ (z = 0 ∧ ¬ (x0 < Z 3 1 ∧ x1 ≤ Z 2 x0 ∧ Z 2 x0 ≤ x2))))) hx hG p0 p1 p2 k0 (fun z hz => ⟨z, rfl, hz⟩))
  subst e; exact ⟨z, hca, hp⟩
set_option maxRecDepth 100000 in
theorem cw_59_3 {l : Launch} {D : va_G} {b0 : Nat} {ad : Nat → Nat} {Hb : Heap} {tau : Nat → Int64} {d n s : Nat} {S : Nat → xS} {Z : xZ} {h : mx_H} {Post : mx_R → Prop} (hx : XH n s S Z h) (hG : GI n S Z)   (k0 : Z 3 0 = 2) (k1 : Z 3 3 = Z 3 2) (k2 : Z 3 2 < Z 3 1) (k3 : (97 ≤ Z 2 (Z 3 2) ∧ Z 2 (Z 3 2) ≤ 122)) (hP : ∀ (z : Int) (Z' : xZ) (h' : mx_H), XH n s S Z' h' → GI n S Z' → fr' [(3, 2)] Z Z' → 299 ≤ z ∧ z ≤ 376 ∧ (Z 3 2 < Z' 3 2 ∧ Z' 3 2 ≤ Z 3 1) → Post (some (xI z), h')) : mx_J (tB l D b0 ad Hb tau) mt_59 (d + 4) 0 [some (.ref 3), none, none, none, none, none, none] [] h Post := by
    have a2 : 2 < n := lt83 (GI_n hG) rfl
    have s2 : S 2 = .inr (.byte, 900, 0) := GI_s hG 2 rfl
    have a3 : 3 < n := lt83 (GI_n hG) rfl
    have s3 : S 3 = .inl (7, [2, 0, 0, 0, 0, 0, 2, 0, 2, 2, 0, 2, 0, 0, 0, 0]) := GI_s hG 3 rfl
    have c0 : ∀ (m1 : Nat)  (Z2 : xZ) (h2 : mx_H), Z 3 1 - Z2 3 2 < (m1 : Int) → (Z 3 2 ≤ Z2 3 2 ∧ Z2 3 2 ≤ Z 3 1) → XH n s S Z2 h2 → GI n S Z2 → fr' [(3, 2)] Z Z2 → mx_J (tB l D b0 ad Hb tau) mt_59 (d + 4) 0 [some (.ref 3), none, none, none, none, none, none] [] h2 Post := by
      intro m1
      induction m1 with
      | zero => intro Z2 h2 q1 f1_0 hx2 hG2 hf2; exact absurd q1 (by omega)
      | succ m1 ih1 =>
        intro Z2 h2 q1 f1_0 hx2 hG2 hf2
        have b3 : 0 ≤ Z2 3 2 ∧ Z2 3 2 ≤ 900 := hG2.pr 3 2
        have b4 : 0 ≤ Z2 3 2 ∧ Z2 3 2 ≤ 900 := hG2.pr 3 2
        have cg2 : (Z2 3 2) = Z 3 2 → Z 2 (Z2 3 2) = Z 2 (Z 3 2) := fun e => by rw [e]
        refine mx_J.step (sn_59 0) (fun _ _ => rfl) ?_
        have b6 : 0 ≤ Z2 3 2 ∧ Z2 3 2 ≤ 900 := hG2.pr 3 2
        refine JgetI (g := 2) (z := Z2 3 2) hx2 (show mx_Sn _ _ 1 (mx_getf 7 2 4) from sn_59 1) a3 s3 rfl rfl rfl ?_
        refine mx_J.step (sn_59 4) (fun _ _ => rfl) ?_
        have b8 : 0 ≤ Z 3 1 ∧ Z 3 1 ≤ 900 := hG.pr 3 1
        refine JgetI (g := 1) (z := Z 3 1) hx2 (show mx_Sn _ _ 5 (mx_getf 7 1 8) from sn_59 5) a3 s3 rfl rfl (hf2 3 1 rfl) ?_
        have c39 : (Z 3 2 < Z2 3 2) → mx_J (tB l D b0 ad Hb tau) mt_59 (d + 4) 39 [some (.ref 3), none, none, none, none, none, none] [] h2 Post := by
          intro f9_0
          have b10 : 0 ≤ Z2 3 2 ∧ Z2 3 2 ≤ 900 := hG2.pr 3 2
          refine JcI (z := 300) (show mx_Sn _ _ 39 (mx_const (.int 300) 42) from sn_59 39) rfl ?_
          refine mx_J.step (ls2 := [some (.ref 3), some (xI 300), none, none, none, none, none]) (sn_59 42) (fun _ _ => rfl) ?_
          refine JcI (z := 0) (show mx_Sn _ _ 43 (mx_const (.int 0) 44) from sn_59 43) rfl ?_
          refine mx_J.step (ls2 := [some (.ref 3), some (xI 300), some (xI 0), none, none, none, none]) (sn_59 44) (fun _ _ => rfl) ?_
          refine JcI (z := 1) (show mx_Sn _ _ 45 (mx_const (.int 1) 46) from sn_59 45) rfl ?_
          refine mx_J.step (ls2 := [some (.ref 3), some (xI 300), some (xI 0), some (xI 1), none, none, none]) (sn_59 46) (fun _ _ => rfl) ?_
          refine JcI (z := 0) (show mx_Sn _ _ 47 (mx_const (.int 0) 48) from sn_59 47) rfl ?_
          refine mx_J.step (ls2 := [some (.ref 3), some (xI 300), some (xI 0), some (xI 1), some (xI 0), none, none]) (sn_59 48) (fun _ _ => rfl) ?_
          have c50 : ∀ (m11 : Nat) (w11_1 : Int) (w11_2 : Int) (w11_3 : Int) (w11_4 : Int) (u11_5 : Option Value) (u11_6 : Option Value), 76 - w11_4 < (m11 : Int) → 300 ≤ w11_1 ∧ w11_1 ≤ 376 → 0 ≤ w11_2 ∧ w11_2 ≤ 76 → 0 ≤ w11_3 ∧ w11_3 ≤ 1 → 0 ≤ w11_4 ∧ w11_4 ≤ 76 → (w11_2 ≤ w11_4 ∧ w11_1 ≤ 300 + w11_4) → mx_J (tB l D b0 ad Hb tau) mt_59 (d + 4) 50 [some (.ref 3), some (xI w11_1), some (xI w11_2), some (xI w11_3), some (xI w11_4), u11_5, u11_6] [] h2 Post := by
            intro m11
            induction m11 with
            | zero => intro w11_1 w11_2 w11_3 w11_4 u11_5 u11_6 q11 f11_0 f11_1 f11_2 f11_3 f11_4; exact absurd q11 (by omega)
            | succ m11 ih11 =>
              intro w11_1 w11_2 w11_3 w11_4 u11_5 u11_6 q11 f11_0 f11_1 f11_2 f11_3 f11_4
              refine mx_J.step (sn_59 50) (fun _ _ => rfl) ?_
              refine mx_J.step (sn_59 52) (fun _ _ => rfl) ?_
              obtain ⟨z12, hc12, b12⟩ := ct_291_4096 (d := d + 2) (l := l) (D := D) (b0 := b0) (ad := ad) (Hb := Hb) (tau := tau) hx2 hG2 
              refine Jck (show mx_Sn _ _ 54 (mx_callk 291 1 57) from sn_59 54) rfl hc12 rfl rfl rfl ?_
              refine Jicmp_ge (show mx_Sn _ _ 57 (mx_icmp_ge 152 60) from sn_59 57) (by omega) (by omega) (fun q13 => ?_) (fun q13 => ?_)
              · skip
                refine JcI (z := 299) (show mx_Sn _ _ 152 (mx_const (.int 299) 155) from sn_59 152) rfl ?_
                have b14 : 0 ≤ Z2 3 2 ∧ Z2 3 2 ≤ 900 := hG2.pr 3 2
                have eq15 : Z2 3 0 = Z 3 0 := (hf2 3 0 rfl)
                have b16 : 2 ≤ Z 3 0 ∧ Z 3 0 ≤ 4 := hG.pr 3 0
                have eq17 : Z2 3 1 = Z 3 1 := (hf2 3 1 rfl)
                have b18 : 0 ≤ Z 3 1 ∧ Z 3 1 ≤ 900 := hG.pr 3 1
                have b19 : 0 ≤ Z2 3 2 ∧ Z2 3 2 ≤ 900 := hG2.pr 3 2
                have eq20 : Z2 3 3 = Z 3 3 := (hf2 3 3 rfl)
                have b21 : 0 ≤ Z 3 3 ∧ Z 3 3 ≤ 900 := hG.pr 3 3
                exact mx_J.ret (sn_59 155) (fun _ _ => rfl) (hP 299 Z2 h2 hx2 hG2 (fr_tr (M := [(3, 2)]) fr_rf (hf2) (M1 := []) rfl rfl) (by omega))
              · skip
                refine mx_J.step (sn_59 60) (fun _ _ => rfl) ?_
                refine mx_J.step (sn_59 62) (fun _ _ => rfl) ?_
                obtain ⟨z22, hc22, b22⟩ := ct_292_4096 (d := d + 0) (l := l) (D := D) (b0 := b0) (ad := ad) (Hb := Hb) (tau := tau) hx2 hG2 (show 0 ≤ w11_4 ∧ w11_4 ≤ 75 by omega)
                refine Jck (show mx_Sn _ _ 64 (mx_callk 292 2 67) from sn_59 64) rfl hc22 rfl rfl rfl ?_
                refine mx_J.step (ls2 := [some (.ref 3), some (xI w11_1), some (xI w11_2), some (xI w11_3), some (xI w11_4), some (xI z22), u11_6]) (sn_59 67) (fun _ _ => rfl) ?_
                refine mx_J.step (sn_59 69) (fun _ _ => rfl) ?_
                have b24 : 0 ≤ Z 3 3 ∧ Z 3 3 ≤ 900 := hG.pr 3 3
                refine JgetI (g := 3) (z := Z 3 3) hx2 (show mx_Sn _ _ 70 (mx_getf 7 3 73) from sn_59 70) a3 s3 rfl rfl (hf2 3 3 rfl) ?_
                refine mx_J.step (sn_59 73) (fun _ _ => rfl) ?_
                refine Jiadd (show mx_Sn _ _ 75 (mx_iadd 76) from sn_59 75) ?_
                refine mx_J.step (sn_59 76) (fun _ _ => rfl) ?_
                refine Jisub (show mx_Sn _ _ 77 (mx_isub 78) from sn_59 77) ?_
                refine mx_J.step (ls2 := [some (.ref 3), some (xI w11_1), some (xI w11_2), some (xI w11_3), some (xI w11_4), some (xI z22), some (xI (((Z 3 3) + w11_4) - w11_2))]) (sn_59 78) (fun _ _ => rfl) ?_
                refine mx_J.step (sn_59 80) (fun _ _ => rfl) ?_
                refine JcI (z := 32) (show mx_Sn _ _ 82 (mx_const (.int 32) 84) from sn_59 82) rfl ?_
                have c146 : ∀ (w25_1 : Int) (w25_2 : Int) (w25_3 : Int), 300 ≤ w25_1 ∧ w25_1 ≤ 376 → 0 ≤ w25_2 ∧ w25_2 ≤ 76 → 0 ≤ w25_3 ∧ w25_3 ≤ 1 → (w25_1 ≤ 301 + w11_4 ∧ w25_2 ≤ w11_4 + 1) → mx_J (tB l D b0 ad Hb tau) mt_59 (d + 4) 146 [some (.ref 3), some (xI w25_1), some (xI w25_2), some (xI w25_3), some (xI w11_4), some (xI z22), some (xI (((Z 3 3) + w11_4) - w11_2))] [] h2 Post := by
                  intro w25_1 w25_2 w25_3 f25_0 f25_1 f25_2 f25_3
                  refine Jiinc (z := w11_4) (cz := 1) (ls2 := [some (.ref 3), some (xI w25_1), some (xI w25_2), some (xI w25_3), some (xI (w11_4 + 1)), some (xI z22), some (xI (((Z 3 3) + w11_4) - w11_2))]) (show mx_Sn _ _ 146 (mx_iinc 4 1 149) from sn_59 146) rfl rfl rfl rfl ?_
                  refine mx_J.step (sn_59 149) (fun _ _ => rfl) ?_
                  exact ih11 w25_1 w25_2 w25_3 (w11_4 + 1) (some (xI z22)) (some (xI (((Z 3 3) + w11_4) - w11_2))) (by omega) (by omega) (by omega) (by omega) (by omega) (by omega)
                refine Jicmp_eq (show mx_Sn _ _ 84 (mx_icmp_eq 121 87) from sn_59 84) (by omega) (by omega) (fun q26 => ?_) (fun q26 => ?_)
                · skip
                  refine mx_J.step (sn_59 121) (fun _ _ => rfl) ?_
                  have c136 : mx_J (tB l D b0 ad Hb tau) mt_59 (d + 4) 136 [some (.ref 3), some (xI w11_1), some (xI w11_2), some (xI w11_3), some (xI w11_4), some (xI z22), some (xI (((Z 3 3) + w11_4) - w11_2))] [] h2 Post := by
                    refine Jiinc (z := w11_1) (cz := 1) (ls2 := [some (.ref 3), some (xI (w11_1 + 1)), some (xI w11_2), some (xI w11_3), some (xI w11_4), some (xI z22), some (xI (((Z 3 3) + w11_4) - w11_2))]) (show mx_Sn _ _ 136 (mx_iinc 1 1 139) from sn_59 136) rfl rfl rfl rfl ?_
                    refine mx_J.step (sn_59 139) (fun _ _ => rfl) ?_
                    refine JcI (z := 1) (show mx_Sn _ _ 141 (mx_const (.int 1) 142) from sn_59 141) rfl ?_
                    refine Jiadd (show mx_Sn _ _ 142 (mx_iadd 143) from sn_59 142) ?_
                    refine mx_J.step (ls2 := [some (.ref 3), some (xI (w11_1 + 1)), some (xI (w11_4 + 1)), some (xI w11_3), some (xI w11_4), some (xI z22), some (xI (((Z 3 3) + w11_4) - w11_2))]) (sn_59 143) (fun _ _ => rfl) ?_
                    refine JcI (z := 1) (show mx_Sn _ _ 144 (mx_const (.int 1) 145) from sn_59 144) rfl ?_
                    refine mx_J.step (ls2 := [some (.ref 3), some (xI (w11_1 + 1)), some (xI (w11_4 + 1)), some (xI 1), some (xI w11_4), some (xI z22), some (xI (((Z 3 3) + w11_4) - w11_2))]) (sn_59 145) (fun _ _ => rfl) ?_
                    exact c146 (w11_1 + 1) (w11_4 + 1) 1 (by omega) (by omega) (by omega) (by omega)
                  refine Jif_eq (show mx_Sn _ _ 122 (mx_if_eq 136 125) from sn_59 122) (by omega) (fun q28 => ?_) (fun q28 => ?_)
                  · skip
                    exact c136 
                  · skip
                    refine mx_J.step (sn_59 125) (fun _ _ => rfl) ?_
                    refine mx_J.step (sn_59 127) (fun _ _ => rfl) ?_
                    have b30 : 0 ≤ Z2 3 2 ∧ Z2 3 2 ≤ 900 := hG2.pr 3 2
                    refine JgetI (g := 2) (z := Z2 3 2) hx2 (show mx_Sn _ _ 128 (mx_getf 7 2 131) from sn_59 128) a3 s3 rfl rfl rfl ?_
                    refine Jicmp_ne (show mx_Sn _ _ 131 (mx_icmp_ne 136 134) from sn_59 131) (by omega) (by omega) (fun q31 => ?_) (fun q31 => ?_)
                    · skip
                      exact c136 
                    · skip
                      refine mx_J.step (sn_59 134) (fun _ _ => rfl) ?_
                      have b32 : 0 ≤ Z2 3 2 ∧ Z2 3 2 ≤ 900 := hG2.pr 3 2
                      have eq33 : Z2 3 0 = Z 3 0 := (hf2 3 0 rfl)
                      have b34 : 2 ≤ Z 3 0 ∧ Z 3 0 ≤ 4 := hG.pr 3 0
                      have eq35 : Z2 3 1 = Z 3 1 := (hf2 3 1 rfl)
                      have b36 : 0 ≤ Z 3 1 ∧ Z 3 1 ≤ 900 := hG.pr 3 1
                      have b37 : 0 ≤ Z2 3 2 ∧ Z2 3 2 ≤ 900 := hG2.pr 3 2
                      have eq38 : Z2 3 3 = Z 3 3 := (hf2 3 3 rfl)
                      have b39 : 0 ≤ Z 3 3 ∧ Z 3 3 ≤ 900 := hG.pr 3 3
                      exact mx_J.ret (sn_59 135) (fun _ _ => rfl) (hP w11_1 Z2 h2 hx2 hG2 (fr_tr (M := [(3, 2)]) fr_rf (hf2) (M1 := []) rfl rfl) (by omega))
                · skip
                  refine mx_J.step (sn_59 87) (fun _ _ => rfl) ?_
                  have c117 : ∀ (k40_0 : Int), 0 ≤ k40_0 ∧ k40_0 ≤ 1 → mx_J (tB l D b0 ad Hb tau) mt_59 (d + 4) 117 [some (.ref 3), some (xI w11_1), some (xI w11_2), some (xI w11_3), some (xI w11_4), some (xI z22), some (xI (((Z 3 3) + w11_4) - w11_2))] [xI k40_0] h2 Post := by
                    intro k40_0 f40_0
                    refine mx_J.step (ls2 := [some (.ref 3), some (xI w11_1), some (xI w11_2), some (xI k40_0), some (xI w11_4), some (xI z22), some (xI (((Z 3 3) + w11_4) - w11_2))]) (sn_59 117) (fun _ _ => rfl) ?_
                    refine mx_J.step (sn_59 118) (fun _ _ => rfl) ?_
                    exact c146 w11_1 w11_2 k40_0 (by omega) (by omega) (by omega) (by omega)
                  have c116 : mx_J (tB l D b0 ad Hb tau) mt_59 (d + 4) 116 [some (.ref 3), some (xI w11_1), some (xI w11_2), some (xI w11_3), some (xI w11_4), some (xI z22), some (xI (((Z 3 3) + w11_4) - w11_2))] [] h2 Post := by
                    refine JcI (z := 0) (show mx_Sn _ _ 116 (mx_const (.int 0) 117) from sn_59 116) rfl ?_
                    exact c117 0 (by omega)
                  refine Jif_eq (show mx_Sn _ _ 88 (mx_if_eq 116 91) from sn_59 88) (by omega) (fun q42 => ?_) (fun q42 => ?_)
                  · skip
                    exact c116 
                  · skip
                    refine mx_J.step (sn_59 91) (fun _ _ => rfl) ?_
                    refine mx_J.step (sn_59 93) (fun _ _ => rfl) ?_
                    have b44 : 0 ≤ Z2 3 2 ∧ Z2 3 2 ≤ 900 := hG2.pr 3 2
                    refine JgetI (g := 2) (z := Z2 3 2) hx2 (show mx_Sn _ _ 94 (mx_getf 7 2 97) from sn_59 94) a3 s3 rfl rfl rfl ?_
                    refine Jicmp_ge (show mx_Sn _ _ 97 (mx_icmp_ge 116 100) from sn_59 97) (by omega) (by omega) (fun q45 => ?_) (fun q45 => ?_)
                    · skip
                      exact c116 
                    · skip
                      refine mx_J.step (sn_59 100) (fun _ _ => rfl) ?_
                      refine JgetR (g := 0) (b := 2) hx2 (show mx_Sn _ _ 101 (mx_getf 7 0 104) from sn_59 101) a3 s3 rfl rfl (show Z2 3 0 = ((2 : Nat) : Int) from ((hf2 3 0 rfl)).trans k0) ?_
                      refine mx_J.step (sn_59 104) (fun _ _ => rfl) ?_
                      have b47 : (-128) ≤ Z 2 (((Z 3 3) + w11_4) - w11_2) ∧ Z 2 (((Z 3 3) + w11_4) - w11_2) ≤ 127 := hG.pr 2 (((Z 3 3) + w11_4) - w11_2)
                      refine JbaldI (z := Z 2 (((Z 3 3) + w11_4) - w11_2)) hx2 (show mx_Sn _ _ 106 (mx_bald 107) from sn_59 106) a2 s2 (by omega) (hf2 2 (((Z 3 3) + w11_4) - w11_2) rfl) ?_
                      refine mx_J.step (sn_59 107) (fun _ _ => rfl) ?_
                      refine Jicmp_ne (show mx_Sn _ _ 109 (mx_icmp_ne 116 112) from sn_59 109) (by omega) (by omega) (fun q48 => ?_) (fun q48 => ?_)
                      · skip
                        exact c116 
                      · skip
                        refine JcI (z := 1) (show mx_Sn _ _ 112 (mx_const (.int 1) 113) from sn_59 112) rfl ?_
                        refine mx_J.step (sn_59 113) (fun _ _ => rfl) ?_
                        exact c117 1 (by omega)
          exact c50 (Int.toNat (76 - 0) + 1) 300 0 1 0 none none (by omega) (by omega) (by omega) (by omega) (by omega) (by omega)
        refine Jicmp_ge (show mx_Sn _ _ 8 (mx_icmp_ge 39 11) from sn_59 8) (by omega) (by omega) (fun q49 => ?_) (fun q49 => ?_)
        · skip
          have b50 : 0 ≤ Z2 3 2 ∧ Z2 3 2 ≤ 900 := hG2.pr 3 2
          exact c39 (by omega)
        · skip
          refine mx_J.step (sn_59 11) (fun _ _ => rfl) ?_
          refine mx_J.step (sn_59 12) (fun _ _ => rfl) ?_
          have b52 : 0 ≤ Z2 3 2 ∧ Z2 3 2 ≤ 900 := hG2.pr 3 2
          refine JgetI (g := 2) (z := Z2 3 2) hx2 (show mx_Sn _ _ 13 (mx_getf 7 2 16) from sn_59 13) a3 s3 rfl rfl rfl ?_
          refine JcI (z := 97) (show mx_Sn _ _ 16 (mx_const (.int 97) 18) from sn_59 16) rfl ?_
          refine JcI (z := 122) (show mx_Sn _ _ 18 (mx_const (.int 122) 20) from sn_59 18) rfl ?_
          have eq54 : Z2 3 0 = Z 3 0 := (hf2 3 0 rfl)
          have b55 : 2 ≤ Z 3 0 ∧ Z 3 0 ≤ 4 := hG.pr 3 0
          have eq56 : Z2 3 1 = Z 3 1 := (hf2 3 1 rfl)
          have b57 : 0 ≤ Z 3 1 ∧ Z 3 1 ≤ 900 := hG.pr 3 1
          have eq58 : Z2 2 (Z2 3 2) = Z 2 (Z2 3 2) := (hf2 2 (Z2 3 2) rfl)
          have b59 : (-128) ≤ Z 2 (Z2 3 2) ∧ Z 2 (Z2 3 2) ≤ 127 := hG.pr 2 (Z2 3 2)
          obtain ⟨z53, hc53, b53⟩ := ct_57_3 (d := d + 3) (l := l) (D := D) (b0 := b0) (ad := ad) (Hb := Hb) (tau := tau) hx2 hG2 (show 0 ≤ Z2 3 2 ∧ Z2 3 2 ≤ 900 by omega) (show 48 ≤ 97 ∧ 97 ≤ 97 by omega) (show 57 ≤ 122 ∧ 122 ≤ 122 by omega) (show Z2 3 0 = 2 by first | omega | (simp only [eq54, eq56, eq58]; omega))
          try rw [eq54] at b53
          try rw [eq56] at b53
          try rw [eq58] at b53
          refine Jcv hx2 (show mx_Sn _ _ 20 (mx_callv 57 4 7 23) from sn_59 20) a3 s3 hc53 rfl rfl rfl ?_
          refine Jif_eq (show mx_Sn _ _ 23 (mx_if_eq 39 26) from sn_59 23) (by omega) (fun q60 => ?_) (fun q60 => ?_)
          · skip
            have b61 : 0 ≤ Z2 3 2 ∧ Z2 3 2 ≤ 900 := hG2.pr 3 2
            exact c39 (by omega)
          · skip
            refine mx_J.step (sn_59 26) (fun _ _ => rfl) ?_
            refine mx_J.step (sn_59 27) (fun _ _ => rfl) ?_
            have b63 : 0 ≤ Z2 3 2 ∧ Z2 3 2 ≤ 900 := hG2.pr 3 2
            refine JgetI (g := 2) (z := Z2 3 2) hx2 (show mx_Sn _ _ 28 (mx_getf 7 2 31) from sn_59 28) a3 s3 rfl rfl rfl ?_
            refine JcI (z := 1) (show mx_Sn _ _ 31 (mx_const (.int 1) 32) from sn_59 31) rfl ?_
            refine Jiadd (show mx_Sn _ _ 32 (mx_iadd 33) from sn_59 32) ?_
            refine JputI (g := 2) hx2 (show mx_Sn _ _ 33 (mx_putf 1 7 2 (.int) 36) from sn_59 33) a3 s3 rfl rfl rfl rfl (fun Z64 h64 hx64 hE64 => ?_)
            have hG64 := GI_up hG2 hE64 (show 0 ≤ (Z2 3 2) + 1 ∧ (Z2 3 2) + 1 ≤ 900 by omega) trivial rfl
            refine mx_J.step (sn_59 36) (fun _ _ => rfl) ?_
            have eq65 : Z64 3 2 = (Z2 3 2) + 1 := (up_at hE64)
            have eq66 : Z64 3 2 = (Z2 3 2) + 1 := (up_at hE64)
            exact ih1 Z64 h64 (by omega) (by omega) hx64 hG64 (fr_tr (M := [(3, 2)]) (fr_tr (M := [(3, 2)]) fr_rf (hf2) (M1 := []) rfl rfl) (fr_up hE64) rfl rfl)
    have b67 : 0 ≤ Z 3 2 ∧ Z 3 2 ≤ 900 := hG.pr 3 2
    have b68 : 0 ≤ Z 3 2 ∧ Z 3 2 ≤ 900 := hG.pr 3 2
    exact c0 (Int.toNat (Z 3 1 - Z 3 2) + 1) Z h (by omega) (by omega) hx hG fr_rf
theorem ct_59_3 {l : Launch} {D : va_G} {b0 : Nat} {ad : Nat → Nat} {Hb : Heap} {tau : Nat → Int64} {d n s : Nat} {S : Nat → xS} {Z : xZ} {h : mx_H} (hx : XH n s S Z h) (hG : GI n S Z)   (k0 : Z 3 0 = 2) (k1 : Z 3 3 = Z 3 2) (k2 : Z 3 2 < Z 3 1) (k3 : (97 ≤ Z 2 (Z 3 2) ∧ Z 2 (Z 3 2) ≤ 122)) : ∃ (z : Int) (Z' : xZ) (h' : mx_H), mx_Ca (tB l D b0 ad Hb tau) (d + 5) 59 [.ref 3] h (some (xI z), h') ∧ XH n s S Z' h' ∧ GI n S Z' ∧ fr' [(3, 2)] Z Z' ∧ (299 ≤ z ∧ z ≤ 376 ∧ (Z 3 2 < Z' 3 2 ∧ Z' 3 2 ≤ Z 3 1)) := by
  obtain ⟨r, hca, z, Z', h', e, q⟩ := Jmt (B := tB l D b0 ad Hb tau) (M := mt_59) (mi := 59) (as := [.ref 3]) (d := d + 4) (ls := [some (.ref 3), none, none, none, none, none, none]) rfl rfl rfl rfl rfl rfl (cw_59_3 (l := l) (D := D) (b0 := b0) (ad := ad) (Hb := Hb) (tau := tau) (d := d) (Post := fun r => ∃ (z : Int) (Z' : xZ) (h' : mx_H), r = (some (xI z), h') ∧ XH n s S Z' h' ∧ GI n S Z' ∧ fr' [(3, 2)] Z Z' ∧ (299 ≤ z ∧ z ≤ 376 ∧ (Z 3 2 < Z' 3 2 ∧ Z' 3 2 ≤ Z 3 1))) hx hG k0 k1 k2 k3 (fun z Z' h' q1 q2 q3 q4 => ⟨z, Z', h', rfl, q1, q2, q3, q4⟩))
  subst e; exact ⟨z, Z', h', hca, q⟩
set_option maxRecDepth 100000 in
theorem cw_58_3 {l : Launch} {D : va_G} {b0 : Nat} {ad : Nat → Nat} {Hb : Heap} {tau : Nat → Int64} {d n s : Nat} {S : Nat → xS} {Z : xZ} {h : mx_H} {Post : mx_R → Prop} (hx : XH n s S Z h) (hG : GI n S Z)   (k0 : Z 3 0 = 2) (k1 : Z 3 3 = Z 3 2) (k2 : Z 3 2 < Z 3 1) (k3 : (48 ≤ Z 2 (Z 3 2) ∧ Z 2 (Z 3 2) ≤ 57)) (hP : ∀ (z : Int) (Z' : xZ) (h' : mx_H), XH n s S Z' h' → GI n S Z' → fr' [(3, 2), (3, 5)] Z Z' → 1 ≤ z ∧ z ≤ 2 ∧ (Z 3 2 < Z' 3 2 ∧ Z' 3 2 ≤ Z 3 1) → Post (some (xI z), h')) : mx_J (tB l D b0 ad Hb tau) mt_58 (d + 1) 0 [some (.ref 3)] [] h Post := by
    have a2 : 2 < n := lt83 (GI_n hG) rfl
    have s2 : S 2 = .inr (.byte, 900, 0) := GI_s hG 2 rfl
    have a3 : 3 < n := lt83 (GI_n hG) rfl
    have s3 : S 3 = .inl (7, [2, 0, 0, 0, 0, 0, 2, 0, 2, 2, 0, 2, 0, 0, 0, 0]) := GI_s hG 3 rfl
    have b1 : 0 ≤ Z 3 3 ∧ Z 3 3 ≤ 900 := hG.pr 3 3
    refine mx_J.step (sn_58 0) (fun _ _ => rfl) ?_
    refine JcI (z := 0) (show mx_Sn _ _ 1 (mx_const (.int 0) 2) from sn_58 1) rfl ?_
    refine JputI (g := 5) hx (show mx_Sn _ _ 2 (mx_putf 1 7 5 (.int) 5) from sn_58 2) a3 s3 rfl rfl rfl rfl (fun Z2 h2 hx2 hE2 => ?_)
    have hG2 := GI_up hG hE2 (show 0 ≤ 0 ∧ 0 ≤ 999 by omega) trivial rfl
    have c5 : ∀ (m3 : Nat)  (Z4 : xZ) (h4 : mx_H), Z 3 1 - Z4 3 2 < (m3 : Int) → (Z 3 2 ≤ Z4 3 2 ∧ Z4 3 2 ≤ Z 3 1) → (Z4 3 2 = Z 3 2 → Z4 3 5 = 0) → (Z4 3 2 ≤ Z 3 2 + 1 → Z4 3 5 ≤ 9) → (Z4 3 2 ≤ Z 3 2 + 2 → Z4 3 5 ≤ 99) → XH n s S Z4 h4 → GI n S Z4 → fr' [(3, 2), (3, 5)] Z2 Z4 → mx_J (tB l D b0 ad Hb tau) mt_58 (d + 1) 5 [some (.ref 3)] [] h4 Post := by
      intro m3
      induction m3 with
      | zero => intro Z4 h4 q3 f3_0 f3_1 f3_2 f3_3 hx4 hG4 hf4; exact absurd q3 (by omega)
      | succ m3 ih3 =>
        intro Z4 h4 q3 f3_0 f3_1 f3_2 f3_3 hx4 hG4 hf4
        have b5 : 0 ≤ Z4 3 2 ∧ Z4 3 2 ≤ 900 := hG4.pr 3 2
        have b6 : 0 ≤ Z4 3 2 ∧ Z4 3 2 ≤ 900 := hG4.pr 3 2
        have b7 : 0 ≤ Z4 3 5 ∧ Z4 3 5 ≤ 999 := hG4.pr 3 5
        have b8 : 0 ≤ Z4 3 2 ∧ Z4 3 2 ≤ 900 := hG4.pr 3 2
        have b9 : 0 ≤ Z4 3 5 ∧ Z4 3 5 ≤ 999 := hG4.pr 3 5
        have b10 : 0 ≤ Z4 3 2 ∧ Z4 3 2 ≤ 900 := hG4.pr 3 2
        have b11 : 0 ≤ Z4 3 5 ∧ Z4 3 5 ≤ 999 := hG4.pr 3 5
        have b12 : 0 ≤ Z4 3 2 ∧ Z4 3 2 ≤ 900 := hG4.pr 3 2
        have cg4 : (Z4 3 2) = Z 3 2 → Z 2 (Z4 3 2) = Z 2 (Z 3 2) := fun e => by rw [e]
        refine mx_J.step (sn_58 5) (fun _ _ => rfl) ?_
        have b14 : 0 ≤ Z4 3 2 ∧ Z4 3 2 ≤ 900 := hG4.pr 3 2
        refine JgetI (g := 2) (z := Z4 3 2) hx4 (show mx_Sn _ _ 6 (mx_getf 7 2 9) from sn_58 6) a3 s3 rfl rfl rfl ?_
        refine mx_J.step (sn_58 9) (fun _ _ => rfl) ?_
        have b16 : 0 ≤ Z 3 1 ∧ Z 3 1 ≤ 900 := hG.pr 3 1
        refine JgetI (g := 1) (z := Z 3 1) hx4 (show mx_Sn _ _ 10 (mx_getf 7 1 13) from sn_58 10) a3 s3 rfl rfl ((hf4 3 1 rfl).trans (up_ni hE2 (by decide))) ?_
        have c81 : (Z 3 2 < Z4 3 2) → mx_J (tB l D b0 ad Hb tau) mt_58 (d + 1) 81 [some (.ref 3)] [] h4 Post := by
          intro f17_0
          have b18 : 0 ≤ Z4 3 2 ∧ Z4 3 2 ≤ 900 := hG4.pr 3 2
          refine mx_J.step (sn_58 81) (fun _ _ => rfl) ?_
          have b20 : 0 ≤ Z4 3 2 ∧ Z4 3 2 ≤ 900 := hG4.pr 3 2
          refine JgetI (g := 2) (z := Z4 3 2) hx4 (show mx_Sn _ _ 82 (mx_getf 7 2 85) from sn_58 82) a3 s3 rfl rfl rfl ?_
          refine mx_J.step (sn_58 85) (fun _ _ => rfl) ?_
          have b22 : 0 ≤ Z 3 3 ∧ Z 3 3 ≤ 900 := hG.pr 3 3
          refine JgetI (g := 3) (z := Z 3 3) hx4 (show mx_Sn _ _ 86 (mx_getf 7 3 89) from sn_58 86) a3 s3 rfl rfl ((hf4 3 3 rfl).trans (up_ni hE2 (by decide))) ?_
          refine Jisub (show mx_Sn _ _ 89 (mx_isub 90) from sn_58 89) ?_
          refine JcI (z := 3) (show mx_Sn _ _ 90 (mx_const (.int 3) 91) from sn_58 90) rfl ?_
          have c99 : ∀ (k23_0 : Int), 1 ≤ k23_0 ∧ k23_0 ≤ 2 → mx_J (tB l D b0 ad Hb tau) mt_58 (d + 1) 99 [some (.ref 3)] [xI k23_0] h4 Post := by
            intro k23_0 f23_0
            have b24 : 0 ≤ Z4 3 2 ∧ Z4 3 2 ≤ 900 := hG4.pr 3 2
            have eq25 : Z4 3 0 = Z 3 0 := ((hf4 3 0 rfl).trans (up_ni hE2 (by decide)))
            have b26 : 2 ≤ Z 3 0 ∧ Z 3 0 ≤ 4 := hG.pr 3 0
            have eq27 : Z4 3 1 = Z 3 1 := ((hf4 3 1 rfl).trans (up_ni hE2 (by decide)))
            have b28 : 0 ≤ Z 3 1 ∧ Z 3 1 ≤ 900 := hG.pr 3 1
            have b29 : 0 ≤ Z4 3 2 ∧ Z4 3 2 ≤ 900 := hG4.pr 3 2
            have eq30 : Z4 3 3 = Z 3 3 := ((hf4 3 3 rfl).trans (up_ni hE2 (by decide)))
            have b31 : 0 ≤ Z 3 3 ∧ Z 3 3 ≤ 900 := hG.pr 3 3
            exact mx_J.ret (sn_58 99) (fun _ _ => rfl) (hP k23_0 Z4 h4 hx4 hG4 (fr_tr (M := [(3, 2), (3, 5)]) (fr_tr (M := [(3, 2), (3, 5)]) fr_rf (fr_up hE2) (M1 := []) rfl rfl) (hf4) rfl rfl) (by omega))
          refine Jicmp_le (show mx_Sn _ _ 91 (mx_icmp_le 98 94) from sn_58 91) (by omega) (by omega) (fun q32 => ?_) (fun q32 => ?_)
          · skip
            refine JcI (z := 1) (show mx_Sn _ _ 98 (mx_const (.int 1) 99) from sn_58 98) rfl ?_
            exact c99 1 (by omega)
          · skip
            refine JcI (z := 2) (show mx_Sn _ _ 94 (mx_const (.int 2) 95) from sn_58 94) rfl ?_
            refine mx_J.step (sn_58 95) (fun _ _ => rfl) ?_
            exact c99 2 (by omega)
        refine Jicmp_ge (show mx_Sn _ _ 13 (mx_icmp_ge 81 16) from sn_58 13) (by omega) (by omega) (fun q33 => ?_) (fun q33 => ?_)
        · skip
          have b34 : 0 ≤ Z4 3 2 ∧ Z4 3 2 ≤ 900 := hG4.pr 3 2
          exact c81 (by omega)
        · skip
          refine mx_J.step (sn_58 16) (fun _ _ => rfl) ?_
          refine mx_J.step (sn_58 17) (fun _ _ => rfl) ?_
          have b36 : 0 ≤ Z4 3 2 ∧ Z4 3 2 ≤ 900 := hG4.pr 3 2
          refine JgetI (g := 2) (z := Z4 3 2) hx4 (show mx_Sn _ _ 18 (mx_getf 7 2 21) from sn_58 18) a3 s3 rfl rfl rfl ?_
          refine JcI (z := 48) (show mx_Sn _ _ 21 (mx_const (.int 48) 23) from sn_58 21) rfl ?_
          refine JcI (z := 57) (show mx_Sn _ _ 23 (mx_const (.int 57) 25) from sn_58 23) rfl ?_
          have eq38 : Z4 3 0 = Z 3 0 := ((hf4 3 0 rfl).trans (up_ni hE2 (by decide)))
          have b39 : 2 ≤ Z 3 0 ∧ Z 3 0 ≤ 4 := hG.pr 3 0
          have eq40 : Z4 3 1 = Z 3 1 := ((hf4 3 1 rfl).trans (up_ni hE2 (by decide)))
          have b41 : 0 ≤ Z 3 1 ∧ Z 3 1 ≤ 900 := hG.pr 3 1
          have eq42 : Z4 2 (Z4 3 2) = Z 2 (Z4 3 2) := ((hf4 2 (Z4 3 2) rfl).trans (up_nk hE2 rfl))
          have b43 : (-128) ≤ Z 2 (Z4 3 2) ∧ Z 2 (Z4 3 2) ≤ 127 := hG.pr 2 (Z4 3 2)
          obtain ⟨z37, hc37, b37⟩ := ct_57_3 (d := d + 0) (l := l) (D := D) (b0 := b0) (ad := ad) (Hb := Hb) (tau := tau) hx4 hG4 (show 0 ≤ Z4 3 2 ∧ Z4 3 2 ≤ 900 by omega) (show 48 ≤ 48 ∧ 48 ≤ 97 by omega) (show 57 ≤ 57 ∧ 57 ≤ 122 by omega) (show Z4 3 0 = 2 by first | omega | (simp only [eq38, eq40, eq42]; omega))
          try rw [eq38] at b37
          try rw [eq40] at b37
          try rw [eq42] at b37
          refine Jcv hx4 (show mx_Sn _ _ 25 (mx_callv 57 4 7 28) from sn_58 25) a3 s3 hc37 rfl rfl rfl ?_
          refine Jif_eq (show mx_Sn _ _ 28 (mx_if_eq 81 31) from sn_58 28) (by omega) (fun q44 => ?_) (fun q44 => ?_)
          · skip
            have b45 : 0 ≤ Z4 3 2 ∧ Z4 3 2 ≤ 900 := hG4.pr 3 2
            exact c81 (by omega)
          · skip
            refine mx_J.step (sn_58 31) (fun _ _ => rfl) ?_
            have b47 : 0 ≤ Z4 3 2 ∧ Z4 3 2 ≤ 900 := hG4.pr 3 2
            refine JgetI (g := 2) (z := Z4 3 2) hx4 (show mx_Sn _ _ 32 (mx_getf 7 2 35) from sn_58 32) a3 s3 rfl rfl rfl ?_
            refine mx_J.step (sn_58 35) (fun _ _ => rfl) ?_
            have b49 : 0 ≤ Z 3 3 ∧ Z 3 3 ≤ 900 := hG.pr 3 3
            refine JgetI (g := 3) (z := Z 3 3) hx4 (show mx_Sn _ _ 36 (mx_getf 7 3 39) from sn_58 36) a3 s3 rfl rfl ((hf4 3 3 rfl).trans (up_ni hE2 (by decide))) ?_
            refine Jisub (show mx_Sn _ _ 39 (mx_isub 40) from sn_58 39) ?_
            refine JcI (z := 3) (show mx_Sn _ _ 40 (mx_const (.int 3) 41) from sn_58 40) rfl ?_
            have c68 : ∀  (Z51 : xZ) (h51 : mx_H), ((Z51 3 2 ≤ Z 3 2 → Z51 3 5 ≤ 9) ∧ (Z51 3 2 ≤ Z 3 2 + 1 → Z51 3 5 ≤ 99) ∧ Z51 3 2 < Z 3 1) → XH n s S Z51 h51 → GI n S Z51 → fr' [(3, 5)] Z4 Z51 → mx_J (tB l D b0 ad Hb tau) mt_58 (d + 1) 68 [some (.ref 3)] [] h51 Post := by
              intro Z51 h51 f50_0 hx51 hG51 hf51
              have eq52 : Z51 3 2 = Z4 3 2 := (hf51 3 2 rfl)
              have b53 : 0 ≤ Z4 3 2 ∧ Z4 3 2 ≤ 900 := hG4.pr 3 2
              have b54 : 0 ≤ Z51 3 5 ∧ Z51 3 5 ≤ 999 := hG51.pr 3 5
              refine mx_J.step (sn_58 68) (fun _ _ => rfl) ?_
              refine mx_J.step (sn_58 69) (fun _ _ => rfl) ?_
              have b56 : 0 ≤ Z4 3 2 ∧ Z4 3 2 ≤ 900 := hG4.pr 3 2
              refine JgetI (g := 2) (z := Z4 3 2) hx51 (show mx_Sn _ _ 70 (mx_getf 7 2 73) from sn_58 70) a3 s3 rfl rfl (hf51 3 2 rfl) ?_
              refine JcI (z := 1) (show mx_Sn _ _ 73 (mx_const (.int 1) 74) from sn_58 73) rfl ?_
              refine Jiadd (show mx_Sn _ _ 74 (mx_iadd 75) from sn_58 74) ?_
              refine JputI (g := 2) hx51 (show mx_Sn _ _ 75 (mx_putf 1 7 2 (.int) 78) from sn_58 75) a3 s3 rfl rfl rfl rfl (fun Z57 h57 hx57 hE57 => ?_)
              have hG57 := GI_up hG51 hE57 (show 0 ≤ (Z4 3 2) + 1 ∧ (Z4 3 2) + 1 ≤ 900 by omega) trivial rfl
              refine mx_J.step (sn_58 78) (fun _ _ => rfl) ?_
              have eq58 : Z57 3 2 = (Z4 3 2) + 1 := (up_at hE57)
              have eq59 : Z57 3 2 = (Z4 3 2) + 1 := (up_at hE57)
              have eq60 : Z57 3 5 = Z51 3 5 := (up_ni hE57 (by decide))
              have b61 : 0 ≤ Z51 3 5 ∧ Z51 3 5 ≤ 999 := hG51.pr 3 5
              have eq62 : Z57 3 2 = (Z4 3 2) + 1 := (up_at hE57)
              have eq63 : Z57 3 5 = Z51 3 5 := (up_ni hE57 (by decide))
              have b64 : 0 ≤ Z51 3 5 ∧ Z51 3 5 ≤ 999 := hG51.pr 3 5
              have eq65 : Z57 3 2 = (Z4 3 2) + 1 := (up_at hE57)
              have eq66 : Z57 3 5 = Z51 3 5 := (up_ni hE57 (by decide))
              have b67 : 0 ≤ Z51 3 5 ∧ Z51 3 5 ≤ 999 := hG51.pr 3 5
              have eq68 : Z57 3 2 = (Z4 3 2) + 1 := (up_at hE57)
              exact ih3 Z57 h57 (by omega) (by omega) (by omega) (by omega) (by omega) hx57 hG57 (fr_tr (M := [(3, 2), (3, 5)]) (fr_tr (M := [(3, 2), (3, 5)]) (fr_tr (M := [(3, 2), (3, 5)]) fr_rf (hf4) (M1 := []) rfl rfl) (hf51) rfl rfl) (fr_up hE57) rfl rfl)
            refine Jicmp_ge (show mx_Sn _ _ 41 (mx_icmp_ge 68 44) from sn_58 41) (by omega) (by omega) (fun q69 => ?_) (fun q69 => ?_)
            · skip
              have b70 : 0 ≤ Z4 3 2 ∧ Z4 3 2 ≤ 900 := hG4.pr 3 2
              have b71 : 0 ≤ Z4 3 5 ∧ Z4 3 5 ≤ 999 := hG4.pr 3 5
              exact c68 Z4 h4 (by omega) hx4 hG4 fr_rf
            · skip
              refine mx_J.step (sn_58 44) (fun _ _ => rfl) ?_
              refine mx_J.step (sn_58 45) (fun _ _ => rfl) ?_
              have b73 : 0 ≤ Z4 3 5 ∧ Z4 3 5 ≤ 999 := hG4.pr 3 5
              refine JgetI (g := 5) (z := Z4 3 5) hx4 (show mx_Sn _ _ 46 (mx_getf 7 5 49) from sn_58 46) a3 s3 rfl rfl rfl ?_
              refine JcI (z := 10) (show mx_Sn _ _ 49 (mx_const (.int 10) 51) from sn_58 49) rfl ?_
              refine Jimul (show mx_Sn _ _ 51 (mx_imul 52) from sn_58 51) ?_
              refine mx_J.step (sn_58 52) (fun _ _ => rfl) ?_
              refine JgetR (g := 0) (b := 2) hx4 (show mx_Sn _ _ 53 (mx_getf 7 0 56) from sn_58 53) a3 s3 rfl rfl (show Z4 3 0 = ((2 : Nat) : Int) from (((hf4 3 0 rfl).trans (up_ni hE2 (by decide)))).trans k0) ?_
              refine mx_J.step (sn_58 56) (fun _ _ => rfl) ?_
              have b76 : 0 ≤ Z4 3 2 ∧ Z4 3 2 ≤ 900 := hG4.pr 3 2
              refine JgetI (g := 2) (z := Z4 3 2) hx4 (show mx_Sn _ _ 57 (mx_getf 7 2 60) from sn_58 57) a3 s3 rfl rfl rfl ?_
              have b77 : (-128) ≤ Z 2 (Z4 3 2) ∧ Z 2 (Z4 3 2) ≤ 127 := hG.pr 2 (Z4 3 2)
              refine JbaldI (z := Z 2 (Z4 3 2)) hx4 (show mx_Sn _ _ 60 (mx_bald 61) from sn_58 60) a2 s2 (by omega) ((hf4 2 (Z4 3 2) rfl).trans (up_nk hE2 rfl)) ?_
              refine Jiadd (show mx_Sn _ _ 61 (mx_iadd 62) from sn_58 61) ?_
              refine JcI (z := 48) (show mx_Sn _ _ 62 (mx_const (.int 48) 64) from sn_58 62) rfl ?_
              refine Jisub (show mx_Sn _ _ 64 (mx_isub 65) from sn_58 64) ?_
              refine JputI (g := 5) hx4 (show mx_Sn _ _ 65 (mx_putf 1 7 5 (.int) 68) from sn_58 65) a3 s3 rfl rfl rfl rfl (fun Z78 h78 hx78 hE78 => ?_)
              have hG78 := GI_up hG4 hE78 (show 0 ≤ (((Z4 3 5) * 10) + (Z 2 (Z4 3 2))) - 48 ∧ (((Z4 3 5) * 10) + (Z 2 (Z4 3 2))) - 48 ≤ 999 by omega) trivial rfl
              have eq79 : Z78 3 2 = Z4 3 2 := (up_ni hE78 (by decide))
              have b80 : 0 ≤ Z4 3 2 ∧ Z4 3 2 ≤ 900 := hG4.pr 3 2
              have eq81 : Z78 3 5 = (((Z4 3 5) * 10) + (Z 2 (Z4 3 2))) - 48 := (up_at hE78)
              exact c68 Z78 h78 (by omega) hx78 hG78 (fr_tr (M := [(3, 5)]) fr_rf (fr_up hE78) (M1 := []) rfl rfl)
    have eq82 : Z2 3 2 = Z 3 2 := (up_ni hE2 (by decide))
    have b83 : 0 ≤ Z 3 2 ∧ Z 3 2 ≤ 900 := hG.pr 3 2
    have eq84 : Z2 3 2 = Z 3 2 := (up_ni hE2 (by decide))
    have b85 : 0 ≤ Z 3 2 ∧ Z 3 2 ≤ 900 := hG.pr 3 2
    have eq86 : Z2 3 5 = 0 := (up_at hE2)
    have eq87 : Z2 3 2 = Z 3 2 := (up_ni hE2 (by decide))
    have b88 : 0 ≤ Z 3 2 ∧ Z 3 2 ≤ 900 := hG.pr 3 2
    have eq89 : Z2 3 5 = 0 := (up_at hE2)
    have eq90 : Z2 3 2 = Z 3 2 := (up_ni hE2 (by decide))
    have b91 : 0 ≤ Z 3 2 ∧ Z 3 2 ≤ 900 := hG.pr 3 2
    have eq92 : Z2 3 5 = 0 := (up_at hE2)
    have eq93 : Z2 3 2 = Z 3 2 := (up_ni hE2 (by decide))
    have b94 : 0 ≤ Z 3 2 ∧ Z 3 2 ≤ 900 := hG.pr 3 2
    exact c5 (Int.toNat (Z 3 1 - Z2 3 2) + 1) Z2 h2 (by omega) (by omega) (by omega) (by omega) (by omega) hx2 hG2 fr_rf
theorem ct_58_3 {l : Launch} {D : va_G} {b0 : Nat} {ad : Nat → Nat} {Hb : Heap} {tau : Nat → Int64} {d n s : Nat} {S : Nat → xS} {Z : xZ} {h : mx_H} (hx : XH n s S Z h) (hG : GI n S Z)   (k0 : Z 3 0 = 2) (k1 : Z 3 3 = Z 3 2) (k2 : Z 3 2 < Z 3 1) (k3 : (48 ≤ Z 2 (Z 3 2) ∧ Z 2 (Z 3 2) ≤ 57)) : ∃ (z : Int) (Z' : xZ) (h' : mx_H), mx_Ca (tB l D b0 ad Hb tau) (d + 2) 58 [.ref 3] h (some (xI z), h') ∧ XH n s S Z' h' ∧ GI n S Z' ∧ fr' [(3, 2), (3, 5)] Z Z' ∧ (1 ≤ z ∧ z ≤ 2 ∧ (Z 3 2 < Z' 3 2 ∧ Z' 3 2 ≤ Z 3 1)) := by
  obtain ⟨r, hca, z, Z', h', e, q⟩ := Jmt (B := tB l D b0 ad Hb tau) (M := mt_58) (mi := 58) (as := [.ref 3]) (d := d + 1) (ls := [some (.ref 3)]) rfl rfl rfl rfl rfl rfl (cw_58_3 (l := l) (D := D) (b0 := b0) (ad := ad) (Hb := Hb) (tau := tau) (d := d) (Post := fun r => ∃ (z : Int) (Z' : xZ) (h' : mx_H), r = (some (xI z), h') ∧ XH n s S Z' h' ∧ GI n S Z' ∧ fr' [(3, 2), (3, 5)] Z Z' ∧ (1 ≤ z ∧ z ≤ 2 ∧ (Z 3 2 < Z' 3 2 ∧ Z' 3 2 ≤ Z 3 1))) hx hG k0 k1 k2 k3 (fun z Z' h' q1 q2 q3 q4 => ⟨z, Z', h', rfl, q1, q2, q3, q4⟩))
  subst e; exact ⟨z, Z', h', hca, q⟩
set_option maxRecDepth 100000 in
theorem cw_56_3 {l : Launch} {D : va_G} {b0 : Nat} {ad : Nat → Nat} {Hb : Heap} {tau : Nat → Int64} {d n s : Nat} {S : Nat → xS} {Z : xZ} {h : mx_H} {Post : mx_R → Prop} (hx : XH n s S Z h) (hG : GI n S Z)   (k0 : Z 3 0 = 2) (k1 : Z 3 2 ≤ Z 3 1) (hP : ∀ (Z' : xZ) (h' : mx_H), XH n s S Z' h' → GI n S Z' → fr' [(3, 2), (3, 3), (3, 4), (3, 5)] Z Z' → ((¬ Z 3 14 = 0 ∧ Z' 3 2 = Z 3 2 ∧ Z' 3 3 = Z 3 3 ∧ Z' 3 4 = Z 3 4) ∨ (Z 3 14 = 0 ∧ Z 3 2 ≤ Z' 3 3 ∧ Z' 3 3 ≤ Z' 3 2 ∧ Z' 3 2 ≤ Z 3 1 ∧ (Z' 3 4 = 0 ∨ Z' 3 3 < Z' 3 2))) → Post (none, h')) : mx_J (tB l D b0 ad Hb tau) mt_56 (d + 5) 0 [some (.ref 3), none] [] h Post := by
    have a2 : 2 < n := lt83 (GI_n hG) rfl
    have s2 : S 2 = .inr (.byte, 900, 0) := GI_s hG 2 rfl
    have a3 : 3 < n := lt83 (GI_n hG) rfl
    have s3 : S 3 = .inl (7, [2, 0, 0, 0, 0, 0, 2, 0, 2, 2, 0, 2, 0, 0, 0, 0]) := GI_s hG 3 rfl
    refine mx_J.step (sn_56 0) (fun _ _ => rfl) ?_
    have b2 : 0 ≤ Z 3 14 ∧ Z 3 14 ≤ 4 := hG.pr 3 14
    refine JgetI (g := 14) (z := Z 3 14) hx (show mx_Sn _ _ 1 (mx_getf 7 14 4) from sn_56 1) a3 s3 rfl rfl rfl ?_
    refine Jif_eq (show mx_Sn _ _ 4 (mx_if_eq 8 7) from sn_56 4) (by omega) (fun q3 => ?_) (fun q3 => ?_)
    · skip
      have c8 : ∀ (m4 : Nat)  (Z5 : xZ) (h5 : mx_H), Z 3 1 - Z5 3 2 < (m4 : Int) → (Z5 3 2 ≤ Z 3 1 ∧ Z 3 2 ≤ Z5 3 2) → XH n s S Z5 h5 → GI n S Z5 → fr' [(3, 2)] Z Z5 → mx_J (tB l D b0 ad Hb tau) mt_56 (d + 5) 8 [some (.ref 3), none] [] h5 Post := by
        intro m4
        induction m4 with
        | zero => intro Z5 h5 q4 f4_0 hx5 hG5 hf5; exact absurd q4 (by omega)
        | succ m4 ih4 =>
          intro Z5 h5 q4 f4_0 hx5 hG5 hf5
          have b6 : 0 ≤ Z5 3 2 ∧ Z5 3 2 ≤ 900 := hG5.pr 3 2
          have b7 : 0 ≤ Z5 3 2 ∧ Z5 3 2 ≤ 900 := hG5.pr 3 2
          refine mx_J.step (sn_56 8) (fun _ _ => rfl) ?_
          have b9 : 0 ≤ Z5 3 2 ∧ Z5 3 2 ≤ 900 := hG5.pr 3 2
          refine JgetI (g := 2) (z := Z5 3 2) hx5 (show mx_Sn _ _ 9 (mx_getf 7 2 12) from sn_56 9) a3 s3 rfl rfl rfl ?_
          refine mx_J.step (sn_56 12) (fun _ _ => rfl) ?_
          have b11 : 0 ≤ Z 3 1 ∧ Z 3 1 ≤ 900 := hG.pr 3 1
          refine JgetI (g := 1) (z := Z 3 1) hx5 (show mx_Sn _ _ 13 (mx_getf 7 1 16) from sn_56 13) a3 s3 rfl rfl (hf5 3 1 rfl) ?_
          have c60 : mx_J (tB l D b0 ad Hb tau) mt_56 (d + 5) 60 [some (.ref 3), none] [] h5 Post := by
            refine mx_J.step (sn_56 60) (fun _ _ => rfl) ?_
            refine mx_J.step (sn_56 61) (fun _ _ => rfl) ?_
            have b14 : 0 ≤ Z5 3 2 ∧ Z5 3 2 ≤ 900 := hG5.pr 3 2
            refine JgetI (g := 2) (z := Z5 3 2) hx5 (show mx_Sn _ _ 62 (mx_getf 7 2 65) from sn_56 62) a3 s3 rfl rfl rfl ?_
            refine JputI (g := 3) hx5 (show mx_Sn _ _ 65 (mx_putf 1 7 3 (.int) 68) from sn_56 65) a3 s3 rfl rfl rfl rfl (fun Z15 h15 hx15 hE15 => ?_)
            have hG15 := GI_up hG5 hE15 (show 0 ≤ Z5 3 2 ∧ Z5 3 2 ≤ 900 by omega) trivial rfl
            refine mx_J.step (sn_56 68) (fun _ _ => rfl) ?_
            have b17 : 0 ≤ Z5 3 2 ∧ Z5 3 2 ≤ 900 := hG5.pr 3 2
            refine JgetI (g := 2) (z := Z5 3 2) hx15 (show mx_Sn _ _ 69 (mx_getf 7 2 72) from sn_56 69) a3 s3 rfl rfl (up_ni hE15 (by decide)) ?_
            refine mx_J.step (sn_56 72) (fun _ _ => rfl) ?_
            have b19 : 0 ≤ Z 3 1 ∧ Z 3 1 ≤ 900 := hG.pr 3 1
            refine JgetI (g := 1) (z := Z 3 1) hx15 (show mx_Sn _ _ 73 (mx_getf 7 1 76) from sn_56 73) a3 s3 rfl rfl ((up_ni hE15 (by decide)).trans (hf5 3 1 rfl)) ?_
            have c182 : ∀ (u20_1 : Option Value) (Z21 : xZ) (h21 : mx_H), (Z 3 2 ≤ Z21 3 3 ∧ Z21 3 3 ≤ Z21 3 2 ∧ Z21 3 2 ≤ Z 3 1 ∧ (Z21 3 4 = 0 ∨ Z21 3 3 < Z21 3 2)) → XH n s S Z21 h21 → GI n S Z21 → fr' [(3, 2), (3, 4), (3, 5)] Z15 Z21 → mx_J (tB l D b0 ad Hb tau) mt_56 (d + 5) 182 [some (.ref 3), u20_1] [] h21 Post := by
              intro u20_1 Z21 h21 f20_0 hx21 hG21 hf21
              have b22 : 0 ≤ Z21 3 2 ∧ Z21 3 2 ≤ 900 := hG21.pr 3 2
              have eq23 : Z21 3 3 = Z5 3 2 := ((hf21 3 3 rfl).trans (up_at hE15))
              have b24 : 0 ≤ Z21 3 4 ∧ Z21 3 4 ≤ 400 := hG21.pr 3 4
              have b25 : 0 ≤ Z21 3 2 ∧ Z21 3 2 ≤ 900 := hG21.pr 3 2
              have eq26 : Z21 3 3 = Z5 3 2 := ((hf21 3 3 rfl).trans (up_at hE15))
              have b27 : 0 ≤ Z21 3 4 ∧ Z21 3 4 ≤ 400 := hG21.pr 3 4
              have eq28 : Z21 3 0 = Z 3 0 := ((hf21 3 0 rfl).trans ((up_ni hE15 (by decide)).trans (hf5 3 0 rfl)))
              have b29 : 2 ≤ Z 3 0 ∧ Z 3 0 ≤ 4 := hG.pr 3 0
              have eq30 : Z21 3 1 = Z 3 1 := ((hf21 3 1 rfl).trans ((up_ni hE15 (by decide)).trans (hf5 3 1 rfl)))
              have b31 : 0 ≤ Z 3 1 ∧ Z 3 1 ≤ 900 := hG.pr 3 1
              have b32 : 0 ≤ Z21 3 2 ∧ Z21 3 2 ≤ 900 := hG21.pr 3 2
              have eq33 : Z21 3 3 = Z5 3 2 := ((hf21 3 3 rfl).trans (up_at hE15))
              have b34 : 0 ≤ Z21 3 4 ∧ Z21 3 4 ≤ 400 := hG21.pr 3 4
              have eq35 : Z21 3 14 = Z 3 14 := ((hf21 3 14 rfl).trans ((up_ni hE15 (by decide)).trans (hf5 3 14 rfl)))
              have b36 : 0 ≤ Z 3 14 ∧ Z 3 14 ≤ 4 := hG.pr 3 14
              exact mx_J.ret (sn_56 182) (fun _ _ => rfl) (hP Z21 h21 hx21 hG21 (fr_tr (M := [(3, 2), (3, 3), (3, 4), (3, 5)]) (fr_tr (M := [(3, 2), (3, 3), (3, 4), (3, 5)]) (fr_tr (M := [(3, 2), (3, 3), (3, 4), (3, 5)]) fr_rf (hf5) (M1 := []) rfl rfl) (fr_up hE15) rfl rfl) (hf21) rfl rfl) (by omega))
            refine Jicmp_lt (show mx_Sn _ _ 76 (mx_icmp_lt 87 79) from sn_56 76) (by omega) (by omega) (fun q37 => ?_) (fun q37 => ?_)
            · skip
              refine mx_J.step (sn_56 87) (fun _ _ => rfl) ?_
              refine mx_J.step (sn_56 88) (fun _ _ => rfl) ?_
              have b39 : 0 ≤ Z5 3 2 ∧ Z5 3 2 ≤ 900 := hG5.pr 3 2
              refine JgetI (g := 2) (z := Z5 3 2) hx15 (show mx_Sn _ _ 89 (mx_getf 7 2 92) from sn_56 89) a3 s3 rfl rfl (up_ni hE15 (by decide)) ?_
              refine JcI (z := 97) (show mx_Sn _ _ 92 (mx_const (.int 97) 94) from sn_56 92) rfl ?_
              refine JcI (z := 122) (show mx_Sn _ _ 94 (mx_const (.int 122) 96) from sn_56 94) rfl ?_
              have eq41 : Z15 3 0 = Z 3 0 := ((up_ni hE15 (by decide)).trans (hf5 3 0 rfl))
              have b42 : 2 ≤ Z 3 0 ∧ Z 3 0 ≤ 4 := hG.pr 3 0
              have eq43 : Z15 3 1 = Z 3 1 := ((up_ni hE15 (by decide)).trans (hf5 3 1 rfl))
              have b44 : 0 ≤ Z 3 1 ∧ Z 3 1 ≤ 900 := hG.pr 3 1
              have eq45 : Z15 2 (Z5 3 2) = Z 2 (Z5 3 2) := ((up_nk hE15 rfl).trans (hf5 2 (Z5 3 2) rfl))
              have b46 : (-128) ≤ Z 2 (Z5 3 2) ∧ Z 2 (Z5 3 2) ≤ 127 := hG.pr 2 (Z5 3 2)
              obtain ⟨z40, hc40, b40⟩ := ct_57_3 (d := d + 4) (l := l) (D := D) (b0 := b0) (ad := ad) (Hb := Hb) (tau := tau) hx15 hG15 (show 0 ≤ Z5 3 2 ∧ Z5 3 2 ≤ 900 by omega) (show 48 ≤ 97 ∧ 97 ≤ 97 by omega) (show 57 ≤ 122 ∧ 122 ≤ 122 by omega) (show Z15 3 0 = 2 by first | omega | (simp only [eq41, eq43, eq45]; omega))
              try rw [eq41] at b40
              try rw [eq43] at b40
              try rw [eq45] at b40
              refine Jcv hx15 (show mx_Sn _ _ 96 (mx_callv 57 4 7 99) from sn_56 96) a3 s3 hc40 rfl rfl rfl ?_
              refine Jif_eq (show mx_Sn _ _ 99 (mx_if_eq 113 102) from sn_56 99) (by omega) (fun q47 => ?_) (fun q47 => ?_)
              · skip
                refine mx_J.step (sn_56 113) (fun _ _ => rfl) ?_
                refine mx_J.step (sn_56 114) (fun _ _ => rfl) ?_
                have b49 : 0 ≤ Z5 3 2 ∧ Z5 3 2 ≤ 900 := hG5.pr 3 2
                refine JgetI (g := 2) (z := Z5 3 2) hx15 (show mx_Sn _ _ 115 (mx_getf 7 2 118) from sn_56 115) a3 s3 rfl rfl (up_ni hE15 (by decide)) ?_
                refine JcI (z := 48) (show mx_Sn _ _ 118 (mx_const (.int 48) 120) from sn_56 118) rfl ?_
                refine JcI (z := 57) (show mx_Sn _ _ 120 (mx_const (.int 57) 122) from sn_56 120) rfl ?_
                have eq51 : Z15 3 0 = Z 3 0 := ((up_ni hE15 (by decide)).trans (hf5 3 0 rfl))
                have b52 : 2 ≤ Z 3 0 ∧ Z 3 0 ≤ 4 := hG.pr 3 0
                have eq53 : Z15 3 1 = Z 3 1 := ((up_ni hE15 (by decide)).trans (hf5 3 1 rfl))
                have b54 : 0 ≤ Z 3 1 ∧ Z 3 1 ≤ 900 := hG.pr 3 1
                have eq55 : Z15 2 (Z5 3 2) = Z 2 (Z5 3 2) := ((up_nk hE15 rfl).trans (hf5 2 (Z5 3 2) rfl))
                have b56 : (-128) ≤ Z 2 (Z5 3 2) ∧ Z 2 (Z5 3 2) ≤ 127 := hG.pr 2 (Z5 3 2)
                obtain ⟨z50, hc50, b50⟩ := ct_57_3 (d := d + 4) (l := l) (D := D) (b0 := b0) (ad := ad) (Hb := Hb) (tau := tau) hx15 hG15 (show 0 ≤ Z5 3 2 ∧ Z5 3 2 ≤ 900 by omega) (show 48 ≤ 48 ∧ 48 ≤ 97 by omega) (show 57 ≤ 57 ∧ 57 ≤ 122 by omega) (show Z15 3 0 = 2 by first | omega | (simp only [eq51, eq53, eq55]; omega))
                try rw [eq51] at b50
                try rw [eq53] at b50
                try rw [eq55] at b50
                refine Jcv hx15 (show mx_Sn _ _ 122 (mx_callv 57 4 7 125) from sn_56 122) a3 s3 hc50 rfl rfl rfl ?_
                refine Jif_eq (show mx_Sn _ _ 125 (mx_if_eq 139 128) from sn_56 125) (by omega) (fun q57 => ?_) (fun q57 => ?_)
                · skip
                  refine mx_J.step (sn_56 139) (fun _ _ => rfl) ?_
                  refine JgetR (g := 0) (b := 2) hx15 (show mx_Sn _ _ 140 (mx_getf 7 0 143) from sn_56 140) a3 s3 rfl rfl (show Z15 3 0 = ((2 : Nat) : Int) from (((up_ni hE15 (by decide)).trans (hf5 3 0 rfl))).trans k0) ?_
                  refine mx_J.step (sn_56 143) (fun _ _ => rfl) ?_
                  have b60 : 0 ≤ Z5 3 2 ∧ Z5 3 2 ≤ 900 := hG5.pr 3 2
                  refine JgetI (g := 2) (z := Z5 3 2) hx15 (show mx_Sn _ _ 144 (mx_getf 7 2 147) from sn_56 144) a3 s3 rfl rfl (up_ni hE15 (by decide)) ?_
                  have b61 : (-128) ≤ Z 2 (Z5 3 2) ∧ Z 2 (Z5 3 2) ≤ 127 := hG.pr 2 (Z5 3 2)
                  refine JbaldI (z := Z 2 (Z5 3 2)) hx15 (show mx_Sn _ _ 147 (mx_bald 148) from sn_56 147) a2 s2 (by omega) ((up_nk hE15 rfl).trans (hf5 2 (Z5 3 2) rfl)) ?_
                  refine JcI (z := 255) (show mx_Sn _ _ 148 (mx_const (.int 255) 151) from sn_56 148) rfl ?_
                  refine JiandM (q := 256) 8 (show mx_Sn _ _ 151 (mx_iand 152) from sn_56 151) rfl rfl rfl ?_
                  refine Ji2c (show mx_Sn _ _ 152 (mx_i2c 153) from sn_56 152) (by omega) ?_
                  refine mx_J.step (ls2 := [some (.ref 3), some (xI ((Z 2 (Z5 3 2)) % 256))]) (sn_56 153) (fun _ _ => rfl) ?_
                  refine mx_J.step (sn_56 154) (fun _ _ => rfl) ?_
                  refine mx_J.step (sn_56 155) (fun _ _ => rfl) ?_
                  have b63 : 0 ≤ Z5 3 2 ∧ Z5 3 2 ≤ 900 := hG5.pr 3 2
                  refine JgetI (g := 2) (z := Z5 3 2) hx15 (show mx_Sn _ _ 156 (mx_getf 7 2 159) from sn_56 156) a3 s3 rfl rfl (up_ni hE15 (by decide)) ?_
                  refine JcI (z := 1) (show mx_Sn _ _ 159 (mx_const (.int 1) 160) from sn_56 159) rfl ?_
                  refine Jiadd (show mx_Sn _ _ 160 (mx_iadd 161) from sn_56 160) ?_
                  refine JputI (g := 2) hx15 (show mx_Sn _ _ 161 (mx_putf 1 7 2 (.int) 164) from sn_56 161) a3 s3 rfl rfl rfl rfl (fun Z64 h64 hx64 hE64 => ?_)
                  have hG64 := GI_up hG15 hE64 (show 0 ≤ (Z5 3 2) + 1 ∧ (Z5 3 2) + 1 ≤ 900 by omega) trivial rfl
                  refine mx_J.step (sn_56 164) (fun _ _ => rfl) ?_
                  refine mx_J.step (sn_56 165) (fun _ _ => rfl) ?_
                  refine mx_J.step (sn_56 167) (fun _ _ => rfl) ?_
                  obtain ⟨z65, hc65, b65⟩ := ct_297_4098 (d := d + 1) (l := l) (D := D) (b0 := b0) (ad := ad) (Hb := Hb) (tau := tau) hx64 hG64 (show 0 ≤ (Z 2 (Z5 3 2)) % 256 ∧ (Z 2 (Z5 3 2)) % 256 ≤ 255 by omega)
                  refine Jck (show mx_Sn _ _ 168 (mx_callk 297 2 171) from sn_56 168) rfl hc65 rfl rfl rfl ?_
                  have c179 : ∀ (k66_1 : Int), 0 ≤ k66_1 ∧ k66_1 ≤ 255 → mx_J (tB l D b0 ad Hb tau) mt_56 (d + 5) 179 [some (.ref 3), some (xI ((Z 2 (Z5 3 2)) % 256))] [xI k66_1, .ref 3] h64 Post := by
                    intro k66_1 f66_0
                    refine JputI (g := 4) hx64 (show mx_Sn _ _ 179 (mx_putf 1 7 4 (.int) 182) from sn_56 179) a3 s3 rfl rfl rfl rfl (fun Z67 h67 hx67 hE67 => ?_)
                    have hG67 := GI_up hG64 hE67 (show 0 ≤ k66_1 ∧ k66_1 ≤ 400 by omega) trivial rfl
                    have eq68 : Z67 3 2 = (Z5 3 2) + 1 := ((up_ni hE67 (by decide)).trans (up_at hE64))
                    have eq69 : Z67 3 3 = Z5 3 2 := ((up_ni hE67 (by decide)).trans ((up_ni hE64 (by decide)).trans (up_at hE15)))
                    have eq70 : Z67 3 4 = k66_1 := (up_at hE67)
                    exact c182 (some (xI ((Z 2 (Z5 3 2)) % 256))) Z67 h67 (by omega) hx67 hG67 (fr_tr (M := [(3, 2), (3, 4), (3, 5)]) (fr_tr (M := [(3, 2), (3, 4), (3, 5)]) fr_rf (fr_up hE64) (M1 := []) rfl rfl) (fr_up hE67) rfl rfl)
                  refine Jif_lt (show mx_Sn _ _ 171 (mx_if_lt 178 174) from sn_56 171) (by omega) (fun q71 => ?_) (fun q71 => ?_)
                  · skip
                    refine JcI (z := 2) (show mx_Sn _ _ 178 (mx_const (.int 2) 179) from sn_56 178) rfl ?_
                    exact c179 2 (by omega)
                  · skip
                    refine mx_J.step (sn_56 174) (fun _ _ => rfl) ?_
                    refine mx_J.step (sn_56 175) (fun _ _ => rfl) ?_
                    exact c179 ((Z 2 (Z5 3 2)) % 256) (by omega)
                · skip
                  refine mx_J.step (sn_56 128) (fun _ _ => rfl) ?_
                  refine mx_J.step (sn_56 129) (fun _ _ => rfl) ?_
                  have eq72 : Z15 3 3 = Z5 3 2 := (up_at hE15)
                  have eq73 : Z15 3 2 = Z5 3 2 := (up_ni hE15 (by decide))
                  have b74 : 0 ≤ Z5 3 2 ∧ Z5 3 2 ≤ 900 := hG5.pr 3 2
                  have eq76 : Z15 3 0 = Z 3 0 := ((up_ni hE15 (by decide)).trans (hf5 3 0 rfl))
                  have b77 : 2 ≤ Z 3 0 ∧ Z 3 0 ≤ 4 := hG.pr 3 0
                  have eq78 : Z15 3 1 = Z 3 1 := ((up_ni hE15 (by decide)).trans (hf5 3 1 rfl))
                  have b79 : 0 ≤ Z 3 1 ∧ Z 3 1 ≤ 900 := hG.pr 3 1
                  have eq80 : Z15 3 2 = Z5 3 2 := (up_ni hE15 (by decide))
                  have b81 : 0 ≤ Z5 3 2 ∧ Z5 3 2 ≤ 900 := hG5.pr 3 2
                  have eq82 : Z15 3 3 = Z5 3 2 := (up_at hE15)
                  obtain ⟨z75, Z75, h75, hc75, hx75, hG75, hf75, b75⟩ := ct_58_3 (d := d + 3) (l := l) (D := D) (b0 := b0) (ad := ad) (Hb := Hb) (tau := tau) hx15 hG15  (show Z15 3 0 = 2 by first | omega | (simp only [eq76, eq78, eq80, eq82]; omega)) (show Z15 3 3 = Z15 3 2 by first | omega | (simp only [eq76, eq78, eq80, eq82]; omega)) (show Z15 3 2 < Z15 3 1 by first | omega | (simp only [eq76, eq78, eq80, eq82]; omega)) (show (48 ≤ Z15 2 (Z15 3 2) ∧ Z15 2 (Z15 3 2) ≤ 57) by first | omega | (simp only [eq76, eq78, eq80, eq82]; omega))
                  try rw [eq76] at b75
                  try rw [eq78] at b75
                  try rw [eq80] at b75
                  try rw [eq82] at b75
                  have b83 : 0 ≤ Z75 3 2 ∧ Z75 3 2 ≤ 900 := hG75.pr 3 2
                  refine Jcv hx15 (show mx_Sn _ _ 130 (mx_callv 58 1 7 133) from sn_56 130) a3 s3 hc75 rfl rfl rfl ?_
                  refine JputI (g := 4) hx75 (show mx_Sn _ _ 133 (mx_putf 1 7 4 (.int) 136) from sn_56 133) a3 s3 rfl rfl rfl rfl (fun Z84 h84 hx84 hE84 => ?_)
                  have hG84 := GI_up hG75 hE84 (show 0 ≤ z75 ∧ z75 ≤ 400 by omega) trivial rfl
                  refine mx_J.step (sn_56 136) (fun _ _ => rfl) ?_
                  have eq85 : Z84 3 2 = Z75 3 2 := (up_ni hE84 (by decide))
                  have b86 : 0 ≤ Z75 3 2 ∧ Z75 3 2 ≤ 900 := hG75.pr 3 2
                  have eq87 : Z84 3 3 = Z5 3 2 := ((up_ni hE84 (by decide)).trans ((hf75 3 3 rfl).trans (up_at hE15)))
                  have eq88 : Z84 3 4 = z75 := (up_at hE84)
                  exact c182 none Z84 h84 (by omega) hx84 hG84 (fr_tr (M := [(3, 2), (3, 4), (3, 5)]) (fr_tr (M := [(3, 2), (3, 4), (3, 5)]) fr_rf (hf75) (M1 := []) rfl rfl) (fr_up hE84) rfl rfl)
              · skip
                refine mx_J.step (sn_56 102) (fun _ _ => rfl) ?_
                refine mx_J.step (sn_56 103) (fun _ _ => rfl) ?_
                have eq89 : Z15 3 3 = Z5 3 2 := (up_at hE15)
                have eq90 : Z15 3 2 = Z5 3 2 := (up_ni hE15 (by decide))
                have b91 : 0 ≤ Z5 3 2 ∧ Z5 3 2 ≤ 900 := hG5.pr 3 2
                have eq93 : Z15 3 0 = Z 3 0 := ((up_ni hE15 (by decide)).trans (hf5 3 0 rfl))
                have b94 : 2 ≤ Z 3 0 ∧ Z 3 0 ≤ 4 := hG.pr 3 0
                have eq95 : Z15 3 1 = Z 3 1 := ((up_ni hE15 (by decide)).trans (hf5 3 1 rfl))
                have b96 : 0 ≤ Z 3 1 ∧ Z 3 1 ≤ 900 := hG.pr 3 1
                have eq97 : Z15 3 2 = Z5 3 2 := (up_ni hE15 (by decide))
                have b98 : 0 ≤ Z5 3 2 ∧ Z5 3 2 ≤ 900 := hG5.pr 3 2
                have eq99 : Z15 3 3 = Z5 3 2 := (up_at hE15)
                obtain ⟨z92, Z92, h92, hc92, hx92, hG92, hf92, b92⟩ := ct_59_3 (d := d + 0) (l := l) (D := D) (b0 := b0) (ad := ad) (Hb := Hb) (tau := tau) hx15 hG15  (show Z15 3 0 = 2 by first | omega | (simp only [eq93, eq95, eq97, eq99]; omega)) (show Z15 3 3 = Z15 3 2 by first | omega | (simp only [eq93, eq95, eq97, eq99]; omega)) (show Z15 3 2 < Z15 3 1 by first | omega | (simp only [eq93, eq95, eq97, eq99]; omega)) (show (97 ≤ Z15 2 (Z15 3 2) ∧ Z15 2 (Z15 3 2) ≤ 122) by first | omega | (simp only [eq93, eq95, eq97, eq99]; omega))
                try rw [eq93] at b92
                try rw [eq95] at b92
                try rw [eq97] at b92
                try rw [eq99] at b92
                have b100 : 0 ≤ Z92 3 2 ∧ Z92 3 2 ≤ 900 := hG92.pr 3 2
                refine Jcv hx15 (show mx_Sn _ _ 104 (mx_callv 59 1 7 107) from sn_56 104) a3 s3 hc92 rfl rfl rfl ?_
                refine JputI (g := 4) hx92 (show mx_Sn _ _ 107 (mx_putf 1 7 4 (.int) 110) from sn_56 107) a3 s3 rfl rfl rfl rfl (fun Z101 h101 hx101 hE101 => ?_)
                have hG101 := GI_up hG92 hE101 (show 0 ≤ z92 ∧ z92 ≤ 400 by omega) trivial rfl
                refine mx_J.step (sn_56 110) (fun _ _ => rfl) ?_
                have eq102 : Z101 3 2 = Z92 3 2 := (up_ni hE101 (by decide))
                have b103 : 0 ≤ Z92 3 2 ∧ Z92 3 2 ≤ 900 := hG92.pr 3 2
                have eq104 : Z101 3 3 = Z5 3 2 := ((up_ni hE101 (by decide)).trans ((hf92 3 3 rfl).trans (up_at hE15)))
                have eq105 : Z101 3 4 = z92 := (up_at hE101)
                exact c182 none Z101 h101 (by omega) hx101 hG101 (fr_tr (M := [(3, 2), (3, 4), (3, 5)]) (fr_tr (M := [(3, 2), (3, 4), (3, 5)]) fr_rf (hf92) (M1 := []) rfl rfl) (fr_up hE101) rfl rfl)
            · skip
              refine mx_J.step (sn_56 79) (fun _ _ => rfl) ?_
              refine JcI (z := 0) (show mx_Sn _ _ 80 (mx_const (.int 0) 81) from sn_56 80) rfl ?_
              refine JputI (g := 4) hx15 (show mx_Sn _ _ 81 (mx_putf 1 7 4 (.int) 84) from sn_56 81) a3 s3 rfl rfl rfl rfl (fun Z106 h106 hx106 hE106 => ?_)
              have hG106 := GI_up hG15 hE106 (show 0 ≤ 0 ∧ 0 ≤ 400 by omega) trivial rfl
              refine mx_J.step (sn_56 84) (fun _ _ => rfl) ?_
              have eq107 : Z106 3 2 = Z5 3 2 := ((up_ni hE106 (by decide)).trans (up_ni hE15 (by decide)))
              have b108 : 0 ≤ Z5 3 2 ∧ Z5 3 2 ≤ 900 := hG5.pr 3 2
              have eq109 : Z106 3 3 = Z5 3 2 := ((up_ni hE106 (by decide)).trans (up_at hE15))
              have eq110 : Z106 3 4 = 0 := (up_at hE106)
              exact c182 none Z106 h106 (by omega) hx106 hG106 (fr_tr (M := [(3, 2), (3, 4), (3, 5)]) fr_rf (fr_up hE106) (M1 := []) rfl rfl)
          refine Jicmp_ge (show mx_Sn _ _ 16 (mx_icmp_ge 60 19) from sn_56 16) (by omega) (by omega) (fun q111 => ?_) (fun q111 => ?_)
          · skip
            exact c60 
          · skip
            refine mx_J.step (sn_56 19) (fun _ _ => rfl) ?_
            refine JgetR (g := 0) (b := 2) hx5 (show mx_Sn _ _ 20 (mx_getf 7 0 23) from sn_56 20) a3 s3 rfl rfl (show Z5 3 0 = ((2 : Nat) : Int) from ((hf5 3 0 rfl)).trans k0) ?_
            refine mx_J.step (sn_56 23) (fun _ _ => rfl) ?_
            have b114 : 0 ≤ Z5 3 2 ∧ Z5 3 2 ≤ 900 := hG5.pr 3 2
            refine JgetI (g := 2) (z := Z5 3 2) hx5 (show mx_Sn _ _ 24 (mx_getf 7 2 27) from sn_56 24) a3 s3 rfl rfl rfl ?_
            have b115 : (-128) ≤ Z 2 (Z5 3 2) ∧ Z 2 (Z5 3 2) ≤ 127 := hG.pr 2 (Z5 3 2)
            refine JbaldI (z := Z 2 (Z5 3 2)) hx5 (show mx_Sn _ _ 27 (mx_bald 28) from sn_56 27) a2 s2 (by omega) (hf5 2 (Z5 3 2) rfl) ?_
            refine JcI (z := 10) (show mx_Sn _ _ 28 (mx_const (.int 10) 30) from sn_56 28) rfl ?_
            have c47 : mx_J (tB l D b0 ad Hb tau) mt_56 (d + 5) 47 [some (.ref 3), none] [] h5 Post := by
              refine mx_J.step (sn_56 47) (fun _ _ => rfl) ?_
              refine mx_J.step (sn_56 48) (fun _ _ => rfl) ?_
              have b118 : 0 ≤ Z5 3 2 ∧ Z5 3 2 ≤ 900 := hG5.pr 3 2
              refine JgetI (g := 2) (z := Z5 3 2) hx5 (show mx_Sn _ _ 49 (mx_getf 7 2 52) from sn_56 49) a3 s3 rfl rfl rfl ?_
              refine JcI (z := 1) (show mx_Sn _ _ 52 (mx_const (.int 1) 53) from sn_56 52) rfl ?_
              refine Jiadd (show mx_Sn _ _ 53 (mx_iadd 54) from sn_56 53) ?_
              refine JputI (g := 2) hx5 (show mx_Sn _ _ 54 (mx_putf 1 7 2 (.int) 57) from sn_56 54) a3 s3 rfl rfl rfl rfl (fun Z119 h119 hx119 hE119 => ?_)
              have hG119 := GI_up hG5 hE119 (show 0 ≤ (Z5 3 2) + 1 ∧ (Z5 3 2) + 1 ≤ 900 by omega) trivial rfl
              refine mx_J.step (sn_56 57) (fun _ _ => rfl) ?_
              have eq120 : Z119 3 2 = (Z5 3 2) + 1 := (up_at hE119)
              have eq121 : Z119 3 2 = (Z5 3 2) + 1 := (up_at hE119)
              exact ih4 Z119 h119 (by omega) (by omega) hx119 hG119 (fr_tr (M := [(3, 2)]) (fr_tr (M := [(3, 2)]) fr_rf (hf5) (M1 := []) rfl rfl) (fr_up hE119) rfl rfl)
            refine Jicmp_eq (show mx_Sn _ _ 30 (mx_icmp_eq 47 33) from sn_56 30) (by omega) (by omega) (fun q122 => ?_) (fun q122 => ?_)
            · skip
              exact c47 
            · skip
              refine mx_J.step (sn_56 33) (fun _ _ => rfl) ?_
              refine JgetR (g := 0) (b := 2) hx5 (show mx_Sn _ _ 34 (mx_getf 7 0 37) from sn_56 34) a3 s3 rfl rfl (show Z5 3 0 = ((2 : Nat) : Int) from ((hf5 3 0 rfl)).trans k0) ?_
              refine mx_J.step (sn_56 37) (fun _ _ => rfl) ?_
              have b125 : 0 ≤ Z5 3 2 ∧ Z5 3 2 ≤ 900 := hG5.pr 3 2
              refine JgetI (g := 2) (z := Z5 3 2) hx5 (show mx_Sn _ _ 38 (mx_getf 7 2 41) from sn_56 38) a3 s3 rfl rfl rfl ?_
              have b126 : (-128) ≤ Z 2 (Z5 3 2) ∧ Z 2 (Z5 3 2) ≤ 127 := hG.pr 2 (Z5 3 2)
              refine JbaldI (z := Z 2 (Z5 3 2)) hx5 (show mx_Sn _ _ 41 (mx_bald 42) from sn_56 41) a2 s2 (by omega) (hf5 2 (Z5 3 2) rfl) ?_
              refine JcI (z := 32) (show mx_Sn _ _ 42 (mx_const (.int 32) 44) from sn_56 42) rfl ?_
              refine Jicmp_ne (show mx_Sn _ _ 44 (mx_icmp_ne 60 47) from sn_56 44) (by omega) (by omega) (fun q127 => ?_) (fun q127 => ?_)
              · skip
                exact c60 
              · skip
                exact c47 
      have b128 : 0 ≤ Z 3 2 ∧ Z 3 2 ≤ 900 := hG.pr 3 2
      have b129 : 0 ≤ Z 3 2 ∧ Z 3 2 ≤ 900 := hG.pr 3 2
      exact c8 (Int.toNat (Z 3 1 - Z 3 2) + 1) Z h (by omega) (by omega) hx hG fr_rf
    · skip
      have b130 : 0 ≤ Z 3 2 ∧ Z 3 2 ≤ 900 := hG.pr 3 2
      have b131 : 0 ≤ Z 3 3 ∧ Z 3 3 ≤ 900 := hG.pr 3 3
      have b132 : 0 ≤ Z 3 4 ∧ Z 3 4 ≤ 400 := hG.pr 3 4
      have b133 : 2 ≤ Z 3 0 ∧ Z 3 0 ≤ 4 := hG.pr 3 0
      have b134 : 0 ≤ Z 3 1 ∧ Z 3 1 ≤ 900 := hG.pr 3 1
      have b135 : 0 ≤ Z 3 2 ∧ Z 3 2 ≤ 900 := hG.pr 3 2
      have b136 : 0 ≤ Z 3 3 ∧ Z 3 3 ≤ 900 := hG.pr 3 3
      have b137 : 0 ≤ Z 3 4 ∧ Z 3 4 ≤ 400 := hG.pr 3 4
      have b138 : 0 ≤ Z 3 14 ∧ Z 3 14 ≤ 4 := hG.pr 3 14
      exact mx_J.ret (sn_56 7) (fun _ _ => rfl) (hP Z h hx hG fr_rf (by omega))
theorem ct_56_3 {l : Launch} {D : va_G} {b0 : Nat} {ad : Nat → Nat} {Hb : Heap} {tau : Nat → Int64} {d n s : Nat} {S : Nat → xS} {Z : xZ} {h : mx_H} (hx : XH n s S Z h) (hG : GI n S Z)   (k0 : Z 3 0 = 2) (k1 : Z 3 2 ≤ Z 3 1) : ∃ (Z' : xZ) (h' : mx_H), mx_Ca (tB l D b0 ad Hb tau) (d + 6) 56 [.ref 3] h (none, h') ∧ XH n s S Z' h' ∧ GI n S Z' ∧ fr' [(3, 2), (3, 3), (3, 4), (3, 5)] Z Z' ∧ (((¬ Z 3 14 = 0 ∧ Z' 3 2 = Z 3 2 ∧ Z' 3 3 = Z 3 3 ∧ Z' 3 4 = Z 3 4) ∨ (Z 3 14 = 0 ∧ Z 3 2 ≤ Z' 3 3 ∧ Z' 3 3 ≤ Z' 3 2 ∧ Z' 3 2 ≤ Z 3 1 ∧ (Z' 3 4 = 0 ∨ Z' 3 3 < Z' 3 2)))) := by
  obtain ⟨r, hca, Z', h', e, q⟩ := Jmt (B := tB l D b0 ad Hb tau) (M := mt_56) (mi := 56) (as := [.ref 3]) (d := d + 5) (ls := [some (.ref 3), none]) rfl rfl rfl rfl rfl rfl (cw_56_3 (l := l) (D := D) (b0 := b0) (ad := ad) (Hb := Hb) (tau := tau) (d := d) (Post := fun r => ∃ (Z' : xZ) (h' : mx_H), r = (none, h') ∧ XH n s S Z' h' ∧ GI n S Z' ∧ fr' [(3, 2), (3, 3), (3, 4), (3, 5)] Z Z' ∧ (((¬ Z 3 14 = 0 ∧ Z' 3 2 = Z 3 2 ∧ Z' 3 3 = Z 3 3 ∧ Z' 3 4 = Z 3 4) ∨ (Z 3 14 = 0 ∧ Z 3 2 ≤ Z' 3 3 ∧ Z' 3 3 ≤ Z' 3 2 ∧ Z' 3 2 ≤ Z 3 1 ∧ (Z' 3 4 = 0 ∨ Z' 3 3 < Z' 3 2))))) hx hG k0 k1 (fun Z' h' q1 q2 q3 q4 => ⟨Z', h', rfl, q1, q2, q3, q4⟩))
  subst e; exact ⟨Z', h', hca, q⟩
set_option maxRecDepth 100000 in
theorem cw_55_3 {l : Launch} {D : va_G} {b0 : Nat} {ad : Nat → Nat} {Hb : Heap} {tau : Nat → Int64} {d n s : Nat} {S : Nat → xS} {Z : xZ} {h : mx_H} {Post : mx_R → Prop} (hx : XH n s S Z h) (hG : GI n S Z)  {x0 : Int} (p0 : 2 ≤ x0 ∧ x0 ≤ 4) (hP : ∀ (Z' : xZ) (h' : mx_H), XH n s S Z' h' → GI n S Z' → fr' [(3, 4), (3, 14), (3, 15)] Z Z' → (Z' 3 4 = 3) → Post (none, h')) : mx_J (tB l D b0 ad Hb tau) mt_55 (d + 0) 0 [some (.ref 3), some (xI x0)] [] h Post := by
    have a3 : 3 < n := lt83 (GI_n hG) rfl
    have s3 : S 3 = .inl (7, [2, 0, 0, 0, 0, 0, 2, 0, 2, 2, 0, 2, 0, 0, 0, 0]) := GI_s hG 3 rfl
    refine mx_J.step (sn_55 0) (fun _ _ => rfl) ?_
    have b2 : 0 ≤ Z 3 4 ∧ Z 3 4 ≤ 400 := hG.pr 3 4
    refine JgetI (g := 4) (z := Z 3 4) hx (show mx_Sn _ _ 1 (mx_getf 7 4 4) from sn_55 1) a3 s3 rfl rfl rfl ?_
    refine JcI (z := 3) (show mx_Sn _ _ 4 (mx_const (.int 3) 5) from sn_55 4) rfl ?_
    refine Jicmp_ne (show mx_Sn _ _ 5 (mx_icmp_ne 9 8) from sn_55 5) (by omega) (by omega) (fun q3 => ?_) (fun q3 => ?_)
    · skip
      refine mx_J.step (sn_55 9) (fun _ _ => rfl) ?_
      refine mx_J.step (sn_55 10) (fun _ _ => rfl) ?_
      have b5 : 0 ≤ Z 3 4 ∧ Z 3 4 ≤ 400 := hG.pr 3 4
      refine JgetI (g := 4) (z := Z 3 4) hx (show mx_Sn _ _ 11 (mx_getf 7 4 14) from sn_55 11) a3 s3 rfl rfl rfl ?_
      refine JcI (z := 2) (show mx_Sn _ _ 14 (mx_const (.int 2) 15) from sn_55 14) rfl ?_
      have c23 : ∀ (k6_1 : Int), 1 ≤ k6_1 ∧ k6_1 ≤ 4 → mx_J (tB l D b0 ad Hb tau) mt_55 (d + 0) 23 [some (.ref 3), some (xI x0)] [xI k6_1, .ref 3] h Post := by
        intro k6_1 f6_0
        refine JputI (g := 14) hx (show mx_Sn _ _ 23 (mx_putf 1 7 14 (.int) 26) from sn_55 23) a3 s3 rfl rfl rfl rfl (fun Z7 h7 hx7 hE7 => ?_)
        have hG7 := GI_up hG hE7 (show 0 ≤ k6_1 ∧ k6_1 ≤ 4 by omega) trivial rfl
        refine mx_J.step (sn_55 26) (fun _ _ => rfl) ?_
        refine mx_J.step (sn_55 27) (fun _ _ => rfl) ?_
        have b9 : 0 ≤ Z 3 3 ∧ Z 3 3 ≤ 900 := hG.pr 3 3
        refine JgetI (g := 3) (z := Z 3 3) hx7 (show mx_Sn _ _ 28 (mx_getf 7 3 31) from sn_55 28) a3 s3 rfl rfl (up_ni hE7 (by decide)) ?_
        refine JputI (g := 15) hx7 (show mx_Sn _ _ 31 (mx_putf 1 7 15 (.int) 34) from sn_55 31) a3 s3 rfl rfl rfl rfl (fun Z10 h10 hx10 hE10 => ?_)
        have hG10 := GI_up hG7 hE10 (show (-1) ≤ Z 3 3 ∧ Z 3 3 ≤ 900 by omega) trivial rfl
        refine mx_J.step (sn_55 34) (fun _ _ => rfl) ?_
        refine JcI (z := 3) (show mx_Sn _ _ 35 (mx_const (.int 3) 36) from sn_55 35) rfl ?_
        refine JputI (g := 4) hx10 (show mx_Sn _ _ 36 (mx_putf 1 7 4 (.int) 39) from sn_55 36) a3 s3 rfl rfl rfl rfl (fun Z11 h11 hx11 hE11 => ?_)
        have hG11 := GI_up hG10 hE11 (show 0 ≤ 3 ∧ 3 ≤ 400 by omega) trivial rfl
        have eq12 : Z11 3 4 = 3 := (up_at hE11)
        exact mx_J.ret (sn_55 39) (fun _ _ => rfl) (hP Z11 h11 hx11 hG11 (fr_tr (M := [(3, 4), (3, 14), (3, 15)]) (fr_tr (M := [(3, 4), (3, 14), (3, 15)]) (fr_tr (M := [(3, 4), (3, 14), (3, 15)]) fr_rf (fr_up hE7) (M1 := []) rfl rfl) (fr_up hE10) rfl rfl) (fr_up hE11) rfl rfl) (by omega))
      refine Jicmp_ne (show mx_Sn _ _ 15 (mx_icmp_ne 22 18) from sn_55 15) (by omega) (by omega) (fun q13 => ?_) (fun q13 => ?_)
      · skip
        refine mx_J.step (sn_55 22) (fun _ _ => rfl) ?_
        exact c23 x0 (by omega)
      · skip
        refine JcI (z := 1) (show mx_Sn _ _ 18 (mx_const (.int 1) 19) from sn_55 18) rfl ?_
        refine mx_J.step (sn_55 19) (fun _ _ => rfl) ?_
        exact c23 1 (by omega)
    · skip
      have b14 : 0 ≤ Z 3 4 ∧ Z 3 4 ≤ 400 := hG.pr 3 4
      exact mx_J.ret (sn_55 8) (fun _ _ => rfl) (hP Z h hx hG fr_rf (by omega))
theorem ct_55_3 {l : Launch} {D : va_G} {b0 : Nat} {ad : Nat → Nat} {Hb : Heap} {tau : Nat → Int64} {d n s : Nat} {S : Nat → xS} {Z : xZ} {h : mx_H} (hx : XH n s S Z h) (hG : GI n S Z)  {x0 : Int} (p0 : 2 ≤ x0 ∧ x0 ≤ 4) : ∃ (Z' : xZ) (h' : mx_H), mx_Ca (tB l D b0 ad Hb tau) (d + 1) 55 [.ref 3, xI x0] h (none, h') ∧ XH n s S Z' h' ∧ GI n S Z' ∧ fr' [(3, 4), (3, 14), (3, 15)] Z Z' ∧ ((Z' 3 4 = 3)) := by
  obtain ⟨r, hca, Z', h', e, q⟩ := Jmt (B := tB l D b0 ad Hb tau) (M := mt_55) (mi := 55) (as := [.ref 3, xI x0]) (d := d + 0) (ls := [some (.ref 3), some (xI x0)]) rfl rfl rfl rfl rfl rfl (cw_55_3 (l := l) (D := D) (b0 := b0) (ad := ad) (Hb := Hb) (tau := tau) (d := d) (Post := fun r => ∃ (Z' : xZ) (h' : mx_H), r = (none, h') ∧ XH n s S Z' h' ∧ GI n S Z' ∧ fr' [(3, 4), (3, 14), (3, 15)] Z Z' ∧ ((Z' 3 4 = 3))) hx hG p0 (fun Z' h' q1 q2 q3 q4 => ⟨Z', h', rfl, q1, q2, q3, q4⟩))
  subst e; exact ⟨Z', h', hca, q⟩
set_option maxRecDepth 100000 in
theorem cw_53_3 {l : Launch} {D : va_G} {b0 : Nat} {ad : Nat → Nat} {Hb : Heap} {tau : Nat → Int64} {d n s : Nat} {S : Nat → xS} {Z : xZ} {h : mx_H} {Post : mx_R → Prop} (hx : XH n s S Z h) (hG : GI n S Z)  {x0 : Int} (p0 : 40 ≤ x0 ∧ x0 ≤ 320) (k0 : Z 3 0 = 2) (k1 : (Z 3 3 ≤ Z 3 2 ∧ Z 3 2 ≤ Z 3 1 ∧ (Z 3 4 = 0 ∨ Z 3 4 = 3 ∨ Z 3 3 < Z 3 2) ∧ (Z 3 4 = 3 ∨ Z 3 14 = 0))) (hP : ∀ (Z' : xZ) (h' : mx_H), XH n s S Z' h' → GI n S Z' → fr' [(3, 2), (3, 3), (3, 4), (3, 5), (3, 14), (3, 15)] Z Z' → ((Z' 3 3 ≤ Z' 3 2 ∧ Z' 3 2 ≤ Z 3 1 ∧ (Z' 3 4 = 0 ∨ Z' 3 4 = 3 ∨ Z' 3 3 < Z' 3 2) ∧ (Z' 3 4 = 3 ∨ Z' 3 14 = 0)) ∧ Z 3 3 ≤ Z' 3 3 ∧ (Z' 3 4 = 3 ∨ Z 3 3 + 1 ≤ Z' 3 3) ∧ (Z 3 4 = 3 → Z' 3 4 = 3)) → Post (none, h')) : mx_J (tB l D b0 ad Hb tau) mt_53 (d + 6) 0 [some (.ref 3), some (xI x0)] [] h Post := by
    have a3 : 3 < n := lt83 (GI_n hG) rfl
    have s3 : S 3 = .inl (7, [2, 0, 0, 0, 0, 0, 2, 0, 2, 2, 0, 2, 0, 0, 0, 0]) := GI_s hG 3 rfl
    refine mx_J.step (sn_53 0) (fun _ _ => rfl) ?_
    have b2 : 0 ≤ Z 3 4 ∧ Z 3 4 ≤ 400 := hG.pr 3 4
    refine JgetI (g := 4) (z := Z 3 4) hx (show mx_Sn _ _ 1 (mx_getf 7 4 4) from sn_53 1) a3 s3 rfl rfl rfl ?_
    refine mx_J.step (sn_53 4) (fun _ _ => rfl) ?_
    have c20 : ∀  (Z4 : xZ) (h4 : mx_H), ((Z4 3 3 ≤ Z4 3 2 ∧ Z4 3 2 ≤ Z 3 1 ∧ (Z4 3 4 = 0 ∨ Z4 3 4 = 3 ∨ Z4 3 3 < Z4 3 2) ∧ (Z4 3 4 = 3 ∨ Z4 3 14 = 0)) ∧ Z 3 3 ≤ Z4 3 3 ∧ (Z4 3 4 = 3 ∨ Z 3 3 + 1 ≤ Z4 3 3) ∧ (Z 3 4 = 3 → Z4 3 4 = 3)) → XH n s S Z4 h4 → GI n S Z4 → fr' [(3, 2), (3, 3), (3, 4), (3, 5), (3, 14), (3, 15)] Z Z4 → mx_J (tB l D b0 ad Hb tau) mt_53 (d + 6) 20 [some (.ref 3), some (xI x0)] [] h4 Post := by
      intro Z4 h4 f3_0 hx4 hG4 hf4
      have b5 : 0 ≤ Z4 3 2 ∧ Z4 3 2 ≤ 900 := hG4.pr 3 2
      have b6 : 0 ≤ Z4 3 3 ∧ Z4 3 3 ≤ 900 := hG4.pr 3 3
      have b7 : 0 ≤ Z4 3 4 ∧ Z4 3 4 ≤ 400 := hG4.pr 3 4
      have eq8 : Z4 3 7 = Z 3 7 := (hf4 3 7 rfl)
      have b9 : 0 ≤ Z 3 7 ∧ Z 3 7 ≤ 900 := hG.pr 3 7
      have b10 : 0 ≤ Z4 3 14 ∧ Z4 3 14 ≤ 4 := hG4.pr 3 14
      have b11 : 0 ≤ Z4 3 2 ∧ Z4 3 2 ≤ 900 := hG4.pr 3 2
      have b12 : 0 ≤ Z4 3 3 ∧ Z4 3 3 ≤ 900 := hG4.pr 3 3
      have b13 : 0 ≤ Z4 3 4 ∧ Z4 3 4 ≤ 400 := hG4.pr 3 4
      have eq14 : Z4 3 7 = Z 3 7 := (hf4 3 7 rfl)
      have b15 : 0 ≤ Z 3 7 ∧ Z 3 7 ≤ 900 := hG.pr 3 7
      have b16 : 0 ≤ Z4 3 14 ∧ Z4 3 14 ≤ 4 := hG4.pr 3 14
      have eq17 : Z4 3 0 = Z 3 0 := (hf4 3 0 rfl)
      have b18 : 2 ≤ Z 3 0 ∧ Z 3 0 ≤ 4 := hG.pr 3 0
      have eq19 : Z4 3 1 = Z 3 1 := (hf4 3 1 rfl)
      have b20 : 0 ≤ Z 3 1 ∧ Z 3 1 ≤ 900 := hG.pr 3 1
      have b21 : 0 ≤ Z4 3 2 ∧ Z4 3 2 ≤ 900 := hG4.pr 3 2
      have b22 : 0 ≤ Z4 3 3 ∧ Z4 3 3 ≤ 900 := hG4.pr 3 3
      have b23 : 0 ≤ Z4 3 4 ∧ Z4 3 4 ≤ 400 := hG4.pr 3 4
      have eq24 : Z4 3 7 = Z 3 7 := (hf4 3 7 rfl)
      have b25 : 0 ≤ Z 3 7 ∧ Z 3 7 ≤ 900 := hG.pr 3 7
      have b26 : 0 ≤ Z4 3 14 ∧ Z4 3 14 ≤ 4 := hG4.pr 3 14
      exact mx_J.ret (sn_53 20) (fun _ _ => rfl) (hP Z4 h4 hx4 hG4 (fr_tr (M := [(3, 2), (3, 3), (3, 4), (3, 5), (3, 14), (3, 15)]) fr_rf (hf4) (M1 := []) rfl rfl) (by omega))
    refine Jicmp_ne (show mx_Sn _ _ 5 (mx_icmp_ne 15 8) from sn_53 5) (by omega) (by omega) (fun q27 => ?_) (fun q27 => ?_)
    · skip
      refine mx_J.step (sn_53 15) (fun _ _ => rfl) ?_
      refine JcI (z := 2) (show mx_Sn _ _ 16 (mx_const (.int 2) 17) from sn_53 16) rfl ?_
      obtain ⟨Z28, h28, hc28, hx28, hG28, hf28, b28⟩ := ct_55_3 (d := d + 5) (l := l) (D := D) (b0 := b0) (ad := ad) (Hb := Hb) (tau := tau) hx hG (show 2 ≤ 2 ∧ 2 ≤ 4 by omega)
      have b29 : 0 ≤ Z28 3 4 ∧ Z28 3 4 ≤ 400 := hG28.pr 3 4
      refine Jcv0 hx (show mx_Sn _ _ 17 (mx_callv 55 2 7 20) from sn_53 17) a3 s3 hc28 rfl rfl rfl ?_
      have eq30 : Z28 3 2 = Z 3 2 := (hf28 3 2 rfl)
      have b31 : 0 ≤ Z 3 2 ∧ Z 3 2 ≤ 900 := hG.pr 3 2
      have eq32 : Z28 3 3 = Z 3 3 := (hf28 3 3 rfl)
      have b33 : 0 ≤ Z 3 3 ∧ Z 3 3 ≤ 900 := hG.pr 3 3
      have b34 : 0 ≤ Z28 3 4 ∧ Z28 3 4 ≤ 400 := hG28.pr 3 4
      have eq35 : Z28 3 7 = Z 3 7 := (hf28 3 7 rfl)
      have b36 : 0 ≤ Z 3 7 ∧ Z 3 7 ≤ 900 := hG.pr 3 7
      have b37 : 0 ≤ Z28 3 14 ∧ Z28 3 14 ≤ 4 := hG28.pr 3 14
      exact c20 Z28 h28 (by omega) hx28 hG28 (fr_tr (M := [(3, 2), (3, 3), (3, 4), (3, 5), (3, 14), (3, 15)]) fr_rf (hf28) (M1 := []) rfl rfl)
    · skip
      refine mx_J.step (sn_53 8) (fun _ _ => rfl) ?_
      have b39 : 2 ≤ Z 3 0 ∧ Z 3 0 ≤ 4 := hG.pr 3 0
      have b40 : 0 ≤ Z 3 1 ∧ Z 3 1 ≤ 900 := hG.pr 3 1
      have b41 : 0 ≤ Z 3 2 ∧ Z 3 2 ≤ 900 := hG.pr 3 2
      have b42 : 0 ≤ Z 3 3 ∧ Z 3 3 ≤ 900 := hG.pr 3 3
      have b43 : 0 ≤ Z 3 4 ∧ Z 3 4 ≤ 400 := hG.pr 3 4
      have b44 : 0 ≤ Z 3 14 ∧ Z 3 14 ≤ 4 := hG.pr 3 14
      obtain ⟨Z38, h38, hc38, hx38, hG38, hf38, b38⟩ := ct_56_3 (d := d + 0) (l := l) (D := D) (b0 := b0) (ad := ad) (Hb := Hb) (tau := tau) hx hG  (show Z 3 0 = 2 by omega) (show Z 3 2 ≤ Z 3 1 by omega)
      have b45 : 0 ≤ Z38 3 2 ∧ Z38 3 2 ≤ 900 := hG38.pr 3 2
      have b46 : 0 ≤ Z38 3 3 ∧ Z38 3 3 ≤ 900 := hG38.pr 3 3
      have b47 : 0 ≤ Z38 3 4 ∧ Z38 3 4 ≤ 400 := hG38.pr 3 4
      refine Jcv0 hx (show mx_Sn _ _ 9 (mx_callv 56 1 7 12) from sn_53 9) a3 s3 hc38 rfl rfl rfl ?_
      refine mx_J.step (sn_53 12) (fun _ _ => rfl) ?_
      have b48 : 0 ≤ Z38 3 2 ∧ Z38 3 2 ≤ 900 := hG38.pr 3 2
      have b49 : 0 ≤ Z38 3 3 ∧ Z38 3 3 ≤ 900 := hG38.pr 3 3
      have b50 : 0 ≤ Z38 3 4 ∧ Z38 3 4 ≤ 400 := hG38.pr 3 4
      have eq51 : Z38 3 7 = Z 3 7 := (hf38 3 7 rfl)
      have b52 : 0 ≤ Z 3 7 ∧ Z 3 7 ≤ 900 := hG.pr 3 7
      have eq53 : Z38 3 14 = Z 3 14 := (hf38 3 14 rfl)
      have b54 : 0 ≤ Z 3 14 ∧ Z 3 14 ≤ 4 := hG.pr 3 14
      exact c20 Z38 h38 (by omega) hx38 hG38 (fr_tr (M := [(3, 2), (3, 3), (3, 4), (3, 5), (3, 14), (3, 15)]) fr_rf (hf38) (M1 := []) rfl rfl)
theorem ct_53_3 {l : Launch} {D : va_G} {b0 : Nat} {ad : Nat → Nat} {Hb : Heap} {tau : Nat → Int64} {d n s : Nat} {S : Nat → xS} {Z : xZ} {h : mx_H} (hx : XH n s S Z h) (hG : GI n S Z)  {x0 : Int} (p0 : 40 ≤ x0 ∧ x0 ≤ 320) (k0 : Z 3 0 = 2) (k1 : (Z 3 3 ≤ Z 3 2 ∧ Z 3 2 ≤ Z 3 1 ∧ (Z 3 4 = 0 ∨ Z 3 4 = 3 ∨ Z 3 3 < Z 3 2) ∧ (Z 3 4 = 3 ∨ Z 3 14 = 0))) : ∃ (Z' : xZ) (h' : mx_H), mx_Ca (tB l D b0 ad Hb tau) (d + 7) 53 [.ref 3, xI x0] h (none, h') ∧ XH n s S Z' h' ∧ GI n S Z' ∧ fr' [(3, 2), (3, 3), (3, 4), (3, 5), (3, 14), (3, 15)] Z Z' ∧ (((Z' 3 3 ≤ Z' 3 2 ∧ Z' 3 2 ≤ Z 3 1 ∧ (Z' 3 4 = 0 ∨ Z' 3 4 = 3 ∨ Z' 3 3 < Z' 3 2) ∧ (Z' 3 4 = 3 ∨ Z' 3 14 = 0)) ∧ Z 3 3 ≤ Z' 3 3 ∧ (Z' 3 4 = 3 ∨ Z 3 3 + 1 ≤ Z' 3 3) ∧ (Z 3 4 = 3 → Z' 3 4 = 3))) := by
  obtain ⟨r, hca, Z', h', e, q⟩ := Jmt (B := tB l D b0 ad Hb tau) (M := mt_53) (mi := 53) (as := [.ref 3, xI x0]) (d := d + 6) (ls := [some (.ref 3), some (xI x0)]) rfl rfl rfl rfl rfl rfl (cw_53_3 (l := l) (D := D) (b0 := b0) (ad := ad) (Hb := Hb) (tau := tau) (d := d) (Post := fun r => ∃ (Z' : xZ) (h' : mx_H), r = (none, h') ∧ XH n s S Z' h' ∧ GI n S Z' ∧ fr' [(3, 2), (3, 3), (3, 4), (3, 5), (3, 14), (3, 15)] Z Z' ∧ (((Z' 3 3 ≤ Z' 3 2 ∧ Z' 3 2 ≤ Z 3 1 ∧ (Z' 3 4 = 0 ∨ Z' 3 4 = 3 ∨ Z' 3 3 < Z' 3 2) ∧ (Z' 3 4 = 3 ∨ Z' 3 14 = 0)) ∧ Z 3 3 ≤ Z' 3 3 ∧ (Z' 3 4 = 3 ∨ Z 3 3 + 1 ≤ Z' 3 3) ∧ (Z 3 4 = 3 → Z' 3 4 = 3)))) hx hG p0 k0 k1 (fun Z' h' q1 q2 q3 q4 => ⟨Z', h', rfl, q1, q2, q3, q4⟩))
  subst e; exact ⟨Z', h', hca, q⟩
set_option maxRecDepth 100000 in
theorem cw_54_3 {l : Launch} {D : va_G} {b0 : Nat} {ad : Nat → Nat} {Hb : Heap} {tau : Nat → Int64} {d n s : Nat} {S : Nat → xS} {Z : xZ} {h : mx_H} {Post : mx_R → Prop} (hx : XH n s S Z h) (hG : GI n S Z)  {x0 x1 : Int} (p0 : 0 ≤ x0 ∧ x0 ≤ 1) (p1 : 0 ≤ x1 ∧ x1 ≤ 999) (k0 : Z 3 0 = 2) (k1 : (Z 3 3 ≤ Z 3 2 ∧ Z 3 2 ≤ Z 3 1 ∧ (Z 3 4 = 0 ∨ Z 3 4 = 3 ∨ Z 3 3 < Z 3 2) ∧ (Z 3 4 = 3 ∨ Z 3 14 = 0))) (hP : ∀ (z : Int) (Z' : xZ) (h' : mx_H), XH n s S Z' h' → GI n S Z' → fr' [(3, 2), (3, 3), (3, 4), (3, 5), (3, 14), (3, 15)] Z Z' → 0 ≤ z ∧ z ≤ 999 ∧ ((Z' 3 3 ≤ Z' 3 2 ∧ Z' 3 2 ≤ Z 3 1 ∧ (Z' 3 4 = 0 ∨ Z' 3 4 = 3 ∨ Z' 3 3 < Z' 3 2) ∧ (Z' 3 4 = 3 ∨ Z' 3 14 = 0)) ∧ Z 3 3 ≤ Z' 3 3 ∧ (Z' 3 4 = 3 ∨ Z 3 3 + 1 ≤ Z' 3 3) ∧ (Z 3 4 = 3 → Z' 3 4 = 3) ∧ (z = 0 ∨ (x0 ≤ z ∧ z ≤ x1)) ∧ (x0 = 1 → z = 0 → Z' 3 4 = 3) ∧ (Z 3 4 = 1 → x0 = 0 → x1 = 999 → Z 3 3 + 1 ≤ Z' 3 3)) → Post (some (xI z), h')) : mx_J (tB l D b0 ad Hb tau) mt_54 (d + 6) 0 [some (.ref 3), some (xI x0), some (xI x1), none] [] h Post := by
    have a3 : 3 < n := lt83 (GI_n hG) rfl
    have s3 : S 3 = .inl (7, [2, 0, 0, 0, 0, 0, 2, 0, 2, 2, 0, 2, 0, 0, 0, 0]) := GI_s hG 3 rfl
    refine mx_J.step (sn_54 0) (fun _ _ => rfl) ?_
    have b2 : 0 ≤ Z 3 5 ∧ Z 3 5 ≤ 999 := hG.pr 3 5
    refine JgetI (g := 5) (z := Z 3 5) hx (show mx_Sn _ _ 1 (mx_getf 7 5 4) from sn_54 1) a3 s3 rfl rfl rfl ?_
    refine mx_J.step (ls2 := [some (.ref 3), some (xI x0), some (xI x1), some (xI (Z 3 5))]) (sn_54 4) (fun _ _ => rfl) ?_
    refine mx_J.step (sn_54 5) (fun _ _ => rfl) ?_
    have b4 : 0 ≤ Z 3 4 ∧ Z 3 4 ≤ 400 := hG.pr 3 4
    refine JgetI (g := 4) (z := Z 3 4) hx (show mx_Sn _ _ 6 (mx_getf 7 4 9) from sn_54 6) a3 s3 rfl rfl rfl ?_
    refine JcI (z := 1) (show mx_Sn _ _ 9 (mx_const (.int 1) 10) from sn_54 9) rfl ?_
    refine Jicmp_eq (show mx_Sn _ _ 10 (mx_icmp_eq 20 13) from sn_54 10) (by omega) (by omega) (fun q5 => ?_) (fun q5 => ?_)
    · skip
      refine mx_J.step (sn_54 20) (fun _ _ => rfl) ?_
      refine mx_J.step (sn_54 21) (fun _ _ => rfl) ?_
      have c30 : ((Z 3 5) < x0 ∨ x1 < (Z 3 5)) → mx_J (tB l D b0 ad Hb tau) mt_54 (d + 6) 30 [some (.ref 3), some (xI x0), some (xI x1), some (xI (Z 3 5))] [] h Post := by
        intro f6_0
        refine mx_J.step (sn_54 30) (fun _ _ => rfl) ?_
        refine JcI (z := 3) (show mx_Sn _ _ 31 (mx_const (.int 3) 32) from sn_54 31) rfl ?_
        obtain ⟨Z7, h7, hc7, hx7, hG7, hf7, b7⟩ := ct_55_3 (d := d + 5) (l := l) (D := D) (b0 := b0) (ad := ad) (Hb := Hb) (tau := tau) hx hG (show 2 ≤ 3 ∧ 3 ≤ 4 by omega)
        have b8 : 0 ≤ Z7 3 4 ∧ Z7 3 4 ≤ 400 := hG7.pr 3 4
        refine Jcv0 hx (show mx_Sn _ _ 32 (mx_callv 55 2 7 35) from sn_54 32) a3 s3 hc7 rfl rfl rfl ?_
        refine JcI (z := 0) (show mx_Sn _ _ 35 (mx_const (.int 0) 36) from sn_54 35) rfl ?_
        have eq9 : Z7 3 2 = Z 3 2 := (hf7 3 2 rfl)
        have b10 : 0 ≤ Z 3 2 ∧ Z 3 2 ≤ 900 := hG.pr 3 2
        have eq11 : Z7 3 3 = Z 3 3 := (hf7 3 3 rfl)
        have b12 : 0 ≤ Z 3 3 ∧ Z 3 3 ≤ 900 := hG.pr 3 3
        have b13 : 0 ≤ Z7 3 4 ∧ Z7 3 4 ≤ 400 := hG7.pr 3 4
        have eq14 : Z7 3 7 = Z 3 7 := (hf7 3 7 rfl)
        have b15 : 0 ≤ Z 3 7 ∧ Z 3 7 ≤ 900 := hG.pr 3 7
        have b16 : 0 ≤ Z7 3 14 ∧ Z7 3 14 ≤ 4 := hG7.pr 3 14
        have eq17 : Z7 3 0 = Z 3 0 := (hf7 3 0 rfl)
        have b18 : 2 ≤ Z 3 0 ∧ Z 3 0 ≤ 4 := hG.pr 3 0
        have eq19 : Z7 3 1 = Z 3 1 := (hf7 3 1 rfl)
        have b20 : 0 ≤ Z 3 1 ∧ Z 3 1 ≤ 900 := hG.pr 3 1
        have eq21 : Z7 3 2 = Z 3 2 := (hf7 3 2 rfl)
        have b22 : 0 ≤ Z 3 2 ∧ Z 3 2 ≤ 900 := hG.pr 3 2
        have eq23 : Z7 3 3 = Z 3 3 := (hf7 3 3 rfl)
        have b24 : 0 ≤ Z 3 3 ∧ Z 3 3 ≤ 900 := hG.pr 3 3
        have b25 : 0 ≤ Z7 3 4 ∧ Z7 3 4 ≤ 400 := hG7.pr 3 4
        have eq26 : Z7 3 7 = Z 3 7 := (hf7 3 7 rfl)
        have b27 : 0 ≤ Z 3 7 ∧ Z 3 7 ≤ 900 := hG.pr 3 7
        have b28 : 0 ≤ Z7 3 14 ∧ Z7 3 14 ≤ 4 := hG7.pr 3 14
        exact mx_J.ret (sn_54 36) (fun _ _ => rfl) (hP 0 Z7 h7 hx7 hG7 (fr_tr (M := [(3, 2), (3, 3), (3, 4), (3, 5), (3, 14), (3, 15)]) fr_rf (hf7) (M1 := []) rfl rfl) (by omega))
      refine Jicmp_lt (show mx_Sn _ _ 22 (mx_icmp_lt 30 25) from sn_54 22) (by omega) (by omega) (fun q29 => ?_) (fun q29 => ?_)
      · skip
        exact c30 (by omega)
      · skip
        refine mx_J.step (sn_54 25) (fun _ _ => rfl) ?_
        refine mx_J.step (sn_54 26) (fun _ _ => rfl) ?_
        refine Jicmp_le (show mx_Sn _ _ 27 (mx_icmp_le 37 30) from sn_54 27) (by omega) (by omega) (fun q30 => ?_) (fun q30 => ?_)
        · skip
          refine mx_J.step (sn_54 37) (fun _ _ => rfl) ?_
          have b32 : 2 ≤ Z 3 0 ∧ Z 3 0 ≤ 4 := hG.pr 3 0
          have b33 : 0 ≤ Z 3 1 ∧ Z 3 1 ≤ 900 := hG.pr 3 1
          have b34 : 0 ≤ Z 3 2 ∧ Z 3 2 ≤ 900 := hG.pr 3 2
          have b35 : 0 ≤ Z 3 3 ∧ Z 3 3 ≤ 900 := hG.pr 3 3
          have b36 : 0 ≤ Z 3 4 ∧ Z 3 4 ≤ 400 := hG.pr 3 4
          have b37 : 0 ≤ Z 3 14 ∧ Z 3 14 ≤ 4 := hG.pr 3 14
          obtain ⟨Z31, h31, hc31, hx31, hG31, hf31, b31⟩ := ct_56_3 (d := d + 0) (l := l) (D := D) (b0 := b0) (ad := ad) (Hb := Hb) (tau := tau) hx hG  (show Z 3 0 = 2 by omega) (show Z 3 2 ≤ Z 3 1 by omega)
          have b38 : 0 ≤ Z31 3 2 ∧ Z31 3 2 ≤ 900 := hG31.pr 3 2
          have b39 : 0 ≤ Z31 3 3 ∧ Z31 3 3 ≤ 900 := hG31.pr 3 3
          have b40 : 0 ≤ Z31 3 4 ∧ Z31 3 4 ≤ 400 := hG31.pr 3 4
          refine Jcv0 hx (show mx_Sn _ _ 38 (mx_callv 56 1 7 41) from sn_54 38) a3 s3 hc31 rfl rfl rfl ?_
          refine mx_J.step (sn_54 41) (fun _ _ => rfl) ?_
          have b41 : 0 ≤ Z31 3 2 ∧ Z31 3 2 ≤ 900 := hG31.pr 3 2
          have b42 : 0 ≤ Z31 3 3 ∧ Z31 3 3 ≤ 900 := hG31.pr 3 3
          have b43 : 0 ≤ Z31 3 4 ∧ Z31 3 4 ≤ 400 := hG31.pr 3 4
          have eq44 : Z31 3 7 = Z 3 7 := (hf31 3 7 rfl)
          have b45 : 0 ≤ Z 3 7 ∧ Z 3 7 ≤ 900 := hG.pr 3 7
          have eq46 : Z31 3 14 = Z 3 14 := (hf31 3 14 rfl)
          have b47 : 0 ≤ Z 3 14 ∧ Z 3 14 ≤ 4 := hG.pr 3 14
          have eq48 : Z31 3 0 = Z 3 0 := (hf31 3 0 rfl)
          have b49 : 2 ≤ Z 3 0 ∧ Z 3 0 ≤ 4 := hG.pr 3 0
          have eq50 : Z31 3 1 = Z 3 1 := (hf31 3 1 rfl)
          have b51 : 0 ≤ Z 3 1 ∧ Z 3 1 ≤ 900 := hG.pr 3 1
          have b52 : 0 ≤ Z31 3 2 ∧ Z31 3 2 ≤ 900 := hG31.pr 3 2
          have b53 : 0 ≤ Z31 3 3 ∧ Z31 3 3 ≤ 900 := hG31.pr 3 3
          have b54 : 0 ≤ Z31 3 4 ∧ Z31 3 4 ≤ 400 := hG31.pr 3 4
          have eq55 : Z31 3 7 = Z 3 7 := (hf31 3 7 rfl)
          have b56 : 0 ≤ Z 3 7 ∧ Z 3 7 ≤ 900 := hG.pr 3 7
          have eq57 : Z31 3 14 = Z 3 14 := (hf31 3 14 rfl)
          have b58 : 0 ≤ Z 3 14 ∧ Z 3 14 ≤ 4 := hG.pr 3 14
          exact mx_J.ret (sn_54 42) (fun _ _ => rfl) (hP (Z 3 5) Z31 h31 hx31 hG31 (fr_tr (M := [(3, 2), (3, 3), (3, 4), (3, 5), (3, 14), (3, 15)]) fr_rf (hf31) (M1 := []) rfl rfl) (by omega))
        · skip
          exact c30 (by omega)
    · skip
      refine mx_J.step (sn_54 13) (fun _ _ => rfl) ?_
      refine JcI (z := 2) (show mx_Sn _ _ 14 (mx_const (.int 2) 15) from sn_54 14) rfl ?_
      obtain ⟨Z59, h59, hc59, hx59, hG59, hf59, b59⟩ := ct_55_3 (d := d + 5) (l := l) (D := D) (b0 := b0) (ad := ad) (Hb := Hb) (tau := tau) hx hG (show 2 ≤ 2 ∧ 2 ≤ 4 by omega)
      have b60 : 0 ≤ Z59 3 4 ∧ Z59 3 4 ≤ 400 := hG59.pr 3 4
      refine Jcv0 hx (show mx_Sn _ _ 15 (mx_callv 55 2 7 18) from sn_54 15) a3 s3 hc59 rfl rfl rfl ?_
      refine JcI (z := 0) (show mx_Sn _ _ 18 (mx_const (.int 0) 19) from sn_54 18) rfl ?_
      have eq61 : Z59 3 2 = Z 3 2 := (hf59 3 2 rfl)
      have b62 : 0 ≤ Z 3 2 ∧ Z 3 2 ≤ 900 := hG.pr 3 2
      have eq63 : Z59 3 3 = Z 3 3 := (hf59 3 3 rfl)
      have b64 : 0 ≤ Z 3 3 ∧ Z 3 3 ≤ 900 := hG.pr 3 3
      have b65 : 0 ≤ Z59 3 4 ∧ Z59 3 4 ≤ 400 := hG59.pr 3 4
      have eq66 : Z59 3 7 = Z 3 7 := (hf59 3 7 rfl)
      have b67 : 0 ≤ Z 3 7 ∧ Z 3 7 ≤ 900 := hG.pr 3 7
      have b68 : 0 ≤ Z59 3 14 ∧ Z59 3 14 ≤ 4 := hG59.pr 3 14
      have eq69 : Z59 3 0 = Z 3 0 := (hf59 3 0 rfl)
      have b70 : 2 ≤ Z 3 0 ∧ Z 3 0 ≤ 4 := hG.pr 3 0
      have eq71 : Z59 3 1 = Z 3 1 := (hf59 3 1 rfl)
      have b72 : 0 ≤ Z 3 1 ∧ Z 3 1 ≤ 900 := hG.pr 3 1
      have eq73 : Z59 3 2 = Z 3 2 := (hf59 3 2 rfl)
      have b74 : 0 ≤ Z 3 2 ∧ Z 3 2 ≤ 900 := hG.pr 3 2
      have eq75 : Z59 3 3 = Z 3 3 := (hf59 3 3 rfl)
      have b76 : 0 ≤ Z 3 3 ∧ Z 3 3 ≤ 900 := hG.pr 3 3
      have b77 : 0 ≤ Z59 3 4 ∧ Z59 3 4 ≤ 400 := hG59.pr 3 4
      have eq78 : Z59 3 7 = Z 3 7 := (hf59 3 7 rfl)
      have b79 : 0 ≤ Z 3 7 ∧ Z 3 7 ≤ 900 := hG.pr 3 7
      have b80 : 0 ≤ Z59 3 14 ∧ Z59 3 14 ≤ 4 := hG59.pr 3 14
      exact mx_J.ret (sn_54 19) (fun _ _ => rfl) (hP 0 Z59 h59 hx59 hG59 (fr_tr (M := [(3, 2), (3, 3), (3, 4), (3, 5), (3, 14), (3, 15)]) fr_rf (hf59) (M1 := []) rfl rfl) (by omega))
theorem ct_54_3 {l : Launch} {D : va_G} {b0 : Nat} {ad : Nat → Nat} {Hb : Heap} {tau : Nat → Int64} {d n s : Nat} {S : Nat → xS} {Z : xZ} {h : mx_H} (hx : XH n s S Z h) (hG : GI n S Z)  {x0 x1 : Int} (p0 : 0 ≤ x0 ∧ x0 ≤ 1) (p1 : 0 ≤ x1 ∧ x1 ≤ 999) (k0 : Z 3 0 = 2) (k1 : (Z 3 3 ≤ Z 3 2 ∧ Z 3 2 ≤ Z 3 1 ∧ (Z 3 4 = 0 ∨ Z 3 4 = 3 ∨ Z 3 3 < Z 3 2) ∧ (Z 3 4 = 3 ∨ Z 3 14 = 0))) : ∃ (z : Int) (Z' : xZ) (h' : mx_H), mx_Ca (tB l D b0 ad Hb tau) (d + 7) 54 [.ref 3, xI x0, xI x1] h (some (xI z), h') ∧ XH n s S Z' h' ∧ GI n S Z' ∧ fr' [(3, 2), (3, 3), (3, 4), (3, 5), (3, 14), (3, 15)] Z Z' ∧ (0 ≤ z ∧ z ≤ 999 ∧ ((Z' 3 3 ≤ Z' 3 2 ∧ Z' 3 2 ≤ Z 3 1 ∧ (Z' 3 4 = 0 ∨ Z' 3 4 = 3 ∨ Z' 3 3 < Z' 3 2) ∧ (Z' 3 4 = 3 ∨ Z' 3 14 = 0)) ∧ Z 3 3 ≤ Z' 3 3 ∧ (Z' 3 4 = 3 ∨ Z 3 3 + 1 ≤ Z' 3 3) ∧ (Z 3 4 = 3 → Z' 3 4 = 3) ∧ (z = 0 ∨ (x0 ≤ z ∧ z ≤ x1)) ∧ (x0 = 1 → z = 0 → Z' 3 4 = 3) ∧ (Z 3 4 = 1 → x0 = 0 → x1 = 999 → Z 3 3 + 1 ≤ Z' 3 3))) := by
  obtain ⟨r, hca, z, Z', h', e, q⟩ := Jmt (B := tB l D b0 ad Hb tau) (M := mt_54) (mi := 54) (as := [.ref 3, xI x0, xI x1]) (d := d + 6) (ls := [some (.ref 3), some (xI x0), some (xI x1), none]) rfl rfl rfl rfl rfl rfl (cw_54_3 (l := l) (D := D) (b0 := b0) (ad := ad) (Hb := Hb) (tau := tau) (d := d) (Post := fun r => ∃ (z : Int) (Z' : xZ) (h' : mx_H), r = (some (xI z), h') ∧ XH n s S Z' h' ∧ GI n S Z' ∧ fr' [(3, 2), (3, 3), (3, 4), (3, 5), (3, 14), (3, 15)] Z Z' ∧ (0 ≤ z ∧ z ≤ 999 ∧ ((Z' 3 3 ≤ Z' 3 2 ∧ Z' 3 2 ≤ Z 3 1 ∧ (Z' 3 4 = 0 ∨ Z' 3 4 = 3 ∨ Z' 3 3 < Z' 3 2) ∧ (Z' 3 4 = 3 ∨ Z' 3 14 = 0)) ∧ Z 3 3 ≤ Z' 3 3 ∧ (Z' 3 4 = 3 ∨ Z 3 3 + 1 ≤ Z' 3 3) ∧ (Z 3 4 = 3 → Z' 3 4 = 3) ∧ (z = 0 ∨ (x0 ≤ z ∧ z ≤ x1)) ∧ (x0 = 1 → z = 0 → Z' 3 4 = 3) ∧ (Z 3 4 = 1 → x0 = 0 → x1 = 999 → Z 3 3 + 1 ≤ Z' 3 3)))) hx hG p0 p1 k0 k1 (fun z Z' h' q1 q2 q3 q4 => ⟨z, Z', h', rfl, q1, q2, q3, q4⟩))
  subst e; exact ⟨z, Z', h', hca, q⟩
set_option maxRecDepth 100000 in
theorem cw_52_3_0 {l : Launch} {D : va_G} {b0 : Nat} {ad : Nat → Nat} {Hb : Heap} {tau : Nat → Int64} {d n s : Nat} {S : Nat → xS} {Z : xZ} {h : mx_H} {Post : mx_R → Prop} (hx : XH n s S Z h) (hG : GI n S Z)  {x0 : Int} (p0 : 0 ≤ x0 ∧ x0 ≤ 1004) (hP : ∀ (Z' : xZ) (h' : mx_H), XH n s S Z' h' → GI n S Z' → fr' [(3, 7), (5, (-1))] Z Z' → (Z 3 7 ≤ Z' 3 7 ∧ Z' 3 7 ≤ Z 3 7 + 1) → Post (none, h')) : mx_J (tB l D b0 ad Hb tau) mt_52 (d + 0) 0 [some (.ref 3), some (xI x0)] [] h Post := by
    have a3 : 3 < n := lt83 (GI_n hG) rfl
    have s3 : S 3 = .inl (7, [2, 0, 0, 0, 0, 0, 2, 0, 2, 2, 0, 2, 0, 0, 0, 0]) := GI_s hG 3 rfl
    have a5 : 5 < n := lt83 (GI_n hG) rfl
    have s5 : S 5 = .inr (.int, 900, 0) := GI_s hG 5 rfl
    refine mx_J.step (sn_52 0) (fun _ _ => rfl) ?_
    have b2 : 0 ≤ Z 3 7 ∧ Z 3 7 ≤ 900 := hG.pr 3 7
    refine JgetI (g := 7) (z := Z 3 7) hx (show mx_Sn _ _ 1 (mx_getf 7 7 4) from sn_52 1) a3 s3 rfl rfl rfl ?_
    refine mx_J.step (sn_52 4) (fun _ _ => rfl) ?_
    refine JgetR (g := 6) (b := 5) hx (show mx_Sn _ _ 5 (mx_getf 7 6 8) from sn_52 5) a3 s3 rfl rfl (hG.prr 3 6 rfl) ?_
    refine JalenI (z := 900) hx (show mx_Sn _ _ 8 (mx_alen 9) from sn_52 8) a5 s5 (by decide) rfl ?_
    have c32 : ∀  (Z5 : xZ) (h5 : mx_H), (Z 3 7 ≤ Z5 3 7 ∧ Z5 3 7 ≤ Z 3 7 + 1) → XH n s S Z5 h5 → GI n S Z5 → fr' [(3, 7), (5, (-1))] Z Z5 → mx_J (tB l D b0 ad Hb tau) mt_52 (d + 0) 32 [some (.ref 3), some (xI x0)] [] h5 Post := by
      intro Z5 h5 f4_0 hx5 hG5 hf5
      have b6 : 0 ≤ Z5 3 7 ∧ Z5 3 7 ≤ 900 := hG5.pr 3 7
      have b7 : 0 ≤ Z5 3 7 ∧ Z5 3 7 ≤ 900 := hG5.pr 3 7
      have b8 : 0 ≤ Z5 3 7 ∧ Z5 3 7 ≤ 900 := hG5.pr 3 7
      exact mx_J.ret (sn_52 32) (fun _ _ => rfl) (hP Z5 h5 hx5 hG5 (fr_tr (M := [(3, 7), (5, (-1))]) fr_rf (hf5) (M1 := []) rfl rfl) (by omega))
    refine Jicmp_ge (show mx_Sn _ _ 9 (mx_icmp_ge 32 12) from sn_52 9) (by omega) (by omega) (fun q9 => ?_) (fun q9 => ?_)
    · skip
      have b10 : 0 ≤ Z 3 7 ∧ Z 3 7 ≤ 900 := hG.pr 3 7
      exact c32 Z h (by omega) hx hG fr_rf
    · skip
      refine mx_J.step (sn_52 12) (fun _ _ => rfl) ?_
      refine JgetR (g := 6) (b := 5) hx (show mx_Sn _ _ 13 (mx_getf 7 6 16) from sn_52 13) a3 s3 rfl rfl (hG.prr 3 6 rfl) ?_
      refine mx_J.step (sn_52 16) (fun _ _ => rfl) ?_
      have b13 : 0 ≤ Z 3 7 ∧ Z 3 7 ≤ 900 := hG.pr 3 7
      refine JgetI (g := 7) (z := Z 3 7) hx (show mx_Sn _ _ 17 (mx_getf 7 7 20) from sn_52 17) a3 s3 rfl rfl rfl ?_
      refine mx_J.step (sn_52 20) (fun _ _ => rfl) ?_
      refine JiastI hx (show mx_Sn _ _ 21 (mx_iast 1 22) from sn_52 21) a5 s5 rfl (by omega) (fun Z14 h14 hx14 hE14 => ?_)
      have hG14 := GI_up hG hE14 (show 0 ≤ x0 ∧ x0 ≤ 1019 by omega) (show (x0 ≤ 1004 ∨ 1010 ≤ x0) by first | omega | (unfold f57 at *; omega)) rfl
      refine mx_J.step (sn_52 22) (fun _ _ => rfl) ?_
      refine mx_J.step (sn_52 23) (fun _ _ => rfl) ?_
      have b16 : 0 ≤ Z 3 7 ∧ Z 3 7 ≤ 900 := hG.pr 3 7
      refine JgetI (g := 7) (z := Z 3 7) hx14 (show mx_Sn _ _ 24 (mx_getf 7 7 27) from sn_52 24) a3 s3 rfl rfl (up_nk hE14 rfl) ?_
      refine JcI (z := 1) (show mx_Sn _ _ 27 (mx_const (.int 1) 28) from sn_52 27) rfl ?_
      refine Jiadd (show mx_Sn _ _ 28 (mx_iadd 29) from sn_52 28) ?_
      refine JputI (g := 7) hx14 (show mx_Sn _ _ 29 (mx_putf 1 7 7 (.int) 32) from sn_52 29) a3 s3 rfl rfl rfl rfl (fun Z17 h17 hx17 hE17 => ?_)
      have hG17 := GI_up hG14 hE17 (show 0 ≤ (Z 3 7) + 1 ∧ (Z 3 7) + 1 ≤ 900 by omega) trivial rfl
      have eq18 : Z17 3 7 = (Z 3 7) + 1 := (up_at hE17)
      exact c32 Z17 h17 (by omega) hx17 hG17 (fr_tr (M := [(3, 7), (5, (-1))]) (fr_tr (M := [(3, 7), (5, (-1))]) fr_rf (fr_ua hE14) (M1 := []) rfl rfl) (fr_up hE17) rfl rfl)
theorem ct_52_3_0 {l : Launch} {D : va_G} {b0 : Nat} {ad : Nat → Nat} {Hb : Heap} {tau : Nat → Int64} {d n s : Nat} {S : Nat → xS} {Z : xZ} {h : mx_H} (hx : XH n s S Z h) (hG : GI n S Z)  {x0 : Int} (p0 : 0 ≤ x0 ∧ x0 ≤ 1004) : ∃ (Z' : xZ) (h' : mx_H), mx_Ca (tB l D b0 ad Hb tau) (d + 1) 52 [.ref 3, xI x0] h (none, h') ∧ XH n s S Z' h' ∧ GI n S Z' ∧ fr' [(3, 7), (5, (-1))] Z Z' ∧ ((Z 3 7 ≤ Z' 3 7 ∧ Z' 3 7 ≤ Z 3 7 + 1)) := by
  obtain ⟨r, hca, Z', h', e, q⟩ := Jmt (B := tB l D b0 ad Hb tau) (M := mt_52) (mi := 52) (as := [.ref 3, xI x0]) (d := d + 0) (ls := [some (.ref 3), some (xI x0)]) rfl rfl rfl rfl rfl rfl (cw_52_3_0 (l := l) (D := D) (b0 := b0) (ad := ad) (Hb := Hb) (tau := tau) (d := d) (Post := fun r => ∃ (Z' : xZ) (h' : mx_H), r = (none, h') ∧ XH n s S Z' h' ∧ GI n S Z' ∧ fr' [(3, 7), (5, (-1))] Z Z' ∧ ((Z 3 7 ≤ Z' 3 7 ∧ Z' 3 7 ≤ Z 3 7 + 1))) hx hG p0 (fun Z' h' q1 q2 q3 q4 => ⟨Z', h', rfl, q1, q2, q3, q4⟩))
  subst e; exact ⟨Z', h', hca, q⟩
set_option maxRecDepth 100000 in
theorem cw_52_3_1010 {l : Launch} {D : va_G} {b0 : Nat} {ad : Nat → Nat} {Hb : Heap} {tau : Nat → Int64} {d n s : Nat} {S : Nat → xS} {Z : xZ} {h : mx_H} {Post : mx_R → Prop} (hx : XH n s S Z h) (hG : GI n S Z)  {x0 : Int} (p0 : 1010 ≤ x0 ∧ x0 ≤ 1019) (hP : ∀ (Z' : xZ) (h' : mx_H), XH n s S Z' h' → GI n S Z' → fr' [(3, 7), (5, (-1))] Z Z' → (Z 3 7 ≤ Z' 3 7 ∧ Z' 3 7 ≤ Z 3 7 + 1) → Post (none, h')) : mx_J (tB l D b0 ad Hb tau) mt_52 (d + 0) 0 [some (.ref 3), some (xI x0)] [] h Post := by
    have a3 : 3 < n := lt83 (GI_n hG) rfl
    have s3 : S 3 = .inl (7, [2, 0, 0, 0, 0, 0, 2, 0, 2, 2, 0, 2, 0, 0, 0, 0]) := GI_s hG 3 rfl
    have a5 : 5 < n := lt83 (GI_n hG) rfl
    have s5 : S 5 = .inr (.int, 900, 0) := GI_s hG 5 rfl
    refine mx_J.step (sn_52 0) (fun _ _ => rfl) ?_
    have b2 : 0 ≤ Z 3 7 ∧ Z 3 7 ≤ 900 := hG.pr 3 7
    refine JgetI (g := 7) (z := Z 3 7) hx (show mx_Sn _ _ 1 (mx_getf 7 7 4) from sn_52 1) a3 s3 rfl rfl rfl ?_
    refine mx_J.step (sn_52 4) (fun _ _ => rfl) ?_
    refine JgetR (g := 6) (b := 5) hx (show mx_Sn _ _ 5 (mx_getf 7 6 8) from sn_52 5) a3 s3 rfl rfl (hG.prr 3 6 rfl) ?_
    refine JalenI (z := 900) hx (show mx_Sn _ _ 8 (mx_alen 9) from sn_52 8) a5 s5 (by decide) rfl ?_
    have c32 : ∀  (Z5 : xZ) (h5 : mx_H), (Z 3 7 ≤ Z5 3 7 ∧ Z5 3 7 ≤ Z 3 7 + 1) → XH n s S Z5 h5 → GI n S Z5 → fr' [(3, 7), (5, (-1))] Z Z5 → mx_J (tB l D b0 ad Hb tau) mt_52 (d + 0) 32 [some (.ref 3), some (xI x0)] [] h5 Post := by
      intro Z5 h5 f4_0 hx5 hG5 hf5
      have b6 : 0 ≤ Z5 3 7 ∧ Z5 3 7 ≤ 900 := hG5.pr 3 7
      have b7 : 0 ≤ Z5 3 7 ∧ Z5 3 7 ≤ 900 := hG5.pr 3 7
      have b8 : 0 ≤ Z5 3 7 ∧ Z5 3 7 ≤ 900 := hG5.pr 3 7
      exact mx_J.ret (sn_52 32) (fun _ _ => rfl) (hP Z5 h5 hx5 hG5 (fr_tr (M := [(3, 7), (5, (-1))]) fr_rf (hf5) (M1 := []) rfl rfl) (by omega))
    refine Jicmp_ge (show mx_Sn _ _ 9 (mx_icmp_ge 32 12) from sn_52 9) (by omega) (by omega) (fun q9 => ?_) (fun q9 => ?_)
    · skip
      have b10 : 0 ≤ Z 3 7 ∧ Z 3 7 ≤ 900 := hG.pr 3 7
      exact c32 Z h (by omega) hx hG fr_rf
    · skip
      refine mx_J.step (sn_52 12) (fun _ _ => rfl) ?_
      refine JgetR (g := 6) (b := 5) hx (show mx_Sn _ _ 13 (mx_getf 7 6 16) from sn_52 13) a3 s3 rfl rfl (hG.prr 3 6 rfl) ?_
      refine mx_J.step (sn_52 16) (fun _ _ => rfl) ?_
      have b13 : 0 ≤ Z 3 7 ∧ Z 3 7 ≤ 900 := hG.pr 3 7
      refine JgetI (g := 7) (z := Z 3 7) hx (show mx_Sn _ _ 17 (mx_getf 7 7 20) from sn_52 17) a3 s3 rfl rfl rfl ?_
      refine mx_J.step (sn_52 20) (fun _ _ => rfl) ?_
      refine JiastI hx (show mx_Sn _ _ 21 (mx_iast 1 22) from sn_52 21) a5 s5 rfl (by omega) (fun Z14 h14 hx14 hE14 => ?_)
      have hG14 := GI_up hG hE14 (show 0 ≤ x0 ∧ x0 ≤ 1019 by omega) (show (x0 ≤ 1004 ∨ 1010 ≤ x0) by first | omega | (unfold f57 at *; omega)) rfl
      refine mx_J.step (sn_52 22) (fun _ _ => rfl) ?_
      refine mx_J.step (sn_52 23) (fun _ _ => rfl) ?_
      have b16 : 0 ≤ Z 3 7 ∧ Z 3 7 ≤ 900 := hG.pr 3 7
      refine JgetI (g := 7) (z := Z 3 7) hx14 (show mx_Sn _ _ 24 (mx_getf 7 7 27) from sn_52 24) a3 s3 rfl rfl (up_nk hE14 rfl) ?_
      refine JcI (z := 1) (show mx_Sn _ _ 27 (mx_const (.int 1) 28) from sn_52 27) rfl ?_
      refine Jiadd (show mx_Sn _ _ 28 (mx_iadd 29) from sn_52 28) ?_
      refine JputI (g := 7) hx14 (show mx_Sn _ _ 29 (mx_putf 1 7 7 (.int) 32) from sn_52 29) a3 s3 rfl rfl rfl rfl (fun Z17 h17 hx17 hE17 => ?_)
      have hG17 := GI_up hG14 hE17 (show 0 ≤ (Z 3 7) + 1 ∧ (Z 3 7) + 1 ≤ 900 by omega) trivial rfl
      have eq18 : Z17 3 7 = (Z 3 7) + 1 := (up_at hE17)
      exact c32 Z17 h17 (by omega) hx17 hG17 (fr_tr (M := [(3, 7), (5, (-1))]) (fr_tr (M := [(3, 7), (5, (-1))]) fr_rf (fr_ua hE14) (M1 := []) rfl rfl) (fr_up hE17) rfl rfl)
theorem ct_52_3_1010 {l : Launch} {D : va_G} {b0 : Nat} {ad : Nat → Nat} {Hb : Heap} {tau : Nat → Int64} {d n s : Nat} {S : Nat → xS} {Z : xZ} {h : mx_H} (hx : XH n s S Z h) (hG : GI n S Z)  {x0 : Int} (p0 : 1010 ≤ x0 ∧ x0 ≤ 1019) : ∃ (Z' : xZ) (h' : mx_H), mx_Ca (tB l D b0 ad Hb tau) (d + 1) 52 [.ref 3, xI x0] h (none, h') ∧ XH n s S Z' h' ∧ GI n S Z' ∧ fr' [(3, 7), (5, (-1))] Z Z' ∧ ((Z 3 7 ≤ Z' 3 7 ∧ Z' 3 7 ≤ Z 3 7 + 1)) := by
  obtain ⟨r, hca, Z', h', e, q⟩ := Jmt (B := tB l D b0 ad Hb tau) (M := mt_52) (mi := 52) (as := [.ref 3, xI x0]) (d := d + 0) (ls := [some (.ref 3), some (xI x0)]) rfl rfl rfl rfl rfl rfl (cw_52_3_1010 (l := l) (D := D) (b0 := b0) (ad := ad) (Hb := Hb) (tau := tau) (d := d) (Post := fun r => ∃ (Z' : xZ) (h' : mx_H), r = (none, h') ∧ XH n s S Z' h' ∧ GI n S Z' ∧ fr' [(3, 7), (5, (-1))] Z Z' ∧ ((Z 3 7 ≤ Z' 3 7 ∧ Z' 3 7 ≤ Z 3 7 + 1))) hx hG p0 (fun Z' h' q1 q2 q3 q4 => ⟨Z', h', rfl, q1, q2, q3, q4⟩))
  subst e; exact ⟨Z', h', hca, q⟩
set_option maxRecDepth 100000 in
theorem cw_45_3 {l : Launch} {D : va_G} {b0 : Nat} {ad : Nat → Nat} {Hb : Heap} {tau : Nat → Int64} {d n s : Nat} {S : Nat → xS} {Z : xZ} {h : mx_H} {Post : mx_R → Prop} (hx : XH n s S Z h) (hG : GI n S Z)  {x0 : Int} (p0 : 1000 ≤ x0 ∧ x0 ≤ 1004) (k0 : Z 3 0 = 2) (k1 : (Z 3 3 ≤ Z 3 2 ∧ Z 3 2 ≤ Z 3 1 ∧ (Z 3 4 = 0 ∨ Z 3 4 = 3 ∨ Z 3 3 < Z 3 2) ∧ (Z 3 4 = 3 ∨ Z 3 14 = 0))) (k2 : ¬ Z 3 4 = 0) (k3 : ¬ Z 3 4 = 3) (hP : ∀ (Z' : xZ) (h' : mx_H), XH n s S Z' h' → GI n S Z' → fr' [(3, 2), (3, 3), (3, 4), (3, 5), (3, 7), (5, (-1))] Z Z' → ((Z' 3 3 ≤ Z' 3 2 ∧ Z' 3 2 ≤ Z 3 1 ∧ (Z' 3 4 = 0 ∨ Z' 3 4 = 3 ∨ Z' 3 3 < Z' 3 2) ∧ (Z' 3 4 = 3 ∨ Z' 3 14 = 0)) ∧ Z 3 3 + 1 ≤ Z' 3 3 ∧ Z' 3 7 - Z 3 7 ≤ Z' 3 3 - Z 3 3) → Post (none, h')) : mx_J (tB l D b0 ad Hb tau) mt_45 (d + 6) 0 [some (.ref 3), some (xI x0)] [] h Post := by
    have a3 : 3 < n := lt83 (GI_n hG) rfl
    have s3 : S 3 = .inl (7, [2, 0, 0, 0, 0, 0, 2, 0, 2, 2, 0, 2, 0, 0, 0, 0]) := GI_s hG 3 rfl
    refine mx_J.step (sn_45 0) (fun _ _ => rfl) ?_
    refine mx_J.step (sn_45 1) (fun _ _ => rfl) ?_
    have b2 : 0 ≤ Z 3 7 ∧ Z 3 7 ≤ 900 := hG.pr 3 7
    obtain ⟨Z1, h1, hc1, hx1, hG1, hf1, b1⟩ := ct_52_3_0 (d := d + 5) (l := l) (D := D) (b0 := b0) (ad := ad) (Hb := Hb) (tau := tau) hx hG (show 0 ≤ x0 ∧ x0 ≤ 1004 by omega)
    have b3 : 0 ≤ Z1 3 7 ∧ Z1 3 7 ≤ 900 := hG1.pr 3 7
    refine Jcv0 hx (show mx_Sn _ _ 2 (mx_callv 52 2 7 5) from sn_45 2) a3 s3 hc1 rfl rfl rfl ?_
    refine mx_J.step (sn_45 5) (fun _ _ => rfl) ?_
    have eq5 : Z1 3 0 = Z 3 0 := (hf1 3 0 rfl)
    have b6 : 2 ≤ Z 3 0 ∧ Z 3 0 ≤ 4 := hG.pr 3 0
    have eq7 : Z1 3 1 = Z 3 1 := (hf1 3 1 rfl)
    have b8 : 0 ≤ Z 3 1 ∧ Z 3 1 ≤ 900 := hG.pr 3 1
    have eq9 : Z1 3 2 = Z 3 2 := (hf1 3 2 rfl)
    have b10 : 0 ≤ Z 3 2 ∧ Z 3 2 ≤ 900 := hG.pr 3 2
    have eq11 : Z1 3 3 = Z 3 3 := (hf1 3 3 rfl)
    have b12 : 0 ≤ Z 3 3 ∧ Z 3 3 ≤ 900 := hG.pr 3 3
    have eq13 : Z1 3 4 = Z 3 4 := (hf1 3 4 rfl)
    have b14 : 0 ≤ Z 3 4 ∧ Z 3 4 ≤ 400 := hG.pr 3 4
    have eq15 : Z1 3 14 = Z 3 14 := (hf1 3 14 rfl)
    have b16 : 0 ≤ Z 3 14 ∧ Z 3 14 ≤ 4 := hG.pr 3 14
    obtain ⟨Z4, h4, hc4, hx4, hG4, hf4, b4⟩ := ct_56_3 (d := d + 0) (l := l) (D := D) (b0 := b0) (ad := ad) (Hb := Hb) (tau := tau) hx1 hG1  (show Z1 3 0 = 2 by first | omega | (simp only [eq5, eq7, eq9, eq11, eq13, eq15]; omega)) (show Z1 3 2 ≤ Z1 3 1 by first | omega | (simp only [eq5, eq7, eq9, eq11, eq13, eq15]; omega))
    try rw [eq5] at b4
    try rw [eq7] at b4
    try rw [eq9] at b4
    try rw [eq11] at b4
    try rw [eq13] at b4
    try rw [eq15] at b4
    have b17 : 0 ≤ Z4 3 2 ∧ Z4 3 2 ≤ 900 := hG4.pr 3 2
    have b18 : 0 ≤ Z4 3 3 ∧ Z4 3 3 ≤ 900 := hG4.pr 3 3
    have b19 : 0 ≤ Z4 3 4 ∧ Z4 3 4 ≤ 400 := hG4.pr 3 4
    refine Jcv0 hx1 (show mx_Sn _ _ 6 (mx_callv 56 1 7 9) from sn_45 6) a3 s3 hc4 rfl rfl rfl ?_
    have b20 : 0 ≤ Z4 3 2 ∧ Z4 3 2 ≤ 900 := hG4.pr 3 2
    have b21 : 0 ≤ Z4 3 3 ∧ Z4 3 3 ≤ 900 := hG4.pr 3 3
    have b22 : 0 ≤ Z4 3 4 ∧ Z4 3 4 ≤ 400 := hG4.pr 3 4
    have eq23 : Z4 3 7 = Z1 3 7 := (hf4 3 7 rfl)
    have b24 : 0 ≤ Z1 3 7 ∧ Z1 3 7 ≤ 900 := hG1.pr 3 7
    have eq25 : Z4 3 14 = Z 3 14 := ((hf4 3 14 rfl).trans (hf1 3 14 rfl))
    have b26 : 0 ≤ Z 3 14 ∧ Z 3 14 ≤ 4 := hG.pr 3 14
    have eq27 : Z4 3 0 = Z 3 0 := ((hf4 3 0 rfl).trans (hf1 3 0 rfl))
    have b28 : 2 ≤ Z 3 0 ∧ Z 3 0 ≤ 4 := hG.pr 3 0
    have eq29 : Z4 3 1 = Z 3 1 := ((hf4 3 1 rfl).trans (hf1 3 1 rfl))
    have b30 : 0 ≤ Z 3 1 ∧ Z 3 1 ≤ 900 := hG.pr 3 1
    have b31 : 0 ≤ Z4 3 2 ∧ Z4 3 2 ≤ 900 := hG4.pr 3 2
    have b32 : 0 ≤ Z4 3 3 ∧ Z4 3 3 ≤ 900 := hG4.pr 3 3
    have b33 : 0 ≤ Z4 3 4 ∧ Z4 3 4 ≤ 400 := hG4.pr 3 4
    have eq34 : Z4 3 7 = Z1 3 7 := (hf4 3 7 rfl)
    have b35 : 0 ≤ Z1 3 7 ∧ Z1 3 7 ≤ 900 := hG1.pr 3 7
    have eq36 : Z4 3 14 = Z 3 14 := ((hf4 3 14 rfl).trans (hf1 3 14 rfl))
    have b37 : 0 ≤ Z 3 14 ∧ Z 3 14 ≤ 4 := hG.pr 3 14
    exact mx_J.ret (sn_45 9) (fun _ _ => rfl) (hP Z4 h4 hx4 hG4 (fr_tr (M := [(3, 2), (3, 3), (3, 4), (3, 5), (3, 7), (5, (-1))]) (fr_tr (M := [(3, 2), (3, 3), (3, 4), (3, 5), (3, 7), (5, (-1))]) fr_rf (hf1) (M1 := []) rfl rfl) (hf4) rfl rfl) (by omega))
theorem ct_45_3 {l : Launch} {D : va_G} {b0 : Nat} {ad : Nat → Nat} {Hb : Heap} {tau : Nat → Int64} {d n s : Nat} {S : Nat → xS} {Z : xZ} {h : mx_H} (hx : XH n s S Z h) (hG : GI n S Z)  {x0 : Int} (p0 : 1000 ≤ x0 ∧ x0 ≤ 1004) (k0 : Z 3 0 = 2) (k1 : (Z 3 3 ≤ Z 3 2 ∧ Z 3 2 ≤ Z 3 1 ∧ (Z 3 4 = 0 ∨ Z 3 4 = 3 ∨ Z 3 3 < Z 3 2) ∧ (Z 3 4 = 3 ∨ Z 3 14 = 0))) (k2 : ¬ Z 3 4 = 0) (k3 : ¬ Z 3 4 = 3) : ∃ (Z' : xZ) (h' : mx_H), mx_Ca (tB l D b0 ad Hb tau) (d + 7) 45 [.ref 3, xI x0] h (none, h') ∧ XH n s S Z' h' ∧ GI n S Z' ∧ fr' [(3, 2), (3, 3), (3, 4), (3, 5), (3, 7), (5, (-1))] Z Z' ∧ (((Z' 3 3 ≤ Z' 3 2 ∧ Z' 3 2 ≤ Z 3 1 ∧ (Z' 3 4 = 0 ∨ Z' 3 4 = 3 ∨ Z' 3 3 < Z' 3 2) ∧ (Z' 3 4 = 3 ∨ Z' 3 14 = 0)) ∧ Z 3 3 + 1 ≤ Z' 3 3 ∧ Z' 3 7 - Z 3 7 ≤ Z' 3 3 - Z 3 3)) := by
  obtain ⟨r, hca, Z', h', e, q⟩ := Jmt (B := tB l D b0 ad Hb tau) (M := mt_45) (mi := 45) (as := [.ref 3, xI x0]) (d := d + 6) (ls := [some (.ref 3), some (xI x0)]) rfl rfl rfl rfl rfl rfl (cw_45_3 (l := l) (D := D) (b0 := b0) (ad := ad) (Hb := Hb) (tau := tau) (d := d) (Post := fun r => ∃ (Z' : xZ) (h' : mx_H), r = (none, h') ∧ XH n s S Z' h' ∧ GI n S Z' ∧ fr' [(3, 2), (3, 3), (3, 4), (3, 5), (3, 7), (5, (-1))] Z Z' ∧ (((Z' 3 3 ≤ Z' 3 2 ∧ Z' 3 2 ≤ Z 3 1 ∧ (Z' 3 4 = 0 ∨ Z' 3 4 = 3 ∨ Z' 3 3 < Z' 3 2) ∧ (Z' 3 4 = 3 ∨ Z' 3 14 = 0)) ∧ Z 3 3 + 1 ≤ Z' 3 3 ∧ Z' 3 7 - Z 3 7 ≤ Z' 3 3 - Z 3 3))) hx hG p0 k0 k1 k2 k3 (fun Z' h' q1 q2 q3 q4 => ⟨Z', h', rfl, q1, q2, q3, q4⟩))
  subst e; exact ⟨Z', h', hca, q⟩
set_option maxRecDepth 100000 in
theorem cw_41_3 {l : Launch} {D : va_G} {b0 : Nat} {ad : Nat → Nat} {Hb : Heap} {tau : Nat → Int64} {d n s : Nat} {S : Nat → xS} {Z : xZ} {h : mx_H} {Post : mx_R → Prop} (hx : XH n s S Z h) (hG : GI n S Z)   (k0 : Z 3 0 = 2) (k1 : (Z 3 3 ≤ Z 3 2 ∧ Z 3 2 ≤ Z 3 1 ∧ (Z 3 4 = 0 ∨ Z 3 4 = 3 ∨ Z 3 3 < Z 3 2) ∧ (Z 3 4 = 3 ∨ Z 3 14 = 0))) (k2 : ¬ Z 3 4 = 0) (k3 : ¬ Z 3 4 = 3) (hP : ∀ (Z' : xZ) (h' : mx_H), XH n s S Z' h' → GI n S Z' → fr' [(3, 2), (3, 3), (3, 4), (3, 5), (3, 7), (3, 14), (3, 15)] Z Z' → ((Z' 3 3 ≤ Z' 3 2 ∧ Z' 3 2 ≤ Z 3 1 ∧ (Z' 3 4 = 0 ∨ Z' 3 4 = 3 ∨ Z' 3 3 < Z' 3 2) ∧ (Z' 3 4 = 3 ∨ Z' 3 14 = 0)) ∧ Z 3 3 + 1 ≤ Z' 3 3 ∧ Z' 3 7 = 0 ∧ (Z' 3 4 = 3 ∨ Z 3 3 + 2 ≤ Z' 3 3)) → Post (none, h')) : mx_J (tB l D b0 ad Hb tau) mt_41 (d + 7) 0 [some (.ref 3)] [] h Post := by
    have a3 : 3 < n := lt83 (GI_n hG) rfl
    have s3 : S 3 = .inl (7, [2, 0, 0, 0, 0, 0, 2, 0, 2, 2, 0, 2, 0, 0, 0, 0]) := GI_s hG 3 rfl
    refine mx_J.step (sn_41 0) (fun _ _ => rfl) ?_
    have b2 : 2 ≤ Z 3 0 ∧ Z 3 0 ≤ 4 := hG.pr 3 0
    have b3 : 0 ≤ Z 3 1 ∧ Z 3 1 ≤ 900 := hG.pr 3 1
    have b4 : 0 ≤ Z 3 2 ∧ Z 3 2 ≤ 900 := hG.pr 3 2
    have b5 : 0 ≤ Z 3 3 ∧ Z 3 3 ≤ 900 := hG.pr 3 3
    have b6 : 0 ≤ Z 3 4 ∧ Z 3 4 ≤ 400 := hG.pr 3 4
    have b7 : 0 ≤ Z 3 14 ∧ Z 3 14 ≤ 4 := hG.pr 3 14
    obtain ⟨Z1, h1, hc1, hx1, hG1, hf1, b1⟩ := ct_56_3 (d := d + 1) (l := l) (D := D) (b0 := b0) (ad := ad) (Hb := Hb) (tau := tau) hx hG  (show Z 3 0 = 2 by omega) (show Z 3 2 ≤ Z 3 1 by omega)
    have b8 : 0 ≤ Z1 3 2 ∧ Z1 3 2 ≤ 900 := hG1.pr 3 2
    have b9 : 0 ≤ Z1 3 3 ∧ Z1 3 3 ≤ 900 := hG1.pr 3 3
    have b10 : 0 ≤ Z1 3 4 ∧ Z1 3 4 ≤ 400 := hG1.pr 3 4
    refine Jcv0 hx (show mx_Sn _ _ 1 (mx_callv 56 1 7 4) from sn_41 1) a3 s3 hc1 rfl rfl rfl ?_
    refine mx_J.step (sn_41 4) (fun _ _ => rfl) ?_
    refine JcI (z := 58) (show mx_Sn _ _ 5 (mx_const (.int 58) 7) from sn_41 5) rfl ?_
    have eq12 : Z1 3 0 = Z 3 0 := (hf1 3 0 rfl)
    have b13 : 2 ≤ Z 3 0 ∧ Z 3 0 ≤ 4 := hG.pr 3 0
    have eq14 : Z1 3 1 = Z 3 1 := (hf1 3 1 rfl)
    have b15 : 0 ≤ Z 3 1 ∧ Z 3 1 ≤ 900 := hG.pr 3 1
    have b16 : 0 ≤ Z1 3 2 ∧ Z1 3 2 ≤ 900 := hG1.pr 3 2
    have b17 : 0 ≤ Z1 3 3 ∧ Z1 3 3 ≤ 900 := hG1.pr 3 3
    have b18 : 0 ≤ Z1 3 4 ∧ Z1 3 4 ≤ 400 := hG1.pr 3 4
    have eq19 : Z1 3 7 = Z 3 7 := (hf1 3 7 rfl)
    have b20 : 0 ≤ Z 3 7 ∧ Z 3 7 ≤ 900 := hG.pr 3 7
    have eq21 : Z1 3 14 = Z 3 14 := (hf1 3 14 rfl)
    have b22 : 0 ≤ Z 3 14 ∧ Z 3 14 ≤ 4 := hG.pr 3 14
    obtain ⟨Z11, h11, hc11, hx11, hG11, hf11, b11⟩ := ct_53_3 (d := d + 0) (l := l) (D := D) (b0 := b0) (ad := ad) (Hb := Hb) (tau := tau) hx1 hG1 (show 40 ≤ 58 ∧ 58 ≤ 320 by omega) (show Z1 3 0 = 2 by first | omega | (simp only [eq12, eq14, eq19, eq21]; omega)) (show (Z1 3 3 ≤ Z1 3 2 ∧ Z1 3 2 ≤ Z1 3 1 ∧ (Z1 3 4 = 0 ∨ Z1 3 4 = 3 ∨ Z1 3 3 < Z1 3 2) ∧ (Z1 3 4 = 3 ∨ Z1 3 14 = 0)) by first | omega | (simp only [eq12, eq14, eq19, eq21]; omega))
    try rw [eq12] at b11
    try rw [eq14] at b11
    try rw [eq19] at b11
    try rw [eq21] at b11
    have b23 : 0 ≤ Z11 3 2 ∧ Z11 3 2 ≤ 900 := hG11.pr 3 2
    have b24 : 0 ≤ Z11 3 3 ∧ Z11 3 3 ≤ 900 := hG11.pr 3 3
    have b25 : 0 ≤ Z11 3 4 ∧ Z11 3 4 ≤ 400 := hG11.pr 3 4
    have eq26 : Z11 3 7 = Z 3 7 := ((hf11 3 7 rfl).trans (hf1 3 7 rfl))
    have b27 : 0 ≤ Z 3 7 ∧ Z 3 7 ≤ 900 := hG.pr 3 7
    have b28 : 0 ≤ Z11 3 14 ∧ Z11 3 14 ≤ 4 := hG11.pr 3 14
    refine Jcv0 hx1 (show mx_Sn _ _ 7 (mx_callv 53 2 7 10) from sn_41 7) a3 s3 hc11 rfl rfl rfl ?_
    refine mx_J.step (sn_41 10) (fun _ _ => rfl) ?_
    refine JcI (z := 0) (show mx_Sn _ _ 11 (mx_const (.int 0) 12) from sn_41 11) rfl ?_
    refine JputI (g := 7) hx11 (show mx_Sn _ _ 12 (mx_putf 1 7 7 (.int) 15) from sn_41 12) a3 s3 rfl rfl rfl rfl (fun Z29 h29 hx29 hE29 => ?_)
    have hG29 := GI_up hG11 hE29 (show 0 ≤ 0 ∧ 0 ≤ 900 by omega) trivial rfl
    have eq30 : Z29 3 2 = Z11 3 2 := (up_ni hE29 (by decide))
    have b31 : 0 ≤ Z11 3 2 ∧ Z11 3 2 ≤ 900 := hG11.pr 3 2
    have eq32 : Z29 3 3 = Z11 3 3 := (up_ni hE29 (by decide))
    have b33 : 0 ≤ Z11 3 3 ∧ Z11 3 3 ≤ 900 := hG11.pr 3 3
    have eq34 : Z29 3 4 = Z11 3 4 := (up_ni hE29 (by decide))
    have b35 : 0 ≤ Z11 3 4 ∧ Z11 3 4 ≤ 400 := hG11.pr 3 4
    have eq36 : Z29 3 7 = 0 := (up_at hE29)
    have eq37 : Z29 3 14 = Z11 3 14 := (up_ni hE29 (by decide))
    have b38 : 0 ≤ Z11 3 14 ∧ Z11 3 14 ≤ 4 := hG11.pr 3 14
    have eq39 : Z29 3 0 = Z 3 0 := ((up_ni hE29 (by decide)).trans ((hf11 3 0 rfl).trans (hf1 3 0 rfl)))
    have b40 : 2 ≤ Z 3 0 ∧ Z 3 0 ≤ 4 := hG.pr 3 0
    have eq41 : Z29 3 1 = Z 3 1 := ((up_ni hE29 (by decide)).trans ((hf11 3 1 rfl).trans (hf1 3 1 rfl)))
    have b42 : 0 ≤ Z 3 1 ∧ Z 3 1 ≤ 900 := hG.pr 3 1
    have eq43 : Z29 3 2 = Z11 3 2 := (up_ni hE29 (by decide))
    have b44 : 0 ≤ Z11 3 2 ∧ Z11 3 2 ≤ 900 := hG11.pr 3 2
    have eq45 : Z29 3 3 = Z11 3 3 := (up_ni hE29 (by decide))
    have b46 : 0 ≤ Z11 3 3 ∧ Z11 3 3 ≤ 900 := hG11.pr 3 3
    have eq47 : Z29 3 4 = Z11 3 4 := (up_ni hE29 (by decide))
    have b48 : 0 ≤ Z11 3 4 ∧ Z11 3 4 ≤ 400 := hG11.pr 3 4
    have eq49 : Z29 3 7 = 0 := (up_at hE29)
    have eq50 : Z29 3 14 = Z11 3 14 := (up_ni hE29 (by decide))
    have b51 : 0 ≤ Z11 3 14 ∧ Z11 3 14 ≤ 4 := hG11.pr 3 14
    exact mx_J.ret (sn_41 15) (fun _ _ => rfl) (hP Z29 h29 hx29 hG29 (fr_tr (M := [(3, 2), (3, 3), (3, 4), (3, 5), (3, 7), (3, 14), (3, 15)]) (fr_tr (M := [(3, 2), (3, 3), (3, 4), (3, 5), (3, 7), (3, 14), (3, 15)]) (fr_tr (M := [(3, 2), (3, 3), (3, 4), (3, 5), (3, 7), (3, 14), (3, 15)]) fr_rf (hf1) (M1 := []) rfl rfl) (hf11) rfl rfl) (fr_up hE29) rfl rfl) (by omega))
theorem ct_41_3 {l : Launch} {D : va_G} {b0 : Nat} {ad : Nat → Nat} {Hb : Heap} {tau : Nat → Int64} {d n s : Nat} {S : Nat → xS} {Z : xZ} {h : mx_H} (hx : XH n s S Z h) (hG : GI n S Z)   (k0 : Z 3 0 = 2) (k1 : (Z 3 3 ≤ Z 3 2 ∧ Z 3 2 ≤ Z 3 1 ∧ (Z 3 4 = 0 ∨ Z 3 4 = 3 ∨ Z 3 3 < Z 3 2) ∧ (Z 3 4 = 3 ∨ Z 3 14 = 0))) (k2 : ¬ Z 3 4 = 0) (k3 : ¬ Z 3 4 = 3) : ∃ (Z' : xZ) (h' : mx_H), mx_Ca (tB l D b0 ad Hb tau) (d + 8) 41 [.ref 3] h (none, h') ∧ XH n s S Z' h' ∧ GI n S Z' ∧ fr' [(3, 2), (3, 3), (3, 4), (3, 5), (3, 7), (3, 14), (3, 15)] Z Z' ∧ (((Z' 3 3 ≤ Z' 3 2 ∧ Z' 3 2 ≤ Z 3 1 ∧ (Z' 3 4 = 0 ∨ Z' 3 4 = 3 ∨ Z' 3 3 < Z' 3 2) ∧ (Z' 3 4 = 3 ∨ Z' 3 14 = 0)) ∧ Z 3 3 + 1 ≤ Z' 3 3 ∧ Z' 3 7 = 0 ∧ (Z' 3 4 = 3 ∨ Z 3 3 + 2 ≤ Z' 3 3))) := by
  obtain ⟨r, hca, Z', h', e, q⟩ := Jmt (B := tB l D b0 ad Hb tau) (M := mt_41) (mi := 41) (as := [.ref 3]) (d := d + 7) (ls := [some (.ref 3)]) rfl rfl rfl rfl rfl rfl (cw_41_3 (l := l) (D := D) (b0 := b0) (ad := ad) (Hb := Hb) (tau := tau) (d := d) (Post := fun r => ∃ (Z' : xZ) (h' : mx_H), r = (none, h') ∧ XH n s S Z' h' ∧ GI n S Z' ∧ fr' [(3, 2), (3, 3), (3, 4), (3, 5), (3, 7), (3, 14), (3, 15)] Z Z' ∧ (((Z' 3 3 ≤ Z' 3 2 ∧ Z' 3 2 ≤ Z 3 1 ∧ (Z' 3 4 = 0 ∨ Z' 3 4 = 3 ∨ Z' 3 3 < Z' 3 2) ∧ (Z' 3 4 = 3 ∨ Z' 3 14 = 0)) ∧ Z 3 3 + 1 ≤ Z' 3 3 ∧ Z' 3 7 = 0 ∧ (Z' 3 4 = 3 ∨ Z 3 3 + 2 ≤ Z' 3 3)))) hx hG k0 k1 k2 k3 (fun Z' h' q1 q2 q3 q4 => ⟨Z', h', rfl, q1, q2, q3, q4⟩))
  subst e; exact ⟨Z', h', hca, q⟩
set_option maxRecDepth 100000 in
theorem cw_51_3 {l : Launch} {D : va_G} {b0 : Nat} {ad : Nat → Nat} {Hb : Heap} {tau : Nat → Int64} {d n s : Nat} {S : Nat → xS} {Z : xZ} {h : mx_H} {Post : mx_R → Prop} (hx : XH n s S Z h) (hG : GI n S Z)  {x0 : Int} (p0 : 0 ≤ x0 ∧ x0 ≤ 6) (k0 : Z 3 0 = 2) (k1 : (Z 3 3 ≤ Z 3 2 ∧ Z 3 2 ≤ Z 3 1 ∧ (Z 3 4 = 0 ∨ Z 3 4 = 3 ∨ Z 3 3 < Z 3 2) ∧ (Z 3 4 = 3 ∨ Z 3 14 = 0))) (k2 : ¬ Z 3 4 = 0) (k3 : ¬ Z 3 4 = 3) (hP : ∀ (z : Int) (Z' : xZ) (h' : mx_H), XH n s S Z' h' → GI n S Z' → fr' [(3, 2), (3, 3), (3, 4), (3, 5), (3, 14), (3, 15)] Z Z' → 0 ≤ z ∧ z ≤ 1 ∧ ((Z' 3 3 ≤ Z' 3 2 ∧ Z' 3 2 ≤ Z 3 1 ∧ (Z' 3 4 = 0 ∨ Z' 3 4 = 3 ∨ Z' 3 3 < Z' 3 2) ∧ (Z' 3 4 = 3 ∨ Z' 3 14 = 0)) ∧ Z 3 3 ≤ Z' 3 3 ∧ ((z = 0 ∧ x0 = 6 ∧ Z' 3 4 = 3) ∨ (z = 1 ∧ x0 ≤ 5 ∧ Z 3 3 + 1 ≤ Z' 3 3))) → Post (some (xI z), h')) : mx_J (tB l D b0 ad Hb tau) mt_51 (d + 6) 0 [some (.ref 3), some (xI x0)] [] h Post := by
    have a3 : 3 < n := lt83 (GI_n hG) rfl
    have s3 : S 3 = .inl (7, [2, 0, 0, 0, 0, 0, 2, 0, 2, 2, 0, 2, 0, 0, 0, 0]) := GI_s hG 3 rfl
    refine mx_J.step (sn_51 0) (fun _ _ => rfl) ?_
    refine JcI (z := 6) (show mx_Sn _ _ 1 (mx_const (.int 6) 3) from sn_51 1) rfl ?_
    refine Jicmp_lt (show mx_Sn _ _ 3 (mx_icmp_lt 13 6) from sn_51 3) (by omega) (by omega) (fun q1 => ?_) (fun q1 => ?_)
    · skip
      refine mx_J.step (sn_51 13) (fun _ _ => rfl) ?_
      have b3 : 2 ≤ Z 3 0 ∧ Z 3 0 ≤ 4 := hG.pr 3 0
      have b4 : 0 ≤ Z 3 1 ∧ Z 3 1 ≤ 900 := hG.pr 3 1
      have b5 : 0 ≤ Z 3 2 ∧ Z 3 2 ≤ 900 := hG.pr 3 2
      have b6 : 0 ≤ Z 3 3 ∧ Z 3 3 ≤ 900 := hG.pr 3 3
      have b7 : 0 ≤ Z 3 4 ∧ Z 3 4 ≤ 400 := hG.pr 3 4
      have b8 : 0 ≤ Z 3 14 ∧ Z 3 14 ≤ 4 := hG.pr 3 14
      obtain ⟨Z2, h2, hc2, hx2, hG2, hf2, b2⟩ := ct_56_3 (d := d + 0) (l := l) (D := D) (b0 := b0) (ad := ad) (Hb := Hb) (tau := tau) hx hG  (show Z 3 0 = 2 by omega) (show Z 3 2 ≤ Z 3 1 by omega)
      have b9 : 0 ≤ Z2 3 2 ∧ Z2 3 2 ≤ 900 := hG2.pr 3 2
      have b10 : 0 ≤ Z2 3 3 ∧ Z2 3 3 ≤ 900 := hG2.pr 3 3
      have b11 : 0 ≤ Z2 3 4 ∧ Z2 3 4 ≤ 400 := hG2.pr 3 4
      refine Jcv0 hx (show mx_Sn _ _ 14 (mx_callv 56 1 7 17) from sn_51 14) a3 s3 hc2 rfl rfl rfl ?_
      refine JcI (z := 1) (show mx_Sn _ _ 17 (mx_const (.int 1) 18) from sn_51 17) rfl ?_
      have b12 : 0 ≤ Z2 3 2 ∧ Z2 3 2 ≤ 900 := hG2.pr 3 2
      have b13 : 0 ≤ Z2 3 3 ∧ Z2 3 3 ≤ 900 := hG2.pr 3 3
      have b14 : 0 ≤ Z2 3 4 ∧ Z2 3 4 ≤ 400 := hG2.pr 3 4
      have eq15 : Z2 3 7 = Z 3 7 := (hf2 3 7 rfl)
      have b16 : 0 ≤ Z 3 7 ∧ Z 3 7 ≤ 900 := hG.pr 3 7
      have eq17 : Z2 3 14 = Z 3 14 := (hf2 3 14 rfl)
      have b18 : 0 ≤ Z 3 14 ∧ Z 3 14 ≤ 4 := hG.pr 3 14
      have eq19 : Z2 3 0 = Z 3 0 := (hf2 3 0 rfl)
      have b20 : 2 ≤ Z 3 0 ∧ Z 3 0 ≤ 4 := hG.pr 3 0
      have eq21 : Z2 3 1 = Z 3 1 := (hf2 3 1 rfl)
      have b22 : 0 ≤ Z 3 1 ∧ Z 3 1 ≤ 900 := hG.pr 3 1
      have b23 : 0 ≤ Z2 3 2 ∧ Z2 3 2 ≤ 900 := hG2.pr 3 2
      have b24 : 0 ≤ Z2 3 3 ∧ Z2 3 3 ≤ 900 := hG2.pr 3 3
      have b25 : 0 ≤ Z2 3 4 ∧ Z2 3 4 ≤ 400 := hG2.pr 3 4
      have eq26 : Z2 3 7 = Z 3 7 := (hf2 3 7 rfl)
      have b27 : 0 ≤ Z 3 7 ∧ Z 3 7 ≤ 900 := hG.pr 3 7
      have eq28 : Z2 3 14 = Z 3 14 := (hf2 3 14 rfl)
      have b29 : 0 ≤ Z 3 14 ∧ Z 3 14 ≤ 4 := hG.pr 3 14
      exact mx_J.ret (show mx_Sn _ _ 18 (mx_zret) from sn_51 18) (fun _ _ => zr_ok (by omega)) (hP 1 Z2 h2 hx2 hG2 (fr_tr (M := [(3, 2), (3, 3), (3, 4), (3, 5), (3, 14), (3, 15)]) fr_rf (hf2) (M1 := []) rfl rfl) (by omega))
    · skip
      refine mx_J.step (sn_51 6) (fun _ _ => rfl) ?_
      refine JcI (z := 4) (show mx_Sn _ _ 7 (mx_const (.int 4) 8) from sn_51 7) rfl ?_
      obtain ⟨Z30, h30, hc30, hx30, hG30, hf30, b30⟩ := ct_55_3 (d := d + 5) (l := l) (D := D) (b0 := b0) (ad := ad) (Hb := Hb) (tau := tau) hx hG (show 2 ≤ 4 ∧ 4 ≤ 4 by omega)
      have b31 : 0 ≤ Z30 3 4 ∧ Z30 3 4 ≤ 400 := hG30.pr 3 4
      refine Jcv0 hx (show mx_Sn _ _ 8 (mx_callv 55 2 7 11) from sn_51 8) a3 s3 hc30 rfl rfl rfl ?_
      refine JcI (z := 0) (show mx_Sn _ _ 11 (mx_const (.int 0) 12) from sn_51 11) rfl ?_
      have eq32 : Z30 3 2 = Z 3 2 := (hf30 3 2 rfl)
      have b33 : 0 ≤ Z 3 2 ∧ Z 3 2 ≤ 900 := hG.pr 3 2
      have eq34 : Z30 3 3 = Z 3 3 := (hf30 3 3 rfl)
      have b35 : 0 ≤ Z 3 3 ∧ Z 3 3 ≤ 900 := hG.pr 3 3
      have b36 : 0 ≤ Z30 3 4 ∧ Z30 3 4 ≤ 400 := hG30.pr 3 4
      have eq37 : Z30 3 7 = Z 3 7 := (hf30 3 7 rfl)
      have b38 : 0 ≤ Z 3 7 ∧ Z 3 7 ≤ 900 := hG.pr 3 7
      have b39 : 0 ≤ Z30 3 14 ∧ Z30 3 14 ≤ 4 := hG30.pr 3 14
      have eq40 : Z30 3 0 = Z 3 0 := (hf30 3 0 rfl)
      have b41 : 2 ≤ Z 3 0 ∧ Z 3 0 ≤ 4 := hG.pr 3 0
      have eq42 : Z30 3 1 = Z 3 1 := (hf30 3 1 rfl)
      have b43 : 0 ≤ Z 3 1 ∧ Z 3 1 ≤ 900 := hG.pr 3 1
      have eq44 : Z30 3 2 = Z 3 2 := (hf30 3 2 rfl)
      have b45 : 0 ≤ Z 3 2 ∧ Z 3 2 ≤ 900 := hG.pr 3 2
      have eq46 : Z30 3 3 = Z 3 3 := (hf30 3 3 rfl)
      have b47 : 0 ≤ Z 3 3 ∧ Z 3 3 ≤ 900 := hG.pr 3 3
      have b48 : 0 ≤ Z30 3 4 ∧ Z30 3 4 ≤ 400 := hG30.pr 3 4
      have eq49 : Z30 3 7 = Z 3 7 := (hf30 3 7 rfl)
      have b50 : 0 ≤ Z 3 7 ∧ Z 3 7 ≤ 900 := hG.pr 3 7
      have b51 : 0 ≤ Z30 3 14 ∧ Z30 3 14 ≤ 4 := hG30.pr 3 14
      exact mx_J.ret (show mx_Sn _ _ 12 (mx_zret) from sn_51 12) (fun _ _ => zr_ok (by omega)) (hP 0 Z30 h30 hx30 hG30 (fr_tr (M := [(3, 2), (3, 3), (3, 4), (3, 5), (3, 14), (3, 15)]) fr_rf (hf30) (M1 := []) rfl rfl) (by omega))
theorem ct_51_3 {l : Launch} {D : va_G} {b0 : Nat} {ad : Nat → Nat} {Hb : Heap} {tau : Nat → Int64} {d n s : Nat} {S : Nat → xS} {Z : xZ} {h : mx_H} (hx : XH n s S Z h) (hG : GI n S Z)  {x0 : Int} (p0 : 0 ≤ x0 ∧ x0 ≤ 6) (k0 : Z 3 0 = 2) (k1 : (Z 3 3 ≤ Z 3 2 ∧ Z 3 2 ≤ Z 3 1 ∧ (Z 3 4 = 0 ∨ Z 3 4 = 3 ∨ Z 3 3 < Z 3 2) ∧ (Z 3 4 = 3 ∨ Z 3 14 = 0))) (k2 : ¬ Z 3 4 = 0) (k3 : ¬ Z 3 4 = 3) : ∃ (z : Int) (Z' : xZ) (h' : mx_H), mx_Ca (tB l D b0 ad Hb tau) (d + 7) 51 [.ref 3, xI x0] h (some (xI z), h') ∧ XH n s S Z' h' ∧ GI n S Z' ∧ fr' [(3, 2), (3, 3), (3, 4), (3, 5), (3, 14), (3, 15)] Z Z' ∧ (0 ≤ z ∧ z ≤ 1 ∧ ((Z' 3 3 ≤ Z' 3 2 ∧ Z' 3 2 ≤ Z 3 1 ∧ (Z' 3 4 = 0 ∨ Z' 3 4 = 3 ∨ Z' 3 3 < Z' 3 2) ∧ (Z' 3 4 = 3 ∨ Z' 3 14 = 0)) ∧ Z 3 3 ≤ Z' 3 3 ∧ ((z = 0 ∧ x0 = 6 ∧ Z' 3 4 = 3) ∨ (z = 1 ∧ x0 ≤ 5 ∧ Z 3 3 + 1 ≤ Z' 3 3)))) := by
  obtain ⟨r, hca, z, Z', h', e, q⟩ := Jmt (B := tB l D b0 ad Hb tau) (M := mt_51) (mi := 51) (as := [.ref 3, xI x0]) (d := d + 6) (ls := [some (.ref 3), some (xI x0)]) rfl rfl rfl rfl rfl rfl (cw_51_3 (l := l) (D := D) (b0 := b0) (ad := ad) (Hb := Hb) (tau := tau) (d := d) (Post := fun r => ∃ (z : Int) (Z' : xZ) (h' : mx_H), r = (some (xI z), h') ∧ XH n s S Z' h' ∧ GI n S Z' ∧ fr' [(3, 2), (3, 3), (3, 4), (3, 5), (3, 14), (3, 15)] Z Z' ∧ (0 ≤ z ∧ z ≤ 1 ∧ ((Z' 3 3 ≤ Z' 3 2 ∧ Z' 3 2 ≤ Z 3 1 ∧ (Z' 3 4 = 0 ∨ Z' 3 4 = 3 ∨ Z' 3 3 < Z' 3 2) ∧ (Z' 3 4 = 3 ∨ Z' 3 14 = 0)) ∧ Z 3 3 ≤ Z' 3 3 ∧ ((z = 0 ∧ x0 = 6 ∧ Z' 3 4 = 3) ∨ (z = 1 ∧ x0 ≤ 5 ∧ Z 3 3 + 1 ≤ Z' 3 3))))) hx hG p0 k0 k1 k2 k3 (fun z Z' h' q1 q2 q3 q4 => ⟨z, Z', h', rfl, q1, q2, q3, q4⟩))
  subst e; exact ⟨z, Z', h', hca, q⟩
def rb_42 (l : Launch) (D : va_G) (b0 : Nat) (ad : Nat → Nat) (Hb : Heap) (tau : Nat → Int64) (kk : Nat) (x0 : Int) : Prop := ∀ (d n s : Nat) (S : Nat → xS) (Z : xZ) (h : mx_H) (hd : kk ≤ d) (hx : XH n s S Z h) (hG : GI n S Z) (k0 : Z 3 0 = 2) (k1 : (Z 3 3 ≤ Z 3 2 ∧ Z 3 2 ≤ Z 3 1 ∧ (Z 3 4 = 0 ∨ Z 3 4 = 3 ∨ Z 3 3 < Z 3 2) ∧ (Z 3 4 = 3 ∨ Z 3 14 = 0))), ∃ (Z' : xZ) (h' : mx_H), mx_Ca (tB l D b0 ad Hb tau) d 42 [.ref 3, xI x0] h (none, h') ∧ XH n s S Z' h' ∧ GI n S Z' ∧ fr' [(3, 2), (3, 3), (3, 4), (3, 5), (3, 7), (3, 14), (3, 15), (5, (-1))] Z Z' ∧ (((Z' 3 3 ≤ Z' 3 2 ∧ Z' 3 2 ≤ Z 3 1 ∧ (Z' 3 4 = 0 ∨ Z' 3 4 = 3 ∨ Z' 3 3 < Z' 3 2) ∧ (Z' 3 4 = 3 ∨ Z' 3 14 = 0)) ∧ Z 3 3 ≤ Z' 3 3 ∧ Z' 3 7 - Z 3 7 ≤ Z' 3 3 - Z 3 3 ∧ (Z' 3 4 = 3 ∨ Z 3 3 + 1 ≤ Z' 3 3) ∧ (Z 3 4 = 3 → Z' 3 4 = 3)))
def rb_46 (l : Launch) (D : va_G) (b0 : Nat) (ad : Nat → Nat) (Hb : Heap) (tau : Nat → Int64) (kk : Nat) (x0 : Int) : Prop := ∀ (d n s : Nat) (S : Nat → xS) (Z : xZ) (h : mx_H) (hd : kk ≤ d) (hx : XH n s S Z h) (hG : GI n S Z) (k0 : Z 3 0 = 2) (k1 : (Z 3 3 ≤ Z 3 2 ∧ Z 3 2 ≤ Z 3 1 ∧ (Z 3 4 = 0 ∨ Z 3 4 = 3 ∨ Z 3 3 < Z 3 2) ∧ (Z 3 4 = 3 ∨ Z 3 14 = 0))), ∃ (Z' : xZ) (h' : mx_H), mx_Ca (tB l D b0 ad Hb tau) d 46 [.ref 3, xI x0] h (none, h') ∧ XH n s S Z' h' ∧ GI n S Z' ∧ fr' [(3, 2), (3, 3), (3, 4), (3, 5), (3, 7), (3, 14), (3, 15), (5, (-1))] Z Z' ∧ (((Z' 3 3 ≤ Z' 3 2 ∧ Z' 3 2 ≤ Z 3 1 ∧ (Z' 3 4 = 0 ∨ Z' 3 4 = 3 ∨ Z' 3 3 < Z' 3 2) ∧ (Z' 3 4 = 3 ∨ Z' 3 14 = 0)) ∧ Z 3 3 ≤ Z' 3 3 ∧ Z' 3 7 - Z 3 7 ≤ Z' 3 3 - Z 3 3 + 1 ∧ (Z 3 4 = 3 → Z' 3 4 = 3)))
def rb_49 (l : Launch) (D : va_G) (b0 : Nat) (ad : Nat → Nat) (Hb : Heap) (tau : Nat → Int64) (kk : Nat) (x0 : Int) : Prop := ∀ (d n s : Nat) (S : Nat → xS) (Z : xZ) (h : mx_H) (hd : kk ≤ d) (hx : XH n s S Z h) (hG : GI n S Z) (k0 : Z 3 0 = 2) (k1 : (Z 3 3 ≤ Z 3 2 ∧ Z 3 2 ≤ Z 3 1 ∧ (Z 3 4 = 0 ∨ Z 3 4 = 3 ∨ Z 3 3 < Z 3 2) ∧ (Z 3 4 = 3 ∨ Z 3 14 = 0))), ∃ (Z' : xZ) (h' : mx_H), mx_Ca (tB l D b0 ad Hb tau) d 49 [.ref 3, xI x0] h (none, h') ∧ XH n s S Z' h' ∧ GI n S Z' ∧ fr' [(3, 2), (3, 3), (3, 4), (3, 5), (3, 7), (3, 14), (3, 15), (5, (-1))] Z Z' ∧ (((Z' 3 3 ≤ Z' 3 2 ∧ Z' 3 2 ≤ Z 3 1 ∧ (Z' 3 4 = 0 ∨ Z' 3 4 = 3 ∨ Z' 3 3 < Z' 3 2) ∧ (Z' 3 4 = 3 ∨ Z' 3 14 = 0)) ∧ Z 3 3 ≤ Z' 3 3 ∧ Z' 3 7 - Z 3 7 ≤ Z' 3 3 - Z 3 3 ∧ (Z' 3 4 = 3 ∨ Z 3 3 + 1 ≤ Z' 3 3) ∧ (Z 3 4 = 3 → Z' 3 4 = 3)))
def rb_47 (l : Launch) (D : va_G) (b0 : Nat) (ad : Nat → Nat) (Hb : Heap) (tau : Nat → Int64) (kk : Nat) (x0 : Int) : Prop := ∀ (d n s : Nat) (S : Nat → xS) (Z : xZ) (h : mx_H) (hd : kk ≤ d) (hx : XH n s S Z h) (hG : GI n S Z) (k0 : Z 3 0 = 2) (k1 : (Z 3 3 ≤ Z 3 2 ∧ Z 3 2 ≤ Z 3 1 ∧ (Z 3 4 = 0 ∨ Z 3 4 = 3 ∨ Z 3 3 < Z 3 2) ∧ (Z 3 4 = 3 ∨ Z 3 14 = 0))), ∃ (Z' : xZ) (h' : mx_H), mx_Ca (tB l D b0 ad Hb tau) d 47 [.ref 3, xI x0] h (none, h') ∧ XH n s S Z' h' ∧ GI n S Z' ∧ fr' [(3, 2), (3, 3), (3, 4), (3, 5), (3, 7), (3, 14), (3, 15), (5, (-1))] Z Z' ∧ (((Z' 3 3 ≤ Z' 3 2 ∧ Z' 3 2 ≤ Z 3 1 ∧ (Z' 3 4 = 0 ∨ Z' 3 4 = 3 ∨ Z' 3 3 < Z' 3 2) ∧ (Z' 3 4 = 3 ∨ Z' 3 14 = 0)) ∧ Z 3 3 ≤ Z' 3 3 ∧ Z' 3 7 - Z 3 7 ≤ Z' 3 3 - Z 3 3 ∧ (Z' 3 4 = 3 ∨ Z 3 3 + 1 ≤ Z' 3 3) ∧ (Z 3 4 = 3 → Z' 3 4 = 3)))
def RBc (l : Launch) (D : va_G) (b0 : Nat) (ad : Nat → Nat) (Hb : Heap) (tau : Nat → Int64) (kk : Nat) (x0 : Int) : Prop := rb_42 l D b0 ad Hb tau kk x0 ∧ rb_46 l D b0 ad Hb tau kk x0 ∧ rb_49 l D b0 ad Hb tau kk x0 ∧ rb_47 l D b0 ad Hb tau kk x0
def RBch (l : Launch) (D : va_G) (b0 : Nat) (ad : Nat → Nat) (Hb : Heap) (tau : Nat → Int64) (kk : Nat) (x0 : Int) : Prop := x0 ≤ 5 → RBc l D b0 ad Hb tau kk (x0 + 1)
theorem ri_42 {l : Launch} {D : va_G} {b0 : Nat} {ad : Nat → Nat} {Hb : Heap} {tau : Nat → Int64} {x0 : Int} {kk : Nat} (IH : RBch l D b0 ad Hb tau kk x0) (h5 : x0 ≤ 5) {d n s : Nat} {S : Nat → xS} {Z : xZ} {h : mx_H} (hd : kk ≤ d) (hx : XH n s S Z h) (hG : GI n S Z) (_p0 : 1 ≤ x0 + 1 ∧ x0 + 1 ≤ 6) (k0 : Z 3 0 = 2) (k1 : (Z 3 3 ≤ Z 3 2 ∧ Z 3 2 ≤ Z 3 1 ∧ (Z 3 4 = 0 ∨ Z 3 4 = 3 ∨ Z 3 3 < Z 3 2) ∧ (Z 3 4 = 3 ∨ Z 3 14 = 0))) : ∃ (Z' : xZ) (h' : mx_H), mx_Ca (tB l D b0 ad Hb tau) d 42 [.ref 3, xI (x0 + 1)] h (none, h') ∧ XH n s S Z' h' ∧ GI n S Z' ∧ fr' [(3, 2), (3, 3), (3, 4), (3, 5), (3, 7), (3, 14), (3, 15), (5, (-1))] Z Z' ∧ (((Z' 3 3 ≤ Z' 3 2 ∧ Z' 3 2 ≤ Z 3 1 ∧ (Z' 3 4 = 0 ∨ Z' 3 4 = 3 ∨ Z' 3 3 < Z' 3 2) ∧ (Z' 3 4 = 3 ∨ Z' 3 14 = 0)) ∧ Z 3 3 ≤ Z' 3 3 ∧ Z' 3 7 - Z 3 7 ≤ Z' 3 3 - Z 3 3 ∧ (Z' 3 4 = 3 ∨ Z 3 3 + 1 ≤ Z' 3 3) ∧ (Z 3 4 = 3 → Z' 3 4 = 3))) := (IH h5).1 d n s S Z h hd hx hG k0 k1
theorem ri_46 {l : Launch} {D : va_G} {b0 : Nat} {ad : Nat → Nat} {Hb : Heap} {tau : Nat → Int64} {x0 : Int} {kk : Nat} (IH : RBch l D b0 ad Hb tau kk x0) (h5 : x0 ≤ 5) {d n s : Nat} {S : Nat → xS} {Z : xZ} {h : mx_H} (hd : kk ≤ d) (hx : XH n s S Z h) (hG : GI n S Z) (_p0 : 1 ≤ x0 + 1 ∧ x0 + 1 ≤ 6) (k0 : Z 3 0 = 2) (k1 : (Z 3 3 ≤ Z 3 2 ∧ Z 3 2 ≤ Z 3 1 ∧ (Z 3 4 = 0 ∨ Z 3 4 = 3 ∨ Z 3 3 < Z 3 2) ∧ (Z 3 4 = 3 ∨ Z 3 14 = 0))) : ∃ (Z' : xZ) (h' : mx_H), mx_Ca (tB l D b0 ad Hb tau) d 46 [.ref 3, xI (x0 + 1)] h (none, h') ∧ XH n s S Z' h' ∧ GI n S Z' ∧ fr' [(3, 2), (3, 3), (3, 4), (3, 5), (3, 7), (3, 14), (3, 15), (5, (-1))] Z Z' ∧ (((Z' 3 3 ≤ Z' 3 2 ∧ Z' 3 2 ≤ Z 3 1 ∧ (Z' 3 4 = 0 ∨ Z' 3 4 = 3 ∨ Z' 3 3 < Z' 3 2) ∧ (Z' 3 4 = 3 ∨ Z' 3 14 = 0)) ∧ Z 3 3 ≤ Z' 3 3 ∧ Z' 3 7 - Z 3 7 ≤ Z' 3 3 - Z 3 3 + 1 ∧ (Z 3 4 = 3 → Z' 3 4 = 3))) := (IH h5).2.1 d n s S Z h hd hx hG k0 k1
theorem ri_49 {l : Launch} {D : va_G} {b0 : Nat} {ad : Nat → Nat} {Hb : Heap} {tau : Nat → Int64} {x0 : Int} {kk : Nat} (IH : RBch l D b0 ad Hb tau kk x0) (h5 : x0 ≤ 5) {d n s : Nat} {S : Nat → xS} {Z : xZ} {h : mx_H} (hd : kk ≤ d) (hx : XH n s S Z h) (hG : GI n S Z) (_p0 : 1 ≤ x0 + 1 ∧ x0 + 1 ≤ 6) (k0 : Z 3 0 = 2) (k1 : (Z 3 3 ≤ Z 3 2 ∧ Z 3 2 ≤ Z 3 1 ∧ (Z 3 4 = 0 ∨ Z 3 4 = 3 ∨ Z 3 3 < Z 3 2) ∧ (Z 3 4 = 3 ∨ Z 3 14 = 0))) : ∃ (Z' : xZ) (h' : mx_H), mx_Ca (tB l D b0 ad Hb tau) d 49 [.ref 3, xI (x0 + 1)] h (none, h') ∧ XH n s S Z' h' ∧ GI n S Z' ∧ fr' [(3, 2), (3, 3), (3, 4), (3, 5), (3, 7), (3, 14), (3, 15), (5, (-1))] Z Z' ∧ (((Z' 3 3 ≤ Z' 3 2 ∧ Z' 3 2 ≤ Z 3 1 ∧ (Z' 3 4 = 0 ∨ Z' 3 4 = 3 ∨ Z' 3 3 < Z' 3 2) ∧ (Z' 3 4 = 3 ∨ Z' 3 14 = 0)) ∧ Z 3 3 ≤ Z' 3 3 ∧ Z' 3 7 - Z 3 7 ≤ Z' 3 3 - Z 3 3 ∧ (Z' 3 4 = 3 ∨ Z 3 3 + 1 ≤ Z' 3 3) ∧ (Z 3 4 = 3 → Z' 3 4 = 3))) := (IH h5).2.2.1 d n s S Z h hd hx hG k0 k1
theorem ri_47 {l : Launch} {D : va_G} {b0 : Nat} {ad : Nat → Nat} {Hb : Heap} {tau : Nat → Int64} {x0 : Int} {kk : Nat} (IH : RBch l D b0 ad Hb tau kk x0) (h5 : x0 ≤ 5) {d n s : Nat} {S : Nat → xS} {Z : xZ} {h : mx_H} (hd : kk ≤ d) (hx : XH n s S Z h) (hG : GI n S Z) (_p0 : 1 ≤ x0 + 1 ∧ x0 + 1 ≤ 6) (k0 : Z 3 0 = 2) (k1 : (Z 3 3 ≤ Z 3 2 ∧ Z 3 2 ≤ Z 3 1 ∧ (Z 3 4 = 0 ∨ Z 3 4 = 3 ∨ Z 3 3 < Z 3 2) ∧ (Z 3 4 = 3 ∨ Z 3 14 = 0))) : ∃ (Z' : xZ) (h' : mx_H), mx_Ca (tB l D b0 ad Hb tau) d 47 [.ref 3, xI (x0 + 1)] h (none, h') ∧ XH n s S Z' h' ∧ GI n S Z' ∧ fr' [(3, 2), (3, 3), (3, 4), (3, 5), (3, 7), (3, 14), (3, 15), (5, (-1))] Z Z' ∧ (((Z' 3 3 ≤ Z' 3 2 ∧ Z' 3 2 ≤ Z 3 1 ∧ (Z' 3 4 = 0 ∨ Z' 3 4 = 3 ∨ Z' 3 3 < Z' 3 2) ∧ (Z' 3 4 = 3 ∨ Z' 3 14 = 0)) ∧ Z 3 3 ≤ Z' 3 3 ∧ Z' 3 7 - Z 3 7 ≤ Z' 3 3 - Z 3 3 ∧ (Z' 3 4 = 3 ∨ Z 3 3 + 1 ≤ Z' 3 3) ∧ (Z 3 4 = 3 → Z' 3 4 = 3))) := (IH h5).2.2.2 d n s S Z h hd hx hG k0 k1
set_option maxRecDepth 100000 in
theorem cw_44_3_s {l : Launch} {D : va_G} {b0 : Nat} {ad : Nat → Nat} {Hb : Heap} {tau : Nat → Int64} {d n s : Nat} {S : Nat → xS} {Z : xZ} {h : mx_H} {Post : mx_R → Prop} (hx : XH n s S Z h) (hG : GI n S Z)  {x0 : Int} (p0 : 0 ≤ x0 ∧ x0 ≤ 6) (k0 : Z 3 0 = 2) (k1 : (Z 3 3 ≤ Z 3 2 ∧ Z 3 2 ≤ Z 3 1 ∧ (Z 3 4 = 0 ∨ Z 3 4 = 3 ∨ Z 3 3 < Z 3 2) ∧ (Z 3 4 = 3 ∨ Z 3 14 = 0))) {kk : Nat} (IH : RBch l D b0 ad Hb tau kk x0) (hd : kk ≤ d) (hP : ∀ (Z' : xZ) (h' : mx_H), XH n s S Z' h' → GI n S Z' → fr' [(3, 2), (3, 3), (3, 4), (3, 5), (3, 7), (3, 14), (3, 15), (5, (-1))] Z Z' → ((Z' 3 3 ≤ Z' 3 2 ∧ Z' 3 2 ≤ Z 3 1 ∧ (Z' 3 4 = 0 ∨ Z' 3 4 = 3 ∨ Z' 3 3 < Z' 3 2) ∧ (Z' 3 4 = 3 ∨ Z' 3 14 = 0)) ∧ Z 3 3 ≤ Z' 3 3 ∧ Z' 3 7 - Z 3 7 ≤ Z' 3 3 - Z 3 3 ∧ (Z' 3 4 = 3 ∨ Z 3 3 + 1 ≤ Z' 3 3) ∧ (Z 3 4 = 3 → Z' 3 4 = 3)) → Post (none, h')) : mx_J (tB l D b0 ad Hb tau) mt_44 (d + 7) 0 [some (.ref 3), some (xI x0)] [] h Post := by
    have a3 : 3 < n := lt83 (GI_n hG) rfl
    have s3 : S 3 = .inl (7, [2, 0, 0, 0, 0, 0, 2, 0, 2, 2, 0, 2, 0, 0, 0, 0]) := GI_s hG 3 rfl
    refine mx_J.step (sn_44 0) (fun _ _ => rfl) ?_
    have b2 : 0 ≤ Z 3 4 ∧ Z 3 4 ≤ 400 := hG.pr 3 4
    refine JgetI (g := 4) (z := Z 3 4) hx (show mx_Sn _ _ 1 (mx_getf 7 4 4) from sn_44 1) a3 s3 rfl rfl rfl ?_
    refine JcI (z := 1) (show mx_Sn _ _ 4 (mx_const (.int 1) 5) from sn_44 4) rfl ?_
    have c148 : ∀  (Z4 : xZ) (h4 : mx_H), (Z4 3 3 ≤ Z4 3 2 ∧ Z4 3 2 ≤ Z 3 1 ∧ (Z4 3 4 = 0 ∨ Z4 3 4 = 3 ∨ Z4 3 3 < Z4 3 2) ∧ (Z4 3 4 = 3 ∨ Z4 3 14 = 0)) → (Z 3 3 ≤ Z4 3 3 ∧ Z4 3 7 - Z 3 7 ≤ Z4 3 3 - Z 3 3 + 0) → ((Z4 3 4 = 3 ∨ Z 3 3 + 1 ≤ Z4 3 3) ∧ (Z 3 4 = 3 → Z4 3 4 = 3)) → XH n s S Z4 h4 → GI n S Z4 → fr' [(3, 2), (3, 3), (3, 4), (3, 5), (3, 7), (3, 14), (3, 15), (5, (-1))] Z Z4 → mx_J (tB l D b0 ad Hb tau) mt_44 (d + 7) 148 [some (.ref 3), some (xI x0)] [] h4 Post := by
      intro Z4 h4 f3_0 f3_1 f3_2 hx4 hG4 hf4
      have eq5 : Z4 3 0 = Z 3 0 := (hf4 3 0 rfl)
      have b6 : 2 ≤ Z 3 0 ∧ Z 3 0 ≤ 4 := hG.pr 3 0
      have b7 : 0 ≤ Z4 3 2 ∧ Z4 3 2 ≤ 900 := hG4.pr 3 2
      have b8 : 0 ≤ Z4 3 3 ∧ Z4 3 3 ≤ 900 := hG4.pr 3 3
      have b9 : 0 ≤ Z4 3 4 ∧ Z4 3 4 ≤ 400 := hG4.pr 3 4
      have b10 : 0 ≤ Z4 3 7 ∧ Z4 3 7 ≤ 900 := hG4.pr 3 7
      have b11 : 0 ≤ Z4 3 14 ∧ Z4 3 14 ≤ 4 := hG4.pr 3 14
      have b12 : 0 ≤ Z4 3 3 ∧ Z4 3 3 ≤ 900 := hG4.pr 3 3
      have b13 : 0 ≤ Z4 3 7 ∧ Z4 3 7 ≤ 900 := hG4.pr 3 7
      have b14 : 0 ≤ Z4 3 3 ∧ Z4 3 3 ≤ 900 := hG4.pr 3 3
      have b15 : 0 ≤ Z4 3 4 ∧ Z4 3 4 ≤ 400 := hG4.pr 3 4
      have b16 : 0 ≤ Z4 3 2 ∧ Z4 3 2 ≤ 900 := hG4.pr 3 2
      have b17 : 0 ≤ Z4 3 3 ∧ Z4 3 3 ≤ 900 := hG4.pr 3 3
      have b18 : 0 ≤ Z4 3 4 ∧ Z4 3 4 ≤ 400 := hG4.pr 3 4
      have b19 : 0 ≤ Z4 3 7 ∧ Z4 3 7 ≤ 900 := hG4.pr 3 7
      have b20 : 0 ≤ Z4 3 14 ∧ Z4 3 14 ≤ 4 := hG4.pr 3 14
      have eq21 : Z4 3 0 = Z 3 0 := (hf4 3 0 rfl)
      have b22 : 2 ≤ Z 3 0 ∧ Z 3 0 ≤ 4 := hG.pr 3 0
      have eq23 : Z4 3 1 = Z 3 1 := (hf4 3 1 rfl)
      have b24 : 0 ≤ Z 3 1 ∧ Z 3 1 ≤ 900 := hG.pr 3 1
      have b25 : 0 ≤ Z4 3 2 ∧ Z4 3 2 ≤ 900 := hG4.pr 3 2
      have b26 : 0 ≤ Z4 3 3 ∧ Z4 3 3 ≤ 900 := hG4.pr 3 3
      have b27 : 0 ≤ Z4 3 4 ∧ Z4 3 4 ≤ 400 := hG4.pr 3 4
      have b28 : 0 ≤ Z4 3 7 ∧ Z4 3 7 ≤ 900 := hG4.pr 3 7
      have b29 : 0 ≤ Z4 3 14 ∧ Z4 3 14 ≤ 4 := hG4.pr 3 14
      exact mx_J.ret (sn_44 148) (fun _ _ => rfl) (hP Z4 h4 hx4 hG4 (fr_tr (M := [(3, 2), (3, 3), (3, 4), (3, 5), (3, 7), (3, 14), (3, 15), (5, (-1))]) fr_rf (hf4) (M1 := []) rfl rfl) (by omega))
    refine Jicmp_ne (show mx_Sn _ _ 5 (mx_icmp_ne 23 8) from sn_44 5) (by omega) (by omega) (fun q30 => ?_) (fun q30 => ?_)
    · skip
      refine mx_J.step (sn_44 23) (fun _ _ => rfl) ?_
      have b32 : 0 ≤ Z 3 4 ∧ Z 3 4 ≤ 400 := hG.pr 3 4
      refine JgetI (g := 4) (z := Z 3 4) hx (show mx_Sn _ _ 24 (mx_getf 7 4 27) from sn_44 24) a3 s3 rfl rfl rfl ?_
      refine JcI (z := 40) (show mx_Sn _ _ 27 (mx_const (.int 40) 29) from sn_44 27) rfl ?_
      refine Jicmp_ne (show mx_Sn _ _ 29 (mx_icmp_ne 56 32) from sn_44 29) (by omega) (by omega) (fun q33 => ?_) (fun q33 => ?_)
      · skip
        refine mx_J.step (sn_44 56) (fun _ _ => rfl) ?_
        have b35 : 0 ≤ Z 3 4 ∧ Z 3 4 ≤ 400 := hG.pr 3 4
        refine JgetI (g := 4) (z := Z 3 4) hx (show mx_Sn _ _ 57 (mx_getf 7 4 60) from sn_44 57) a3 s3 rfl rfl rfl ?_
        refine JcI (z := 305) (show mx_Sn _ _ 60 (mx_const (.int 305) 63) from sn_44 60) rfl ?_
        refine Jicmp_ne (show mx_Sn _ _ 63 (mx_icmp_ne 84 66) from sn_44 63) (by omega) (by omega) (fun q36 => ?_) (fun q36 => ?_)
        · skip
          refine mx_J.step (sn_44 84) (fun _ _ => rfl) ?_
          have b38 : 0 ≤ Z 3 4 ∧ Z 3 4 ≤ 400 := hG.pr 3 4
          refine JgetI (g := 4) (z := Z 3 4) hx (show mx_Sn _ _ 85 (mx_getf 7 4 88) from sn_44 85) a3 s3 rfl rfl rfl ?_
          refine JcI (z := 301) (show mx_Sn _ _ 88 (mx_const (.int 301) 91) from sn_44 88) rfl ?_
          refine Jicmp_ne (show mx_Sn _ _ 91 (mx_icmp_ne 104 94) from sn_44 91) (by omega) (by omega) (fun q39 => ?_) (fun q39 => ?_)
          · skip
            refine mx_J.step (sn_44 104) (fun _ _ => rfl) ?_
            have b41 : 0 ≤ Z 3 4 ∧ Z 3 4 ≤ 400 := hG.pr 3 4
            refine JgetI (g := 4) (z := Z 3 4) hx (show mx_Sn _ _ 105 (mx_getf 7 4 108) from sn_44 105) a3 s3 rfl rfl rfl ?_
            refine JcI (z := 309) (show mx_Sn _ _ 108 (mx_const (.int 309) 111) from sn_44 108) rfl ?_
            have c143 : mx_J (tB l D b0 ad Hb tau) mt_44 (d + 7) 143 [some (.ref 3), some (xI x0)] [] h Post := by
              refine mx_J.step (sn_44 143) (fun _ _ => rfl) ?_
              refine JcI (z := 2) (show mx_Sn _ _ 144 (mx_const (.int 2) 145) from sn_44 144) rfl ?_
              obtain ⟨Z43, h43, hc43, hx43, hG43, hf43, b43⟩ := ct_55_3 (d := d + 6) (l := l) (D := D) (b0 := b0) (ad := ad) (Hb := Hb) (tau := tau) hx hG (show 2 ≤ 2 ∧ 2 ≤ 4 by omega)
              have b44 : 0 ≤ Z43 3 4 ∧ Z43 3 4 ≤ 400 := hG43.pr 3 4
              refine Jcv0 hx (show mx_Sn _ _ 145 (mx_callv 55 2 7 148) from sn_44 145) a3 s3 hc43 rfl rfl rfl ?_
              have eq45 : Z43 3 0 = Z 3 0 := (hf43 3 0 rfl)
              have b46 : 2 ≤ Z 3 0 ∧ Z 3 0 ≤ 4 := hG.pr 3 0
              have eq47 : Z43 3 2 = Z 3 2 := (hf43 3 2 rfl)
              have b48 : 0 ≤ Z 3 2 ∧ Z 3 2 ≤ 900 := hG.pr 3 2
              have eq49 : Z43 3 3 = Z 3 3 := (hf43 3 3 rfl)
              have b50 : 0 ≤ Z 3 3 ∧ Z 3 3 ≤ 900 := hG.pr 3 3
              have b51 : 0 ≤ Z43 3 4 ∧ Z43 3 4 ≤ 400 := hG43.pr 3 4
              have eq52 : Z43 3 7 = Z 3 7 := (hf43 3 7 rfl)
              have b53 : 0 ≤ Z 3 7 ∧ Z 3 7 ≤ 900 := hG.pr 3 7
              have b54 : 0 ≤ Z43 3 14 ∧ Z43 3 14 ≤ 4 := hG43.pr 3 14
              have eq55 : Z43 3 3 = Z 3 3 := (hf43 3 3 rfl)
              have b56 : 0 ≤ Z 3 3 ∧ Z 3 3 ≤ 900 := hG.pr 3 3
              have eq57 : Z43 3 7 = Z 3 7 := (hf43 3 7 rfl)
              have b58 : 0 ≤ Z 3 7 ∧ Z 3 7 ≤ 900 := hG.pr 3 7
              have eq59 : Z43 3 3 = Z 3 3 := (hf43 3 3 rfl)
              have b60 : 0 ≤ Z 3 3 ∧ Z 3 3 ≤ 900 := hG.pr 3 3
              have b61 : 0 ≤ Z43 3 4 ∧ Z43 3 4 ≤ 400 := hG43.pr 3 4
              exact c148 Z43 h43 (by omega) (by omega) (by omega) hx43 hG43 (fr_tr (M := [(3, 2), (3, 3), (3, 4), (3, 5), (3, 7), (3, 14), (3, 15), (5, (-1))]) fr_rf (hf43) (M1 := []) rfl rfl)
            refine Jicmp_lt (show mx_Sn _ _ 111 (mx_icmp_lt 143 114) from sn_44 111) (by omega) (by omega) (fun q62 => ?_) (fun q62 => ?_)
            · skip
              exact c143 
            · skip
              refine mx_J.step (sn_44 114) (fun _ _ => rfl) ?_
              have b64 : 0 ≤ Z 3 4 ∧ Z 3 4 ≤ 400 := hG.pr 3 4
              refine JgetI (g := 4) (z := Z 3 4) hx (show mx_Sn _ _ 115 (mx_getf 7 4 118) from sn_44 115) a3 s3 rfl rfl rfl ?_
              refine JcI (z := 312) (show mx_Sn _ _ 118 (mx_const (.int 312) 121) from sn_44 118) rfl ?_
              refine Jicmp_gt (show mx_Sn _ _ 121 (mx_icmp_gt 143 124) from sn_44 121) (by omega) (by omega) (fun q65 => ?_) (fun q65 => ?_)
              · skip
                exact c143 
              · skip
                refine mx_J.step (sn_44 124) (fun _ _ => rfl) ?_
                refine JcI (z := 1000) (show mx_Sn _ _ 125 (mx_const (.int 1000) 128) from sn_44 125) rfl ?_
                refine mx_J.step (sn_44 128) (fun _ _ => rfl) ?_
                have b67 : 0 ≤ Z 3 4 ∧ Z 3 4 ≤ 400 := hG.pr 3 4
                refine JgetI (g := 4) (z := Z 3 4) hx (show mx_Sn _ _ 129 (mx_getf 7 4 132) from sn_44 129) a3 s3 rfl rfl rfl ?_
                refine Jiadd (show mx_Sn _ _ 132 (mx_iadd 133) from sn_44 132) ?_
                refine JcI (z := 309) (show mx_Sn _ _ 133 (mx_const (.int 309) 136) from sn_44 133) rfl ?_
                refine Jisub (show mx_Sn _ _ 136 (mx_isub 137) from sn_44 136) ?_
                have b69 : 2 ≤ Z 3 0 ∧ Z 3 0 ≤ 4 := hG.pr 3 0
                have b70 : 0 ≤ Z 3 1 ∧ Z 3 1 ≤ 900 := hG.pr 3 1
                have b71 : 0 ≤ Z 3 2 ∧ Z 3 2 ≤ 900 := hG.pr 3 2
                have b72 : 0 ≤ Z 3 3 ∧ Z 3 3 ≤ 900 := hG.pr 3 3
                have b73 : 0 ≤ Z 3 4 ∧ Z 3 4 ≤ 400 := hG.pr 3 4
                have b74 : 0 ≤ Z 3 7 ∧ Z 3 7 ≤ 900 := hG.pr 3 7
                have b75 : 0 ≤ Z 3 14 ∧ Z 3 14 ≤ 4 := hG.pr 3 14
                obtain ⟨Z68, h68, hc68, hx68, hG68, hf68, b68⟩ := ct_45_3 (d := d + 0) (l := l) (D := D) (b0 := b0) (ad := ad) (Hb := Hb) (tau := tau) hx hG (show 1000 ≤ (1000 + (Z 3 4)) - 309 ∧ (1000 + (Z 3 4)) - 309 ≤ 1004 by omega) (show Z 3 0 = 2 by omega) (show (Z 3 3 ≤ Z 3 2 ∧ Z 3 2 ≤ Z 3 1 ∧ (Z 3 4 = 0 ∨ Z 3 4 = 3 ∨ Z 3 3 < Z 3 2) ∧ (Z 3 4 = 3 ∨ Z 3 14 = 0)) by omega) (show ¬ Z 3 4 = 0 by omega) (show ¬ Z 3 4 = 3 by omega)
                have b76 : 0 ≤ Z68 3 2 ∧ Z68 3 2 ≤ 900 := hG68.pr 3 2
                have b77 : 0 ≤ Z68 3 3 ∧ Z68 3 3 ≤ 900 := hG68.pr 3 3
                have b78 : 0 ≤ Z68 3 4 ∧ Z68 3 4 ≤ 400 := hG68.pr 3 4
                have b79 : 0 ≤ Z68 3 7 ∧ Z68 3 7 ≤ 900 := hG68.pr 3 7
                have eq80 : Z68 3 14 = Z 3 14 := (hf68 3 14 rfl)
                have b81 : 0 ≤ Z 3 14 ∧ Z 3 14 ≤ 4 := hG.pr 3 14
                refine Jcv0 hx (show mx_Sn _ _ 137 (mx_callv 45 2 7 140) from sn_44 137) a3 s3 hc68 rfl rfl rfl ?_
                refine mx_J.step (sn_44 140) (fun _ _ => rfl) ?_
                have eq82 : Z68 3 0 = Z 3 0 := (hf68 3 0 rfl)
                have b83 : 2 ≤ Z 3 0 ∧ Z 3 0 ≤ 4 := hG.pr 3 0
                have b84 : 0 ≤ Z68 3 2 ∧ Z68 3 2 ≤ 900 := hG68.pr 3 2
                have b85 : 0 ≤ Z68 3 3 ∧ Z68 3 3 ≤ 900 := hG68.pr 3 3
                have b86 : 0 ≤ Z68 3 4 ∧ Z68 3 4 ≤ 400 := hG68.pr 3 4
                have b87 : 0 ≤ Z68 3 7 ∧ Z68 3 7 ≤ 900 := hG68.pr 3 7
                have eq88 : Z68 3 14 = Z 3 14 := (hf68 3 14 rfl)
                have b89 : 0 ≤ Z 3 14 ∧ Z 3 14 ≤ 4 := hG.pr 3 14
                have b90 : 0 ≤ Z68 3 3 ∧ Z68 3 3 ≤ 900 := hG68.pr 3 3
                have b91 : 0 ≤ Z68 3 7 ∧ Z68 3 7 ≤ 900 := hG68.pr 3 7
                have b92 : 0 ≤ Z68 3 3 ∧ Z68 3 3 ≤ 900 := hG68.pr 3 3
                have b93 : 0 ≤ Z68 3 4 ∧ Z68 3 4 ≤ 400 := hG68.pr 3 4
                exact c148 Z68 h68 (by omega) (by omega) (by omega) hx68 hG68 (fr_tr (M := [(3, 2), (3, 3), (3, 4), (3, 5), (3, 7), (3, 14), (3, 15), (5, (-1))]) fr_rf (hf68) (M1 := []) rfl rfl)
          · skip
            refine mx_J.step (sn_44 94) (fun _ _ => rfl) ?_
            refine JcI (z := 1004) (show mx_Sn _ _ 95 (mx_const (.int 1004) 98) from sn_44 95) rfl ?_
            have b95 : 2 ≤ Z 3 0 ∧ Z 3 0 ≤ 4 := hG.pr 3 0
            have b96 : 0 ≤ Z 3 1 ∧ Z 3 1 ≤ 900 := hG.pr 3 1
            have b97 : 0 ≤ Z 3 2 ∧ Z 3 2 ≤ 900 := hG.pr 3 2
            have b98 : 0 ≤ Z 3 3 ∧ Z 3 3 ≤ 900 := hG.pr 3 3
            have b99 : 0 ≤ Z 3 4 ∧ Z 3 4 ≤ 400 := hG.pr 3 4
            have b100 : 0 ≤ Z 3 7 ∧ Z 3 7 ≤ 900 := hG.pr 3 7
            have b101 : 0 ≤ Z 3 14 ∧ Z 3 14 ≤ 4 := hG.pr 3 14
            obtain ⟨Z94, h94, hc94, hx94, hG94, hf94, b94⟩ := ct_45_3 (d := d + 0) (l := l) (D := D) (b0 := b0) (ad := ad) (Hb := Hb) (tau := tau) hx hG (show 1000 ≤ 1004 ∧ 1004 ≤ 1004 by omega) (show Z 3 0 = 2 by omega) (show (Z 3 3 ≤ Z 3 2 ∧ Z 3 2 ≤ Z 3 1 ∧ (Z 3 4 = 0 ∨ Z 3 4 = 3 ∨ Z 3 3 < Z 3 2) ∧ (Z 3 4 = 3 ∨ Z 3 14 = 0)) by omega) (show ¬ Z 3 4 = 0 by omega) (show ¬ Z 3 4 = 3 by omega)
            have b102 : 0 ≤ Z94 3 2 ∧ Z94 3 2 ≤ 900 := hG94.pr 3 2
            have b103 : 0 ≤ Z94 3 3 ∧ Z94 3 3 ≤ 900 := hG94.pr 3 3
            have b104 : 0 ≤ Z94 3 4 ∧ Z94 3 4 ≤ 400 := hG94.pr 3 4
            have b105 : 0 ≤ Z94 3 7 ∧ Z94 3 7 ≤ 900 := hG94.pr 3 7
            have eq106 : Z94 3 14 = Z 3 14 := (hf94 3 14 rfl)
            have b107 : 0 ≤ Z 3 14 ∧ Z 3 14 ≤ 4 := hG.pr 3 14
            refine Jcv0 hx (show mx_Sn _ _ 98 (mx_callv 45 2 7 101) from sn_44 98) a3 s3 hc94 rfl rfl rfl ?_
            refine mx_J.step (sn_44 101) (fun _ _ => rfl) ?_
            have eq108 : Z94 3 0 = Z 3 0 := (hf94 3 0 rfl)
            have b109 : 2 ≤ Z 3 0 ∧ Z 3 0 ≤ 4 := hG.pr 3 0
            have b110 : 0 ≤ Z94 3 2 ∧ Z94 3 2 ≤ 900 := hG94.pr 3 2
            have b111 : 0 ≤ Z94 3 3 ∧ Z94 3 3 ≤ 900 := hG94.pr 3 3
            have b112 : 0 ≤ Z94 3 4 ∧ Z94 3 4 ≤ 400 := hG94.pr 3 4
            have b113 : 0 ≤ Z94 3 7 ∧ Z94 3 7 ≤ 900 := hG94.pr 3 7
            have eq114 : Z94 3 14 = Z 3 14 := (hf94 3 14 rfl)
            have b115 : 0 ≤ Z 3 14 ∧ Z 3 14 ≤ 4 := hG.pr 3 14
            have b116 : 0 ≤ Z94 3 3 ∧ Z94 3 3 ≤ 900 := hG94.pr 3 3
            have b117 : 0 ≤ Z94 3 7 ∧ Z94 3 7 ≤ 900 := hG94.pr 3 7
            have b118 : 0 ≤ Z94 3 3 ∧ Z94 3 3 ≤ 900 := hG94.pr 3 3
            have b119 : 0 ≤ Z94 3 4 ∧ Z94 3 4 ≤ 400 := hG94.pr 3 4
            exact c148 Z94 h94 (by omega) (by omega) (by omega) hx94 hG94 (fr_tr (M := [(3, 2), (3, 3), (3, 4), (3, 5), (3, 7), (3, 14), (3, 15), (5, (-1))]) fr_rf (hf94) (M1 := []) rfl rfl)
        · skip
          refine mx_J.step (sn_44 66) (fun _ _ => rfl) ?_
          refine mx_J.step (sn_44 67) (fun _ _ => rfl) ?_
          have b121 : 2 ≤ Z 3 0 ∧ Z 3 0 ≤ 4 := hG.pr 3 0
          have b122 : 0 ≤ Z 3 1 ∧ Z 3 1 ≤ 900 := hG.pr 3 1
          have b123 : 0 ≤ Z 3 2 ∧ Z 3 2 ≤ 900 := hG.pr 3 2
          have b124 : 0 ≤ Z 3 3 ∧ Z 3 3 ≤ 900 := hG.pr 3 3
          have b125 : 0 ≤ Z 3 4 ∧ Z 3 4 ≤ 400 := hG.pr 3 4
          have b126 : 0 ≤ Z 3 7 ∧ Z 3 7 ≤ 900 := hG.pr 3 7
          have b127 : 0 ≤ Z 3 14 ∧ Z 3 14 ≤ 4 := hG.pr 3 14
          obtain ⟨z120, Z120, h120, hc120, hx120, hG120, hf120, b120⟩ := ct_51_3 (d := d + 0) (l := l) (D := D) (b0 := b0) (ad := ad) (Hb := Hb) (tau := tau) hx hG (show 0 ≤ x0 ∧ x0 ≤ 6 by omega) (show Z 3 0 = 2 by omega) (show (Z 3 3 ≤ Z 3 2 ∧ Z 3 2 ≤ Z 3 1 ∧ (Z 3 4 = 0 ∨ Z 3 4 = 3 ∨ Z 3 3 < Z 3 2) ∧ (Z 3 4 = 3 ∨ Z 3 14 = 0)) by omega) (show ¬ Z 3 4 = 0 by omega) (show ¬ Z 3 4 = 3 by omega)
          have b128 : 0 ≤ Z120 3 2 ∧ Z120 3 2 ≤ 900 := hG120.pr 3 2
          have b129 : 0 ≤ Z120 3 3 ∧ Z120 3 3 ≤ 900 := hG120.pr 3 3
          have b130 : 0 ≤ Z120 3 4 ∧ Z120 3 4 ≤ 400 := hG120.pr 3 4
          have eq131 : Z120 3 7 = Z 3 7 := (hf120 3 7 rfl)
          have b132 : 0 ≤ Z 3 7 ∧ Z 3 7 ≤ 900 := hG.pr 3 7
          have b133 : 0 ≤ Z120 3 14 ∧ Z120 3 14 ≤ 4 := hG120.pr 3 14
          refine Jcv hx (show mx_Sn _ _ 68 (mx_callv 51 2 7 71) from sn_44 68) a3 s3 hc120 rfl rfl rfl ?_
          refine Jif_eq (show mx_Sn _ _ 71 (mx_if_eq 148 74) from sn_44 71) (by omega) (fun q134 => ?_) (fun q134 => ?_)
          · skip
            have eq135 : Z120 3 0 = Z 3 0 := (hf120 3 0 rfl)
            have b136 : 2 ≤ Z 3 0 ∧ Z 3 0 ≤ 4 := hG.pr 3 0
            have b137 : 0 ≤ Z120 3 2 ∧ Z120 3 2 ≤ 900 := hG120.pr 3 2
            have b138 : 0 ≤ Z120 3 3 ∧ Z120 3 3 ≤ 900 := hG120.pr 3 3
            have b139 : 0 ≤ Z120 3 4 ∧ Z120 3 4 ≤ 400 := hG120.pr 3 4
            have eq140 : Z120 3 7 = Z 3 7 := (hf120 3 7 rfl)
            have b141 : 0 ≤ Z 3 7 ∧ Z 3 7 ≤ 900 := hG.pr 3 7
            have b142 : 0 ≤ Z120 3 14 ∧ Z120 3 14 ≤ 4 := hG120.pr 3 14
            have b143 : 0 ≤ Z120 3 3 ∧ Z120 3 3 ≤ 900 := hG120.pr 3 3
            have eq144 : Z120 3 7 = Z 3 7 := (hf120 3 7 rfl)
            have b145 : 0 ≤ Z 3 7 ∧ Z 3 7 ≤ 900 := hG.pr 3 7
            have b146 : 0 ≤ Z120 3 3 ∧ Z120 3 3 ≤ 900 := hG120.pr 3 3
            have b147 : 0 ≤ Z120 3 4 ∧ Z120 3 4 ≤ 400 := hG120.pr 3 4
            exact c148 Z120 h120 (by omega) (by omega) (by omega) hx120 hG120 (fr_tr (M := [(3, 2), (3, 3), (3, 4), (3, 5), (3, 7), (3, 14), (3, 15), (5, (-1))]) fr_rf (hf120) (M1 := []) rfl rfl)
          · skip
            refine mx_J.step (sn_44 74) (fun _ _ => rfl) ?_
            refine mx_J.step (sn_44 75) (fun _ _ => rfl) ?_
            refine JcI (z := 1) (show mx_Sn _ _ 76 (mx_const (.int 1) 77) from sn_44 76) rfl ?_
            refine Jiadd (show mx_Sn _ _ 77 (mx_iadd 78) from sn_44 77) ?_
            have eq149 : Z120 3 0 = Z 3 0 := (hf120 3 0 rfl)
            have b150 : 2 ≤ Z 3 0 ∧ Z 3 0 ≤ 4 := hG.pr 3 0
            have eq151 : Z120 3 1 = Z 3 1 := (hf120 3 1 rfl)
            have b152 : 0 ≤ Z 3 1 ∧ Z 3 1 ≤ 900 := hG.pr 3 1
            have b153 : 0 ≤ Z120 3 2 ∧ Z120 3 2 ≤ 900 := hG120.pr 3 2
            have b154 : 0 ≤ Z120 3 3 ∧ Z120 3 3 ≤ 900 := hG120.pr 3 3
            have b155 : 0 ≤ Z120 3 4 ∧ Z120 3 4 ≤ 400 := hG120.pr 3 4
            have eq156 : Z120 3 7 = Z 3 7 := (hf120 3 7 rfl)
            have b157 : 0 ≤ Z 3 7 ∧ Z 3 7 ≤ 900 := hG.pr 3 7
            have b158 : 0 ≤ Z120 3 14 ∧ Z120 3 14 ≤ 4 := hG120.pr 3 14
            obtain ⟨Z148, h148, hc148, hx148, hG148, hf148, b148⟩ := ri_46 IH (by omega) (hd := by omega) (d := d + 7) (l := l) (D := D) (b0 := b0) (ad := ad) (Hb := Hb) (tau := tau) hx120 hG120 (show 1 ≤ x0 + 1 ∧ x0 + 1 ≤ 6 by omega) (show Z120 3 0 = 2 by first | omega | (simp only [eq149, eq151, eq156]; omega)) (show (Z120 3 3 ≤ Z120 3 2 ∧ Z120 3 2 ≤ Z120 3 1 ∧ (Z120 3 4 = 0 ∨ Z120 3 4 = 3 ∨ Z120 3 3 < Z120 3 2) ∧ (Z120 3 4 = 3 ∨ Z120 3 14 = 0)) by first | omega | (simp only [eq149, eq151, eq156]; omega))
            try rw [eq149] at b148
            try rw [eq151] at b148
            try rw [eq156] at b148
            have b159 : 0 ≤ Z148 3 2 ∧ Z148 3 2 ≤ 900 := hG148.pr 3 2
            have b160 : 0 ≤ Z148 3 3 ∧ Z148 3 3 ≤ 900 := hG148.pr 3 3
            have b161 : 0 ≤ Z148 3 4 ∧ Z148 3 4 ≤ 400 := hG148.pr 3 4
            have b162 : 0 ≤ Z148 3 7 ∧ Z148 3 7 ≤ 900 := hG148.pr 3 7
            have b163 : 0 ≤ Z148 3 14 ∧ Z148 3 14 ≤ 4 := hG148.pr 3 14
            refine Jcv0 hx120 (show mx_Sn _ _ 78 (mx_callv 46 2 7 81) from sn_44 78) a3 s3 hc148 rfl rfl rfl ?_
            refine mx_J.step (sn_44 81) (fun _ _ => rfl) ?_
            have eq164 : Z148 3 0 = Z 3 0 := ((hf148 3 0 rfl).trans (hf120 3 0 rfl))
            have b165 : 2 ≤ Z 3 0 ∧ Z 3 0 ≤ 4 := hG.pr 3 0
            have b166 : 0 ≤ Z148 3 2 ∧ Z148 3 2 ≤ 900 := hG148.pr 3 2
            have b167 : 0 ≤ Z148 3 3 ∧ Z148 3 3 ≤ 900 := hG148.pr 3 3
            have b168 : 0 ≤ Z148 3 4 ∧ Z148 3 4 ≤ 400 := hG148.pr 3 4
            have b169 : 0 ≤ Z148 3 7 ∧ Z148 3 7 ≤ 900 := hG148.pr 3 7
            have b170 : 0 ≤ Z148 3 14 ∧ Z148 3 14 ≤ 4 := hG148.pr 3 14
            have b171 : 0 ≤ Z148 3 3 ∧ Z148 3 3 ≤ 900 := hG148.pr 3 3
            have b172 : 0 ≤ Z148 3 7 ∧ Z148 3 7 ≤ 900 := hG148.pr 3 7
            have b173 : 0 ≤ Z148 3 3 ∧ Z148 3 3 ≤ 900 := hG148.pr 3 3
            have b174 : 0 ≤ Z148 3 4 ∧ Z148 3 4 ≤ 400 := hG148.pr 3 4
            exact c148 Z148 h148 (by omega) (by omega) (by omega) hx148 hG148 (fr_tr (M := [(3, 2), (3, 3), (3, 4), (3, 5), (3, 7), (3, 14), (3, 15), (5, (-1))]) (fr_tr (M := [(3, 2), (3, 3), (3, 4), (3, 5), (3, 7), (3, 14), (3, 15), (5, (-1))]) fr_rf (hf120) (M1 := []) rfl rfl) (hf148) rfl rfl)
      · skip
        refine mx_J.step (sn_44 32) (fun _ _ => rfl) ?_
        refine mx_J.step (sn_44 33) (fun _ _ => rfl) ?_
        have b176 : 2 ≤ Z 3 0 ∧ Z 3 0 ≤ 4 := hG.pr 3 0
        have b177 : 0 ≤ Z 3 1 ∧ Z 3 1 ≤ 900 := hG.pr 3 1
        have b178 : 0 ≤ Z 3 2 ∧ Z 3 2 ≤ 900 := hG.pr 3 2
        have b179 : 0 ≤ Z 3 3 ∧ Z 3 3 ≤ 900 := hG.pr 3 3
        have b180 : 0 ≤ Z 3 4 ∧ Z 3 4 ≤ 400 := hG.pr 3 4
        have b181 : 0 ≤ Z 3 7 ∧ Z 3 7 ≤ 900 := hG.pr 3 7
        have b182 : 0 ≤ Z 3 14 ∧ Z 3 14 ≤ 4 := hG.pr 3 14
        obtain ⟨z175, Z175, h175, hc175, hx175, hG175, hf175, b175⟩ := ct_51_3 (d := d + 0) (l := l) (D := D) (b0 := b0) (ad := ad) (Hb := Hb) (tau := tau) hx hG (show 0 ≤ x0 ∧ x0 ≤ 6 by omega) (show Z 3 0 = 2 by omega) (show (Z 3 3 ≤ Z 3 2 ∧ Z 3 2 ≤ Z 3 1 ∧ (Z 3 4 = 0 ∨ Z 3 4 = 3 ∨ Z 3 3 < Z 3 2) ∧ (Z 3 4 = 3 ∨ Z 3 14 = 0)) by omega) (show ¬ Z 3 4 = 0 by omega) (show ¬ Z 3 4 = 3 by omega)
        have b183 : 0 ≤ Z175 3 2 ∧ Z175 3 2 ≤ 900 := hG175.pr 3 2
        have b184 : 0 ≤ Z175 3 3 ∧ Z175 3 3 ≤ 900 := hG175.pr 3 3
        have b185 : 0 ≤ Z175 3 4 ∧ Z175 3 4 ≤ 400 := hG175.pr 3 4
        have eq186 : Z175 3 7 = Z 3 7 := (hf175 3 7 rfl)
        have b187 : 0 ≤ Z 3 7 ∧ Z 3 7 ≤ 900 := hG.pr 3 7
        have b188 : 0 ≤ Z175 3 14 ∧ Z175 3 14 ≤ 4 := hG175.pr 3 14
        refine Jcv hx (show mx_Sn _ _ 34 (mx_callv 51 2 7 37) from sn_44 34) a3 s3 hc175 rfl rfl rfl ?_
        refine Jif_eq (show mx_Sn _ _ 37 (mx_if_eq 148 40) from sn_44 37) (by omega) (fun q189 => ?_) (fun q189 => ?_)
        · skip
          have eq190 : Z175 3 0 = Z 3 0 := (hf175 3 0 rfl)
          have b191 : 2 ≤ Z 3 0 ∧ Z 3 0 ≤ 4 := hG.pr 3 0
          have b192 : 0 ≤ Z175 3 2 ∧ Z175 3 2 ≤ 900 := hG175.pr 3 2
          have b193 : 0 ≤ Z175 3 3 ∧ Z175 3 3 ≤ 900 := hG175.pr 3 3
          have b194 : 0 ≤ Z175 3 4 ∧ Z175 3 4 ≤ 400 := hG175.pr 3 4
          have eq195 : Z175 3 7 = Z 3 7 := (hf175 3 7 rfl)
          have b196 : 0 ≤ Z 3 7 ∧ Z 3 7 ≤ 900 := hG.pr 3 7
          have b197 : 0 ≤ Z175 3 14 ∧ Z175 3 14 ≤ 4 := hG175.pr 3 14
          have b198 : 0 ≤ Z175 3 3 ∧ Z175 3 3 ≤ 900 := hG175.pr 3 3
          have eq199 : Z175 3 7 = Z 3 7 := (hf175 3 7 rfl)
          have b200 : 0 ≤ Z 3 7 ∧ Z 3 7 ≤ 900 := hG.pr 3 7
          have b201 : 0 ≤ Z175 3 3 ∧ Z175 3 3 ≤ 900 := hG175.pr 3 3
          have b202 : 0 ≤ Z175 3 4 ∧ Z175 3 4 ≤ 400 := hG175.pr 3 4
          exact c148 Z175 h175 (by omega) (by omega) (by omega) hx175 hG175 (fr_tr (M := [(3, 2), (3, 3), (3, 4), (3, 5), (3, 7), (3, 14), (3, 15), (5, (-1))]) fr_rf (hf175) (M1 := []) rfl rfl)
        · skip
          refine mx_J.step (sn_44 40) (fun _ _ => rfl) ?_
          refine mx_J.step (sn_44 41) (fun _ _ => rfl) ?_
          refine JcI (z := 1) (show mx_Sn _ _ 42 (mx_const (.int 1) 43) from sn_44 42) rfl ?_
          refine Jiadd (show mx_Sn _ _ 43 (mx_iadd 44) from sn_44 43) ?_
          have eq204 : Z175 3 0 = Z 3 0 := (hf175 3 0 rfl)
          have b205 : 2 ≤ Z 3 0 ∧ Z 3 0 ≤ 4 := hG.pr 3 0
          have eq206 : Z175 3 1 = Z 3 1 := (hf175 3 1 rfl)
          have b207 : 0 ≤ Z 3 1 ∧ Z 3 1 ≤ 900 := hG.pr 3 1
          have b208 : 0 ≤ Z175 3 2 ∧ Z175 3 2 ≤ 900 := hG175.pr 3 2
          have b209 : 0 ≤ Z175 3 3 ∧ Z175 3 3 ≤ 900 := hG175.pr 3 3
          have b210 : 0 ≤ Z175 3 4 ∧ Z175 3 4 ≤ 400 := hG175.pr 3 4
          have eq211 : Z175 3 7 = Z 3 7 := (hf175 3 7 rfl)
          have b212 : 0 ≤ Z 3 7 ∧ Z 3 7 ≤ 900 := hG.pr 3 7
          have b213 : 0 ≤ Z175 3 14 ∧ Z175 3 14 ≤ 4 := hG175.pr 3 14
          obtain ⟨Z203, h203, hc203, hx203, hG203, hf203, b203⟩ := ri_42 IH (by omega) (hd := by omega) (d := d + 7) (l := l) (D := D) (b0 := b0) (ad := ad) (Hb := Hb) (tau := tau) hx175 hG175 (show 1 ≤ x0 + 1 ∧ x0 + 1 ≤ 6 by omega) (show Z175 3 0 = 2 by first | omega | (simp only [eq204, eq206, eq211]; omega)) (show (Z175 3 3 ≤ Z175 3 2 ∧ Z175 3 2 ≤ Z175 3 1 ∧ (Z175 3 4 = 0 ∨ Z175 3 4 = 3 ∨ Z175 3 3 < Z175 3 2) ∧ (Z175 3 4 = 3 ∨ Z175 3 14 = 0)) by first | omega | (simp only [eq204, eq206, eq211]; omega))
          try rw [eq204] at b203
          try rw [eq206] at b203
          try rw [eq211] at b203
          have b214 : 0 ≤ Z203 3 2 ∧ Z203 3 2 ≤ 900 := hG203.pr 3 2
          have b215 : 0 ≤ Z203 3 3 ∧ Z203 3 3 ≤ 900 := hG203.pr 3 3
          have b216 : 0 ≤ Z203 3 4 ∧ Z203 3 4 ≤ 400 := hG203.pr 3 4
          have b217 : 0 ≤ Z203 3 7 ∧ Z203 3 7 ≤ 900 := hG203.pr 3 7
          have b218 : 0 ≤ Z203 3 14 ∧ Z203 3 14 ≤ 4 := hG203.pr 3 14
          refine Jcv0 hx175 (show mx_Sn _ _ 44 (mx_callv 42 2 7 47) from sn_44 44) a3 s3 hc203 rfl rfl rfl ?_
          refine mx_J.step (sn_44 47) (fun _ _ => rfl) ?_
          refine JcI (z := 41) (show mx_Sn _ _ 48 (mx_const (.int 41) 50) from sn_44 48) rfl ?_
          have eq220 : Z203 3 0 = Z 3 0 := ((hf203 3 0 rfl).trans (hf175 3 0 rfl))
          have b221 : 2 ≤ Z 3 0 ∧ Z 3 0 ≤ 4 := hG.pr 3 0
          have eq222 : Z203 3 1 = Z 3 1 := ((hf203 3 1 rfl).trans (hf175 3 1 rfl))
          have b223 : 0 ≤ Z 3 1 ∧ Z 3 1 ≤ 900 := hG.pr 3 1
          have b224 : 0 ≤ Z203 3 2 ∧ Z203 3 2 ≤ 900 := hG203.pr 3 2
          have b225 : 0 ≤ Z203 3 3 ∧ Z203 3 3 ≤ 900 := hG203.pr 3 3
          have b226 : 0 ≤ Z203 3 4 ∧ Z203 3 4 ≤ 400 := hG203.pr 3 4
          have b227 : 0 ≤ Z203 3 7 ∧ Z203 3 7 ≤ 900 := hG203.pr 3 7
          have b228 : 0 ≤ Z203 3 14 ∧ Z203 3 14 ≤ 4 := hG203.pr 3 14
          obtain ⟨Z219, h219, hc219, hx219, hG219, hf219, b219⟩ := ct_53_3 (d := d + 0) (l := l) (D := D) (b0 := b0) (ad := ad) (Hb := Hb) (tau := tau) hx203 hG203 (show 40 ≤ 41 ∧ 41 ≤ 320 by omega) (show Z203 3 0 = 2 by first | omega | (simp only [eq220, eq222]; omega)) (show (Z203 3 3 ≤ Z203 3 2 ∧ Z203 3 2 ≤ Z203 3 1 ∧ (Z203 3 4 = 0 ∨ Z203 3 4 = 3 ∨ Z203 3 3 < Z203 3 2) ∧ (Z203 3 4 = 3 ∨ Z203 3 14 = 0)) by first | omega | (simp only [eq220, eq222]; omega))
          try rw [eq220] at b219
          try rw [eq222] at b219
          have b229 : 0 ≤ Z219 3 2 ∧ Z219 3 2 ≤ 900 := hG219.pr 3 2
          have b230 : 0 ≤ Z219 3 3 ∧ Z219 3 3 ≤ 900 := hG219.pr 3 3
          have b231 : 0 ≤ Z219 3 4 ∧ Z219 3 4 ≤ 400 := hG219.pr 3 4
          have eq232 : Z219 3 7 = Z203 3 7 := (hf219 3 7 rfl)
          have b233 : 0 ≤ Z203 3 7 ∧ Z203 3 7 ≤ 900 := hG203.pr 3 7
          have b234 : 0 ≤ Z219 3 14 ∧ Z219 3 14 ≤ 4 := hG219.pr 3 14
          refine Jcv0 hx203 (show mx_Sn _ _ 50 (mx_callv 53 2 7 53) from sn_44 50) a3 s3 hc219 rfl rfl rfl ?_
          refine mx_J.step (sn_44 53) (fun _ _ => rfl) ?_
          have eq235 : Z219 3 0 = Z 3 0 := ((hf219 3 0 rfl).trans ((hf203 3 0 rfl).trans (hf175 3 0 rfl)))
          have b236 : 2 ≤ Z 3 0 ∧ Z 3 0 ≤ 4 := hG.pr 3 0
          have b237 : 0 ≤ Z219 3 2 ∧ Z219 3 2 ≤ 900 := hG219.pr 3 2
          have b238 : 0 ≤ Z219 3 3 ∧ Z219 3 3 ≤ 900 := hG219.pr 3 3
          have b239 : 0 ≤ Z219 3 4 ∧ Z219 3 4 ≤ 400 := hG219.pr 3 4
          have eq240 : Z219 3 7 = Z203 3 7 := (hf219 3 7 rfl)
          have b241 : 0 ≤ Z203 3 7 ∧ Z203 3 7 ≤ 900 := hG203.pr 3 7
          have b242 : 0 ≤ Z219 3 14 ∧ Z219 3 14 ≤ 4 := hG219.pr 3 14
          have b243 : 0 ≤ Z219 3 3 ∧ Z219 3 3 ≤ 900 := hG219.pr 3 3
          have eq244 : Z219 3 7 = Z203 3 7 := (hf219 3 7 rfl)
          have b245 : 0 ≤ Z203 3 7 ∧ Z203 3 7 ≤ 900 := hG203.pr 3 7
          have b246 : 0 ≤ Z219 3 3 ∧ Z219 3 3 ≤ 900 := hG219.pr 3 3
          have b247 : 0 ≤ Z219 3 4 ∧ Z219 3 4 ≤ 400 := hG219.pr 3 4
          exact c148 Z219 h219 (by omega) (by omega) (by omega) hx219 hG219 (fr_tr (M := [(3, 2), (3, 3), (3, 4), (3, 5), (3, 7), (3, 14), (3, 15), (5, (-1))]) (fr_tr (M := [(3, 2), (3, 3), (3, 4), (3, 5), (3, 7), (3, 14), (3, 15), (5, (-1))]) (fr_tr (M := [(3, 2), (3, 3), (3, 4), (3, 5), (3, 7), (3, 14), (3, 15), (5, (-1))]) fr_rf (hf175) (M1 := []) rfl rfl) (hf203) rfl rfl) (hf219) rfl rfl)
    · skip
      refine mx_J.step (sn_44 8) (fun _ _ => rfl) ?_
      refine mx_J.step (sn_44 9) (fun _ _ => rfl) ?_
      refine JcI (z := 0) (show mx_Sn _ _ 10 (mx_const (.int 0) 11) from sn_44 10) rfl ?_
      refine JcI (z := 999) (show mx_Sn _ _ 11 (mx_const (.int 999) 14) from sn_44 11) rfl ?_
      have b249 : 2 ≤ Z 3 0 ∧ Z 3 0 ≤ 4 := hG.pr 3 0
      have b250 : 0 ≤ Z 3 1 ∧ Z 3 1 ≤ 900 := hG.pr 3 1
      have b251 : 0 ≤ Z 3 2 ∧ Z 3 2 ≤ 900 := hG.pr 3 2
      have b252 : 0 ≤ Z 3 3 ∧ Z 3 3 ≤ 900 := hG.pr 3 3
      have b253 : 0 ≤ Z 3 4 ∧ Z 3 4 ≤ 400 := hG.pr 3 4
      have b254 : 0 ≤ Z 3 7 ∧ Z 3 7 ≤ 900 := hG.pr 3 7
      have b255 : 0 ≤ Z 3 14 ∧ Z 3 14 ≤ 4 := hG.pr 3 14
      obtain ⟨z248, Z248, h248, hc248, hx248, hG248, hf248, b248⟩ := ct_54_3 (d := d + 0) (l := l) (D := D) (b0 := b0) (ad := ad) (Hb := Hb) (tau := tau) hx hG (show 0 ≤ 0 ∧ 0 ≤ 1 by omega) (show 0 ≤ 999 ∧ 999 ≤ 999 by omega) (show Z 3 0 = 2 by omega) (show (Z 3 3 ≤ Z 3 2 ∧ Z 3 2 ≤ Z 3 1 ∧ (Z 3 4 = 0 ∨ Z 3 4 = 3 ∨ Z 3 3 < Z 3 2) ∧ (Z 3 4 = 3 ∨ Z 3 14 = 0)) by omega)
      have b256 : 0 ≤ Z248 3 2 ∧ Z248 3 2 ≤ 900 := hG248.pr 3 2
      have b257 : 0 ≤ Z248 3 3 ∧ Z248 3 3 ≤ 900 := hG248.pr 3 3
      have b258 : 0 ≤ Z248 3 4 ∧ Z248 3 4 ≤ 400 := hG248.pr 3 4
      have eq259 : Z248 3 7 = Z 3 7 := (hf248 3 7 rfl)
      have b260 : 0 ≤ Z 3 7 ∧ Z 3 7 ≤ 900 := hG.pr 3 7
      have b261 : 0 ≤ Z248 3 14 ∧ Z248 3 14 ≤ 4 := hG248.pr 3 14
      refine Jcv hx (show mx_Sn _ _ 14 (mx_callv 54 3 7 17) from sn_44 14) a3 s3 hc248 rfl rfl rfl ?_
      have eq263 : Z248 3 7 = Z 3 7 := (hf248 3 7 rfl)
      have b264 : 0 ≤ Z 3 7 ∧ Z 3 7 ≤ 900 := hG.pr 3 7
      obtain ⟨Z262, h262, hc262, hx262, hG262, hf262, b262⟩ := ct_52_3_0 (d := d + 6) (l := l) (D := D) (b0 := b0) (ad := ad) (Hb := Hb) (tau := tau) hx248 hG248 (show 0 ≤ z248 ∧ z248 ≤ 1004 by omega)
      try rw [eq263] at b262
      have b265 : 0 ≤ Z262 3 7 ∧ Z262 3 7 ≤ 900 := hG262.pr 3 7
      refine Jcv0 hx248 (show mx_Sn _ _ 17 (mx_callv 52 2 7 20) from sn_44 17) a3 s3 hc262 rfl rfl rfl ?_
      refine mx_J.step (sn_44 20) (fun _ _ => rfl) ?_
      have eq266 : Z262 3 0 = Z 3 0 := ((hf262 3 0 rfl).trans (hf248 3 0 rfl))
      have b267 : 2 ≤ Z 3 0 ∧ Z 3 0 ≤ 4 := hG.pr 3 0
      have eq268 : Z262 3 2 = Z248 3 2 := (hf262 3 2 rfl)
      have b269 : 0 ≤ Z248 3 2 ∧ Z248 3 2 ≤ 900 := hG248.pr 3 2
      have eq270 : Z262 3 3 = Z248 3 3 := (hf262 3 3 rfl)
      have b271 : 0 ≤ Z248 3 3 ∧ Z248 3 3 ≤ 900 := hG248.pr 3 3
      have eq272 : Z262 3 4 = Z248 3 4 := (hf262 3 4 rfl)
      have b273 : 0 ≤ Z248 3 4 ∧ Z248 3 4 ≤ 400 := hG248.pr 3 4
      have b274 : 0 ≤ Z262 3 7 ∧ Z262 3 7 ≤ 900 := hG262.pr 3 7
      have eq275 : Z262 3 14 = Z248 3 14 := (hf262 3 14 rfl)
      have b276 : 0 ≤ Z248 3 14 ∧ Z248 3 14 ≤ 4 := hG248.pr 3 14
      have eq277 : Z262 3 3 = Z248 3 3 := (hf262 3 3 rfl)
      have b278 : 0 ≤ Z248 3 3 ∧ Z248 3 3 ≤ 900 := hG248.pr 3 3
      have b279 : 0 ≤ Z262 3 7 ∧ Z262 3 7 ≤ 900 := hG262.pr 3 7
      have eq280 : Z262 3 3 = Z248 3 3 := (hf262 3 3 rfl)
      have b281 : 0 ≤ Z248 3 3 ∧ Z248 3 3 ≤ 900 := hG248.pr 3 3
      have eq282 : Z262 3 4 = Z248 3 4 := (hf262 3 4 rfl)
      have b283 : 0 ≤ Z248 3 4 ∧ Z248 3 4 ≤ 400 := hG248.pr 3 4
      exact c148 Z262 h262 (by omega) (by omega) (by omega) hx262 hG262 (fr_tr (M := [(3, 2), (3, 3), (3, 4), (3, 5), (3, 7), (3, 14), (3, 15), (5, (-1))]) (fr_tr (M := [(3, 2), (3, 3), (3, 4), (3, 5), (3, 7), (3, 14), (3, 15), (5, (-1))]) fr_rf (hf248) (M1 := []) rfl rfl) (hf262) rfl rfl)
theorem ct_44_3_s {l : Launch} {D : va_G} {b0 : Nat} {ad : Nat → Nat} {Hb : Heap} {tau : Nat → Int64} {d n s : Nat} {S : Nat → xS} {Z : xZ} {h : mx_H} (hx : XH n s S Z h) (hG : GI n S Z)  {x0 : Int} (p0 : 0 ≤ x0 ∧ x0 ≤ 6) (k0 : Z 3 0 = 2) (k1 : (Z 3 3 ≤ Z 3 2 ∧ Z 3 2 ≤ Z 3 1 ∧ (Z 3 4 = 0 ∨ Z 3 4 = 3 ∨ Z 3 3 < Z 3 2) ∧ (Z 3 4 = 3 ∨ Z 3 14 = 0))) {kk : Nat} (IH : RBch l D b0 ad Hb tau kk x0) (hd : kk ≤ d) : ∃ (Z' : xZ) (h' : mx_H), mx_Ca (tB l D b0 ad Hb tau) (d + 8) 44 [.ref 3, xI x0] h (none, h') ∧ XH n s S Z' h' ∧ GI n S Z' ∧ fr' [(3, 2), (3, 3), (3, 4), (3, 5), (3, 7), (3, 14), (3, 15), (5, (-1))] Z Z' ∧ (((Z' 3 3 ≤ Z' 3 2 ∧ Z' 3 2 ≤ Z 3 1 ∧ (Z' 3 4 = 0 ∨ Z' 3 4 = 3 ∨ Z' 3 3 < Z' 3 2) ∧ (Z' 3 4 = 3 ∨ Z' 3 14 = 0)) ∧ Z 3 3 ≤ Z' 3 3 ∧ Z' 3 7 - Z 3 7 ≤ Z' 3 3 - Z 3 3 ∧ (Z' 3 4 = 3 ∨ Z 3 3 + 1 ≤ Z' 3 3) ∧ (Z 3 4 = 3 → Z' 3 4 = 3))) := by
  obtain ⟨r, hca, Z', h', e, q⟩ := Jmt (B := tB l D b0 ad Hb tau) (M := mt_44) (mi := 44) (as := [.ref 3, xI x0]) (d := d + 7) (ls := [some (.ref 3), some (xI x0)]) rfl rfl rfl rfl rfl rfl (cw_44_3_s (l := l) (D := D) (b0 := b0) (ad := ad) (Hb := Hb) (tau := tau) (d := d) (Post := fun r => ∃ (Z' : xZ) (h' : mx_H), r = (none, h') ∧ XH n s S Z' h' ∧ GI n S Z' ∧ fr' [(3, 2), (3, 3), (3, 4), (3, 5), (3, 7), (3, 14), (3, 15), (5, (-1))] Z Z' ∧ (((Z' 3 3 ≤ Z' 3 2 ∧ Z' 3 2 ≤ Z 3 1 ∧ (Z' 3 4 = 0 ∨ Z' 3 4 = 3 ∨ Z' 3 3 < Z' 3 2) ∧ (Z' 3 4 = 3 ∨ Z' 3 14 = 0)) ∧ Z 3 3 ≤ Z' 3 3 ∧ Z' 3 7 - Z 3 7 ≤ Z' 3 3 - Z 3 3 ∧ (Z' 3 4 = 3 ∨ Z 3 3 + 1 ≤ Z' 3 3) ∧ (Z 3 4 = 3 → Z' 3 4 = 3)))) hx hG p0 k0 k1 IH hd (fun Z' h' q1 q2 q3 q4 => ⟨Z', h', rfl, q1, q2, q3, q4⟩))
  subst e; exact ⟨Z', h', hca, q⟩
set_option maxRecDepth 100000 in
theorem cw_43_3_s {l : Launch} {D : va_G} {b0 : Nat} {ad : Nat → Nat} {Hb : Heap} {tau : Nat → Int64} {d n s : Nat} {S : Nat → xS} {Z : xZ} {h : mx_H} {Post : mx_R → Prop} (hx : XH n s S Z h) (hG : GI n S Z)  {x0 : Int} (p0 : 0 ≤ x0 ∧ x0 ≤ 6) (k0 : Z 3 0 = 2) (k1 : (Z 3 3 ≤ Z 3 2 ∧ Z 3 2 ≤ Z 3 1 ∧ (Z 3 4 = 0 ∨ Z 3 4 = 3 ∨ Z 3 3 < Z 3 2) ∧ (Z 3 4 = 3 ∨ Z 3 14 = 0))) {kk : Nat} (IH : RBch l D b0 ad Hb tau kk x0) (hd : kk ≤ d) (hP : ∀ (Z' : xZ) (h' : mx_H), XH n s S Z' h' → GI n S Z' → fr' [(3, 2), (3, 3), (3, 4), (3, 5), (3, 7), (3, 14), (3, 15), (5, (-1))] Z Z' → ((Z' 3 3 ≤ Z' 3 2 ∧ Z' 3 2 ≤ Z 3 1 ∧ (Z' 3 4 = 0 ∨ Z' 3 4 = 3 ∨ Z' 3 3 < Z' 3 2) ∧ (Z' 3 4 = 3 ∨ Z' 3 14 = 0)) ∧ Z 3 3 ≤ Z' 3 3 ∧ Z' 3 7 - Z 3 7 ≤ Z' 3 3 - Z 3 3 ∧ (Z' 3 4 = 3 ∨ Z 3 3 + 1 ≤ Z' 3 3) ∧ (Z 3 4 = 3 → Z' 3 4 = 3)) → Post (none, h')) : mx_J (tB l D b0 ad Hb tau) mt_43 (d + 8) 0 [some (.ref 3), some (xI x0), none] [] h Post := by
    have a3 : 3 < n := lt83 (GI_n hG) rfl
    have s3 : S 3 = .inl (7, [2, 0, 0, 0, 0, 0, 2, 0, 2, 2, 0, 2, 0, 0, 0, 0]) := GI_s hG 3 rfl
    refine mx_J.step (sn_43 0) (fun _ _ => rfl) ?_
    refine mx_J.step (sn_43 1) (fun _ _ => rfl) ?_
    have b2 : 2 ≤ Z 3 0 ∧ Z 3 0 ≤ 4 := hG.pr 3 0
    have b3 : 0 ≤ Z 3 1 ∧ Z 3 1 ≤ 900 := hG.pr 3 1
    have b4 : 0 ≤ Z 3 2 ∧ Z 3 2 ≤ 900 := hG.pr 3 2
    have b5 : 0 ≤ Z 3 3 ∧ Z 3 3 ≤ 900 := hG.pr 3 3
    have b6 : 0 ≤ Z 3 4 ∧ Z 3 4 ≤ 400 := hG.pr 3 4
    have b7 : 0 ≤ Z 3 7 ∧ Z 3 7 ≤ 900 := hG.pr 3 7
    have b8 : 0 ≤ Z 3 14 ∧ Z 3 14 ≤ 4 := hG.pr 3 14
    obtain ⟨Z1, h1, hc1, hx1, hG1, hf1, b1⟩ := ct_44_3_s (d := d + 0) (l := l) (D := D) (b0 := b0) (ad := ad) (Hb := Hb) (tau := tau) hx hG (show 0 ≤ x0 ∧ x0 ≤ 6 by omega) (show Z 3 0 = 2 by omega) (show (Z 3 3 ≤ Z 3 2 ∧ Z 3 2 ≤ Z 3 1 ∧ (Z 3 4 = 0 ∨ Z 3 4 = 3 ∨ Z 3 3 < Z 3 2) ∧ (Z 3 4 = 3 ∨ Z 3 14 = 0)) by omega) IH (by omega)
    have b9 : 0 ≤ Z1 3 2 ∧ Z1 3 2 ≤ 900 := hG1.pr 3 2
    have b10 : 0 ≤ Z1 3 3 ∧ Z1 3 3 ≤ 900 := hG1.pr 3 3
    have b11 : 0 ≤ Z1 3 4 ∧ Z1 3 4 ≤ 400 := hG1.pr 3 4
    have b12 : 0 ≤ Z1 3 7 ∧ Z1 3 7 ≤ 900 := hG1.pr 3 7
    have b13 : 0 ≤ Z1 3 14 ∧ Z1 3 14 ≤ 4 := hG1.pr 3 14
    refine Jcv0 hx (show mx_Sn _ _ 2 (mx_callv 44 2 7 5) from sn_43 2) a3 s3 hc1 rfl rfl rfl ?_
    refine JcI (z := 0) (show mx_Sn _ _ 5 (mx_const (.int 0) 6) from sn_43 5) rfl ?_
    refine mx_J.step (ls2 := [some (.ref 3), some (xI x0), some (xI 0)]) (sn_43 6) (fun _ _ => rfl) ?_
    have c7 : ∀ (m14 : Nat) (w14_2 : Int) (Z15 : xZ) (h15 : mx_H), 900 - w14_2 < (m14 : Int) → 0 ≤ w14_2 ∧ w14_2 ≤ 900 → (Z15 3 3 ≤ Z15 3 2 ∧ Z15 3 2 ≤ Z 3 1 ∧ (Z15 3 4 = 0 ∨ Z15 3 4 = 3 ∨ Z15 3 3 < Z15 3 2) ∧ (Z15 3 4 = 3 ∨ Z15 3 14 = 0)) → (Z 3 3 ≤ Z15 3 3 ∧ Z15 3 7 - Z 3 7 ≤ Z15 3 3 - Z 3 3 + 0) → ((Z15 3 4 = 3 ∨ Z 3 3 + 1 ≤ Z15 3 3) ∧ (Z 3 4 = 3 → Z15 3 4 = 3)) → XH n s S Z15 h15 → GI n S Z15 → fr' [(3, 2), (3, 3), (3, 4), (3, 5), (3, 7), (3, 14), (3, 15), (5, (-1))] Z1 Z15 → mx_J (tB l D b0 ad Hb tau) mt_43 (d + 8) 7 [some (.ref 3), some (xI x0), some (xI w14_2)] [] h15 Post := by
      intro m14
      induction m14 with
      | zero => intro w14_2 Z15 h15 q14 f14_0 f14_1 f14_2 f14_3 hx15 hG15 hf15; exact absurd q14 (by omega)
      | succ m14 ih14 =>
        intro w14_2 Z15 h15 q14 f14_0 f14_1 f14_2 f14_3 hx15 hG15 hf15
        have eq16 : Z15 3 0 = Z 3 0 := ((hf15 3 0 rfl).trans (hf1 3 0 rfl))
        have b17 : 2 ≤ Z 3 0 ∧ Z 3 0 ≤ 4 := hG.pr 3 0
        have b18 : 0 ≤ Z15 3 2 ∧ Z15 3 2 ≤ 900 := hG15.pr 3 2
        have b19 : 0 ≤ Z15 3 3 ∧ Z15 3 3 ≤ 900 := hG15.pr 3 3
        have b20 : 0 ≤ Z15 3 4 ∧ Z15 3 4 ≤ 400 := hG15.pr 3 4
        have b21 : 0 ≤ Z15 3 7 ∧ Z15 3 7 ≤ 900 := hG15.pr 3 7
        have b22 : 0 ≤ Z15 3 14 ∧ Z15 3 14 ≤ 4 := hG15.pr 3 14
        have b23 : 0 ≤ Z15 3 3 ∧ Z15 3 3 ≤ 900 := hG15.pr 3 3
        have b24 : 0 ≤ Z15 3 7 ∧ Z15 3 7 ≤ 900 := hG15.pr 3 7
        have b25 : 0 ≤ Z15 3 3 ∧ Z15 3 3 ≤ 900 := hG15.pr 3 3
        have b26 : 0 ≤ Z15 3 4 ∧ Z15 3 4 ≤ 400 := hG15.pr 3 4
        refine mx_J.step (sn_43 7) (fun _ _ => rfl) ?_
        refine mx_J.step (sn_43 8) (fun _ _ => rfl) ?_
        have b28 : 0 ≤ Z 3 1 ∧ Z 3 1 ≤ 900 := hG.pr 3 1
        refine JgetI (g := 1) (z := Z 3 1) hx15 (show mx_Sn _ _ 9 (mx_getf 7 1 12) from sn_43 9) a3 s3 rfl rfl ((hf15 3 1 rfl).trans (hf1 3 1 rfl)) ?_
        have c46 : mx_J (tB l D b0 ad Hb tau) mt_43 (d + 8) 46 [some (.ref 3), some (xI x0), some (xI w14_2)] [] h15 Post := by
          have b30 : 0 ≤ Z15 3 2 ∧ Z15 3 2 ≤ 900 := hG15.pr 3 2
          have b31 : 0 ≤ Z15 3 3 ∧ Z15 3 3 ≤ 900 := hG15.pr 3 3
          have b32 : 0 ≤ Z15 3 4 ∧ Z15 3 4 ≤ 400 := hG15.pr 3 4
          have b33 : 0 ≤ Z15 3 7 ∧ Z15 3 7 ≤ 900 := hG15.pr 3 7
          have b34 : 0 ≤ Z15 3 14 ∧ Z15 3 14 ≤ 4 := hG15.pr 3 14
          have eq35 : Z15 3 0 = Z 3 0 := ((hf15 3 0 rfl).trans (hf1 3 0 rfl))
          have b36 : 2 ≤ Z 3 0 ∧ Z 3 0 ≤ 4 := hG.pr 3 0
          have eq37 : Z15 3 1 = Z 3 1 := ((hf15 3 1 rfl).trans (hf1 3 1 rfl))
          have b38 : 0 ≤ Z 3 1 ∧ Z 3 1 ≤ 900 := hG.pr 3 1
          have b39 : 0 ≤ Z15 3 2 ∧ Z15 3 2 ≤ 900 := hG15.pr 3 2
          have b40 : 0 ≤ Z15 3 3 ∧ Z15 3 3 ≤ 900 := hG15.pr 3 3
          have b41 : 0 ≤ Z15 3 4 ∧ Z15 3 4 ≤ 400 := hG15.pr 3 4
          have b42 : 0 ≤ Z15 3 7 ∧ Z15 3 7 ≤ 900 := hG15.pr 3 7
          have b43 : 0 ≤ Z15 3 14 ∧ Z15 3 14 ≤ 4 := hG15.pr 3 14
          exact mx_J.ret (sn_43 46) (fun _ _ => rfl) (hP Z15 h15 hx15 hG15 (fr_tr (M := [(3, 2), (3, 3), (3, 4), (3, 5), (3, 7), (3, 14), (3, 15), (5, (-1))]) (fr_tr (M := [(3, 2), (3, 3), (3, 4), (3, 5), (3, 7), (3, 14), (3, 15), (5, (-1))]) fr_rf (hf1) (M1 := []) rfl rfl) (hf15) rfl rfl) (by omega))
        refine Jicmp_ge (show mx_Sn _ _ 12 (mx_icmp_ge 46 15) from sn_43 12) (by omega) (by omega) (fun q44 => ?_) (fun q44 => ?_)
        · skip
          exact c46 
        · skip
          refine mx_J.step (sn_43 15) (fun _ _ => rfl) ?_
          have b46 : 0 ≤ Z15 3 4 ∧ Z15 3 4 ≤ 400 := hG15.pr 3 4
          refine JgetI (g := 4) (z := Z15 3 4) hx15 (show mx_Sn _ _ 16 (mx_getf 7 4 19) from sn_43 16) a3 s3 rfl rfl rfl ?_
          refine JcI (z := 42) (show mx_Sn _ _ 19 (mx_const (.int 42) 21) from sn_43 19) rfl ?_
          refine Jicmp_ne (show mx_Sn _ _ 21 (mx_icmp_ne 46 24) from sn_43 21) (by omega) (by omega) (fun q47 => ?_) (fun q47 => ?_)
          · skip
            exact c46 
          · skip
            refine mx_J.step (sn_43 24) (fun _ _ => rfl) ?_
            have eq49 : Z15 3 0 = Z 3 0 := ((hf15 3 0 rfl).trans (hf1 3 0 rfl))
            have b50 : 2 ≤ Z 3 0 ∧ Z 3 0 ≤ 4 := hG.pr 3 0
            have eq51 : Z15 3 1 = Z 3 1 := ((hf15 3 1 rfl).trans (hf1 3 1 rfl))
            have b52 : 0 ≤ Z 3 1 ∧ Z 3 1 ≤ 900 := hG.pr 3 1
            have b53 : 0 ≤ Z15 3 2 ∧ Z15 3 2 ≤ 900 := hG15.pr 3 2
            have b54 : 0 ≤ Z15 3 3 ∧ Z15 3 3 ≤ 900 := hG15.pr 3 3
            have b55 : 0 ≤ Z15 3 4 ∧ Z15 3 4 ≤ 400 := hG15.pr 3 4
            have b56 : 0 ≤ Z15 3 14 ∧ Z15 3 14 ≤ 4 := hG15.pr 3 14
            obtain ⟨Z48, h48, hc48, hx48, hG48, hf48, b48⟩ := ct_56_3 (d := d + 2) (l := l) (D := D) (b0 := b0) (ad := ad) (Hb := Hb) (tau := tau) hx15 hG15  (show Z15 3 0 = 2 by first | omega | (simp only [eq49, eq51]; omega)) (show Z15 3 2 ≤ Z15 3 1 by first | omega | (simp only [eq49, eq51]; omega))
            try rw [eq49] at b48
            try rw [eq51] at b48
            have b57 : 0 ≤ Z48 3 2 ∧ Z48 3 2 ≤ 900 := hG48.pr 3 2
            have b58 : 0 ≤ Z48 3 3 ∧ Z48 3 3 ≤ 900 := hG48.pr 3 3
            have b59 : 0 ≤ Z48 3 4 ∧ Z48 3 4 ≤ 400 := hG48.pr 3 4
            refine Jcv0 hx15 (show mx_Sn _ _ 25 (mx_callv 56 1 7 28) from sn_43 25) a3 s3 hc48 rfl rfl rfl ?_
            refine mx_J.step (sn_43 28) (fun _ _ => rfl) ?_
            refine mx_J.step (sn_43 29) (fun _ _ => rfl) ?_
            have eq61 : Z48 3 0 = Z 3 0 := ((hf48 3 0 rfl).trans ((hf15 3 0 rfl).trans (hf1 3 0 rfl)))
            have b62 : 2 ≤ Z 3 0 ∧ Z 3 0 ≤ 4 := hG.pr 3 0
            have eq63 : Z48 3 1 = Z 3 1 := ((hf48 3 1 rfl).trans ((hf15 3 1 rfl).trans (hf1 3 1 rfl)))
            have b64 : 0 ≤ Z 3 1 ∧ Z 3 1 ≤ 900 := hG.pr 3 1
            have b65 : 0 ≤ Z48 3 2 ∧ Z48 3 2 ≤ 900 := hG48.pr 3 2
            have b66 : 0 ≤ Z48 3 3 ∧ Z48 3 3 ≤ 900 := hG48.pr 3 3
            have b67 : 0 ≤ Z48 3 4 ∧ Z48 3 4 ≤ 400 := hG48.pr 3 4
            have eq68 : Z48 3 7 = Z15 3 7 := (hf48 3 7 rfl)
            have b69 : 0 ≤ Z15 3 7 ∧ Z15 3 7 ≤ 900 := hG15.pr 3 7
            have eq70 : Z48 3 14 = Z15 3 14 := (hf48 3 14 rfl)
            have b71 : 0 ≤ Z15 3 14 ∧ Z15 3 14 ≤ 4 := hG15.pr 3 14
            obtain ⟨Z60, h60, hc60, hx60, hG60, hf60, b60⟩ := ct_44_3_s (d := d + 0) (l := l) (D := D) (b0 := b0) (ad := ad) (Hb := Hb) (tau := tau) hx48 hG48 (show 0 ≤ x0 ∧ x0 ≤ 6 by omega) (show Z48 3 0 = 2 by first | omega | (simp only [eq61, eq63, eq68, eq70]; omega)) (show (Z48 3 3 ≤ Z48 3 2 ∧ Z48 3 2 ≤ Z48 3 1 ∧ (Z48 3 4 = 0 ∨ Z48 3 4 = 3 ∨ Z48 3 3 < Z48 3 2) ∧ (Z48 3 4 = 3 ∨ Z48 3 14 = 0)) by first | omega | (simp only [eq61, eq63, eq68, eq70]; omega)) IH (by omega)
            try rw [eq61] at b60
            try rw [eq63] at b60
            try rw [eq68] at b60
            try rw [eq70] at b60
            have b72 : 0 ≤ Z60 3 2 ∧ Z60 3 2 ≤ 900 := hG60.pr 3 2
            have b73 : 0 ≤ Z60 3 3 ∧ Z60 3 3 ≤ 900 := hG60.pr 3 3
            have b74 : 0 ≤ Z60 3 4 ∧ Z60 3 4 ≤ 400 := hG60.pr 3 4
            have b75 : 0 ≤ Z60 3 7 ∧ Z60 3 7 ≤ 900 := hG60.pr 3 7
            have b76 : 0 ≤ Z60 3 14 ∧ Z60 3 14 ≤ 4 := hG60.pr 3 14
            refine Jcv0 hx48 (show mx_Sn _ _ 30 (mx_callv 44 2 7 33) from sn_43 30) a3 s3 hc60 rfl rfl rfl ?_
            refine mx_J.step (sn_43 33) (fun _ _ => rfl) ?_
            refine JcI (z := 1012) (show mx_Sn _ _ 34 (mx_const (.int 1012) 37) from sn_43 34) rfl ?_
            have b78 : 0 ≤ Z60 3 7 ∧ Z60 3 7 ≤ 900 := hG60.pr 3 7
            obtain ⟨Z77, h77, hc77, hx77, hG77, hf77, b77⟩ := ct_52_3_1010 (d := d + 7) (l := l) (D := D) (b0 := b0) (ad := ad) (Hb := Hb) (tau := tau) hx60 hG60 (show 1010 ≤ 1012 ∧ 1012 ≤ 1019 by omega)
            have b79 : 0 ≤ Z77 3 7 ∧ Z77 3 7 ≤ 900 := hG77.pr 3 7
            refine Jcv0 hx60 (show mx_Sn _ _ 37 (mx_callv 52 2 7 40) from sn_43 37) a3 s3 hc77 rfl rfl rfl ?_
            refine Jiinc (z := w14_2) (cz := 1) (ls2 := [some (.ref 3), some (xI x0), some (xI (w14_2 + 1))]) (show mx_Sn _ _ 40 (mx_iinc 2 1 43) from sn_43 40) rfl rfl rfl rfl ?_
            refine mx_J.step (sn_43 43) (fun _ _ => rfl) ?_
            have eq80 : Z77 3 0 = Z 3 0 := ((hf77 3 0 rfl).trans ((hf60 3 0 rfl).trans ((hf48 3 0 rfl).trans ((hf15 3 0 rfl).trans (hf1 3 0 rfl)))))
            have b81 : 2 ≤ Z 3 0 ∧ Z 3 0 ≤ 4 := hG.pr 3 0
            have eq82 : Z77 3 2 = Z60 3 2 := (hf77 3 2 rfl)
            have b83 : 0 ≤ Z60 3 2 ∧ Z60 3 2 ≤ 900 := hG60.pr 3 2
            have eq84 : Z77 3 3 = Z60 3 3 := (hf77 3 3 rfl)
            have b85 : 0 ≤ Z60 3 3 ∧ Z60 3 3 ≤ 900 := hG60.pr 3 3
            have eq86 : Z77 3 4 = Z60 3 4 := (hf77 3 4 rfl)
            have b87 : 0 ≤ Z60 3 4 ∧ Z60 3 4 ≤ 400 := hG60.pr 3 4
            have b88 : 0 ≤ Z77 3 7 ∧ Z77 3 7 ≤ 900 := hG77.pr 3 7
            have eq89 : Z77 3 14 = Z60 3 14 := (hf77 3 14 rfl)
            have b90 : 0 ≤ Z60 3 14 ∧ Z60 3 14 ≤ 4 := hG60.pr 3 14
            have eq91 : Z77 3 3 = Z60 3 3 := (hf77 3 3 rfl)
            have b92 : 0 ≤ Z60 3 3 ∧ Z60 3 3 ≤ 900 := hG60.pr 3 3
            have b93 : 0 ≤ Z77 3 7 ∧ Z77 3 7 ≤ 900 := hG77.pr 3 7
            have eq94 : Z77 3 3 = Z60 3 3 := (hf77 3 3 rfl)
            have b95 : 0 ≤ Z60 3 3 ∧ Z60 3 3 ≤ 900 := hG60.pr 3 3
            have eq96 : Z77 3 4 = Z60 3 4 := (hf77 3 4 rfl)
            have b97 : 0 ≤ Z60 3 4 ∧ Z60 3 4 ≤ 400 := hG60.pr 3 4
            exact ih14 (w14_2 + 1) Z77 h77 (by omega) (by omega) (by omega) (by omega) (by omega) hx77 hG77 (fr_tr (M := [(3, 2), (3, 3), (3, 4), (3, 5), (3, 7), (3, 14), (3, 15), (5, (-1))]) (fr_tr (M := [(3, 2), (3, 3), (3, 4), (3, 5), (3, 7), (3, 14), (3, 15), (5, (-1))]) (fr_tr (M := [(3, 2), (3, 3), (3, 4), (3, 5), (3, 7), (3, 14), (3, 15), (5, (-1))]) (fr_tr (M := [(3, 2), (3, 3), (3, 4), (3, 5), (3, 7), (3, 14), (3, 15), (5, (-1))]) fr_rf (hf15) (M1 := []) rfl rfl) (hf48) rfl rfl) (hf60) rfl rfl) (hf77) rfl rfl)
    have eq98 : Z1 3 0 = Z 3 0 := (hf1 3 0 rfl)
    have b99 : 2 ≤ Z 3 0 ∧ Z 3 0 ≤ 4 := hG.pr 3 0
    have b100 : 0 ≤ Z1 3 2 ∧ Z1 3 2 ≤ 900 := hG1.pr 3 2
    have b101 : 0 ≤ Z1 3 3 ∧ Z1 3 3 ≤ 900 := hG1.pr 3 3
    have b102 : 0 ≤ Z1 3 4 ∧ Z1 3 4 ≤ 400 := hG1.pr 3 4
    have b103 : 0 ≤ Z1 3 7 ∧ Z1 3 7 ≤ 900 := hG1.pr 3 7
    have b104 : 0 ≤ Z1 3 14 ∧ Z1 3 14 ≤ 4 := hG1.pr 3 14
    have b105 : 0 ≤ Z1 3 3 ∧ Z1 3 3 ≤ 900 := hG1.pr 3 3
    have b106 : 0 ≤ Z1 3 7 ∧ Z1 3 7 ≤ 900 := hG1.pr 3 7
    have b107 : 0 ≤ Z1 3 3 ∧ Z1 3 3 ≤ 900 := hG1.pr 3 3
    have b108 : 0 ≤ Z1 3 4 ∧ Z1 3 4 ≤ 400 := hG1.pr 3 4
    exact c7 (Int.toNat (900 - 0) + 1) 0 Z1 h1 (by omega) (by omega) (by omega) (by omega) (by omega) hx1 hG1 fr_rf
theorem ct_43_3_s {l : Launch} {D : va_G} {b0 : Nat} {ad : Nat → Nat} {Hb : Heap} {tau : Nat → Int64} {d n s : Nat} {S : Nat → xS} {Z : xZ} {h : mx_H} (hx : XH n s S Z h) (hG : GI n S Z)  {x0 : Int} (p0 : 0 ≤ x0 ∧ x0 ≤ 6) (k0 : Z 3 0 = 2) (k1 : (Z 3 3 ≤ Z 3 2 ∧ Z 3 2 ≤ Z 3 1 ∧ (Z 3 4 = 0 ∨ Z 3 4 = 3 ∨ Z 3 3 < Z 3 2) ∧ (Z 3 4 = 3 ∨ Z 3 14 = 0))) {kk : Nat} (IH : RBch l D b0 ad Hb tau kk x0) (hd : kk ≤ d) : ∃ (Z' : xZ) (h' : mx_H), mx_Ca (tB l D b0 ad Hb tau) (d + 9) 43 [.ref 3, xI x0] h (none, h') ∧ XH n s S Z' h' ∧ GI n S Z' ∧ fr' [(3, 2), (3, 3), (3, 4), (3, 5), (3, 7), (3, 14), (3, 15), (5, (-1))] Z Z' ∧ (((Z' 3 3 ≤ Z' 3 2 ∧ Z' 3 2 ≤ Z 3 1 ∧ (Z' 3 4 = 0 ∨ Z' 3 4 = 3 ∨ Z' 3 3 < Z' 3 2) ∧ (Z' 3 4 = 3 ∨ Z' 3 14 = 0)) ∧ Z 3 3 ≤ Z' 3 3 ∧ Z' 3 7 - Z 3 7 ≤ Z' 3 3 - Z 3 3 ∧ (Z' 3 4 = 3 ∨ Z 3 3 + 1 ≤ Z' 3 3) ∧ (Z 3 4 = 3 → Z' 3 4 = 3))) := by
  obtain ⟨r, hca, Z', h', e, q⟩ := Jmt (B := tB l D b0 ad Hb tau) (M := mt_43) (mi := 43) (as := [.ref 3, xI x0]) (d := d + 8) (ls := [some (.ref 3), some (xI x0), none]) rfl rfl rfl rfl rfl rfl (cw_43_3_s (l := l) (D := D) (b0 := b0) (ad := ad) (Hb := Hb) (tau := tau) (d := d) (Post := fun r => ∃ (Z' : xZ) (h' : mx_H), r = (none, h') ∧ XH n s S Z' h' ∧ GI n S Z' ∧ fr' [(3, 2), (3, 3), (3, 4), (3, 5), (3, 7), (3, 14), (3, 15), (5, (-1))] Z Z' ∧ (((Z' 3 3 ≤ Z' 3 2 ∧ Z' 3 2 ≤ Z 3 1 ∧ (Z' 3 4 = 0 ∨ Z' 3 4 = 3 ∨ Z' 3 3 < Z' 3 2) ∧ (Z' 3 4 = 3 ∨ Z' 3 14 = 0)) ∧ Z 3 3 ≤ Z' 3 3 ∧ Z' 3 7 - Z 3 7 ≤ Z' 3 3 - Z 3 3 ∧ (Z' 3 4 = 3 ∨ Z 3 3 + 1 ≤ Z' 3 3) ∧ (Z 3 4 = 3 → Z' 3 4 = 3)))) hx hG p0 k0 k1 IH hd (fun Z' h' q1 q2 q3 q4 => ⟨Z', h', rfl, q1, q2, q3, q4⟩))
  subst e; exact ⟨Z', h', hca, q⟩
set_option maxRecDepth 100000 in
theorem cw_42_3_s {l : Launch} {D : va_G} {b0 : Nat} {ad : Nat → Nat} {Hb : Heap} {tau : Nat → Int64} {d n s : Nat} {S : Nat → xS} {Z : xZ} {h : mx_H} {Post : mx_R → Prop} (hx : XH n s S Z h) (hG : GI n S Z)  {x0 : Int} (p0 : 0 ≤ x0 ∧ x0 ≤ 6) (k0 : Z 3 0 = 2) (k1 : (Z 3 3 ≤ Z 3 2 ∧ Z 3 2 ≤ Z 3 1 ∧ (Z 3 4 = 0 ∨ Z 3 4 = 3 ∨ Z 3 3 < Z 3 2) ∧ (Z 3 4 = 3 ∨ Z 3 14 = 0))) {kk : Nat} (IH : RBch l D b0 ad Hb tau kk x0) (hd : kk ≤ d) (hP : ∀ (Z' : xZ) (h' : mx_H), XH n s S Z' h' → GI n S Z' → fr' [(3, 2), (3, 3), (3, 4), (3, 5), (3, 7), (3, 14), (3, 15), (5, (-1))] Z Z' → ((Z' 3 3 ≤ Z' 3 2 ∧ Z' 3 2 ≤ Z 3 1 ∧ (Z' 3 4 = 0 ∨ Z' 3 4 = 3 ∨ Z' 3 3 < Z' 3 2) ∧ (Z' 3 4 = 3 ∨ Z' 3 14 = 0)) ∧ Z 3 3 ≤ Z' 3 3 ∧ Z' 3 7 - Z 3 7 ≤ Z' 3 3 - Z 3 3 ∧ (Z' 3 4 = 3 ∨ Z 3 3 + 1 ≤ Z' 3 3) ∧ (Z 3 4 = 3 → Z' 3 4 = 3)) → Post (none, h')) : mx_J (tB l D b0 ad Hb tau) mt_42 (d + 9) 0 [some (.ref 3), some (xI x0), none, none] [] h Post := by
    have a3 : 3 < n := lt83 (GI_n hG) rfl
    have s3 : S 3 = .inl (7, [2, 0, 0, 0, 0, 0, 2, 0, 2, 2, 0, 2, 0, 0, 0, 0]) := GI_s hG 3 rfl
    refine mx_J.step (sn_42 0) (fun _ _ => rfl) ?_
    refine mx_J.step (sn_42 1) (fun _ _ => rfl) ?_
    have b2 : 2 ≤ Z 3 0 ∧ Z 3 0 ≤ 4 := hG.pr 3 0
    have b3 : 0 ≤ Z 3 1 ∧ Z 3 1 ≤ 900 := hG.pr 3 1
    have b4 : 0 ≤ Z 3 2 ∧ Z 3 2 ≤ 900 := hG.pr 3 2
    have b5 : 0 ≤ Z 3 3 ∧ Z 3 3 ≤ 900 := hG.pr 3 3
    have b6 : 0 ≤ Z 3 4 ∧ Z 3 4 ≤ 400 := hG.pr 3 4
    have b7 : 0 ≤ Z 3 7 ∧ Z 3 7 ≤ 900 := hG.pr 3 7
    have b8 : 0 ≤ Z 3 14 ∧ Z 3 14 ≤ 4 := hG.pr 3 14
    obtain ⟨Z1, h1, hc1, hx1, hG1, hf1, b1⟩ := ct_43_3_s (d := d + 0) (l := l) (D := D) (b0 := b0) (ad := ad) (Hb := Hb) (tau := tau) hx hG (show 0 ≤ x0 ∧ x0 ≤ 6 by omega) (show Z 3 0 = 2 by omega) (show (Z 3 3 ≤ Z 3 2 ∧ Z 3 2 ≤ Z 3 1 ∧ (Z 3 4 = 0 ∨ Z 3 4 = 3 ∨ Z 3 3 < Z 3 2) ∧ (Z 3 4 = 3 ∨ Z 3 14 = 0)) by omega) IH (by omega)
    have b9 : 0 ≤ Z1 3 2 ∧ Z1 3 2 ≤ 900 := hG1.pr 3 2
    have b10 : 0 ≤ Z1 3 3 ∧ Z1 3 3 ≤ 900 := hG1.pr 3 3
    have b11 : 0 ≤ Z1 3 4 ∧ Z1 3 4 ≤ 400 := hG1.pr 3 4
    have b12 : 0 ≤ Z1 3 7 ∧ Z1 3 7 ≤ 900 := hG1.pr 3 7
    have b13 : 0 ≤ Z1 3 14 ∧ Z1 3 14 ≤ 4 := hG1.pr 3 14
    refine Jcv0 hx (show mx_Sn _ _ 2 (mx_callv 43 2 7 5) from sn_42 2) a3 s3 hc1 rfl rfl rfl ?_
    refine JcI (z := 0) (show mx_Sn _ _ 5 (mx_const (.int 0) 6) from sn_42 5) rfl ?_
    refine mx_J.step (ls2 := [some (.ref 3), some (xI x0), some (xI 0), none]) (sn_42 6) (fun _ _ => rfl) ?_
    have c7 : ∀ (m14 : Nat) (w14_2 : Int) (u14_3 : Option Value) (Z15 : xZ) (h15 : mx_H), 900 - w14_2 < (m14 : Int) → 0 ≤ w14_2 ∧ w14_2 ≤ 900 → (Z15 3 3 ≤ Z15 3 2 ∧ Z15 3 2 ≤ Z 3 1 ∧ (Z15 3 4 = 0 ∨ Z15 3 4 = 3 ∨ Z15 3 3 < Z15 3 2) ∧ (Z15 3 4 = 3 ∨ Z15 3 14 = 0)) → (Z 3 3 ≤ Z15 3 3 ∧ Z15 3 7 - Z 3 7 ≤ Z15 3 3 - Z 3 3 + 0) → ((Z15 3 4 = 3 ∨ Z 3 3 + 1 ≤ Z15 3 3) ∧ (Z 3 4 = 3 → Z15 3 4 = 3)) → XH n s S Z15 h15 → GI n S Z15 → fr' [(3, 2), (3, 3), (3, 4), (3, 5), (3, 7), (3, 14), (3, 15), (5, (-1))] Z1 Z15 → mx_J (tB l D b0 ad Hb tau) mt_42 (d + 9) 7 [some (.ref 3), some (xI x0), some (xI w14_2), u14_3] [] h15 Post := by
      intro m14
      induction m14 with
      | zero => intro w14_2 u14_3 Z15 h15 q14 f14_0 f14_1 f14_2 f14_3 hx15 hG15 hf15; exact absurd q14 (by omega)
      | succ m14 ih14 =>
        intro w14_2 u14_3 Z15 h15 q14 f14_0 f14_1 f14_2 f14_3 hx15 hG15 hf15
        have eq16 : Z15 3 0 = Z 3 0 := ((hf15 3 0 rfl).trans (hf1 3 0 rfl))
        have b17 : 2 ≤ Z 3 0 ∧ Z 3 0 ≤ 4 := hG.pr 3 0
        have b18 : 0 ≤ Z15 3 2 ∧ Z15 3 2 ≤ 900 := hG15.pr 3 2
        have b19 : 0 ≤ Z15 3 3 ∧ Z15 3 3 ≤ 900 := hG15.pr 3 3
        have b20 : 0 ≤ Z15 3 4 ∧ Z15 3 4 ≤ 400 := hG15.pr 3 4
        have b21 : 0 ≤ Z15 3 7 ∧ Z15 3 7 ≤ 900 := hG15.pr 3 7
        have b22 : 0 ≤ Z15 3 14 ∧ Z15 3 14 ≤ 4 := hG15.pr 3 14
        have b23 : 0 ≤ Z15 3 3 ∧ Z15 3 3 ≤ 900 := hG15.pr 3 3
        have b24 : 0 ≤ Z15 3 7 ∧ Z15 3 7 ≤ 900 := hG15.pr 3 7
        have b25 : 0 ≤ Z15 3 3 ∧ Z15 3 3 ≤ 900 := hG15.pr 3 3
        have b26 : 0 ≤ Z15 3 4 ∧ Z15 3 4 ≤ 400 := hG15.pr 3 4
        refine mx_J.step (sn_42 7) (fun _ _ => rfl) ?_
        refine mx_J.step (sn_42 8) (fun _ _ => rfl) ?_
        have b28 : 0 ≤ Z 3 1 ∧ Z 3 1 ≤ 900 := hG.pr 3 1
        refine JgetI (g := 1) (z := Z 3 1) hx15 (show mx_Sn _ _ 9 (mx_getf 7 1 12) from sn_42 9) a3 s3 rfl rfl ((hf15 3 1 rfl).trans (hf1 3 1 rfl)) ?_
        have c72 : mx_J (tB l D b0 ad Hb tau) mt_42 (d + 9) 72 [some (.ref 3), some (xI x0), some (xI w14_2), u14_3] [] h15 Post := by
          have b30 : 0 ≤ Z15 3 2 ∧ Z15 3 2 ≤ 900 := hG15.pr 3 2
          have b31 : 0 ≤ Z15 3 3 ∧ Z15 3 3 ≤ 900 := hG15.pr 3 3
          have b32 : 0 ≤ Z15 3 4 ∧ Z15 3 4 ≤ 400 := hG15.pr 3 4
          have b33 : 0 ≤ Z15 3 7 ∧ Z15 3 7 ≤ 900 := hG15.pr 3 7
          have b34 : 0 ≤ Z15 3 14 ∧ Z15 3 14 ≤ 4 := hG15.pr 3 14
          have eq35 : Z15 3 0 = Z 3 0 := ((hf15 3 0 rfl).trans (hf1 3 0 rfl))
          have b36 : 2 ≤ Z 3 0 ∧ Z 3 0 ≤ 4 := hG.pr 3 0
          have eq37 : Z15 3 1 = Z 3 1 := ((hf15 3 1 rfl).trans (hf1 3 1 rfl))
          have b38 : 0 ≤ Z 3 1 ∧ Z 3 1 ≤ 900 := hG.pr 3 1
          have b39 : 0 ≤ Z15 3 2 ∧ Z15 3 2 ≤ 900 := hG15.pr 3 2
          have b40 : 0 ≤ Z15 3 3 ∧ Z15 3 3 ≤ 900 := hG15.pr 3 3
          have b41 : 0 ≤ Z15 3 4 ∧ Z15 3 4 ≤ 400 := hG15.pr 3 4
          have b42 : 0 ≤ Z15 3 7 ∧ Z15 3 7 ≤ 900 := hG15.pr 3 7
          have b43 : 0 ≤ Z15 3 14 ∧ Z15 3 14 ≤ 4 := hG15.pr 3 14
          exact mx_J.ret (sn_42 72) (fun _ _ => rfl) (hP Z15 h15 hx15 hG15 (fr_tr (M := [(3, 2), (3, 3), (3, 4), (3, 5), (3, 7), (3, 14), (3, 15), (5, (-1))]) (fr_tr (M := [(3, 2), (3, 3), (3, 4), (3, 5), (3, 7), (3, 14), (3, 15), (5, (-1))]) fr_rf (hf1) (M1 := []) rfl rfl) (hf15) rfl rfl) (by omega))
        refine Jicmp_ge (show mx_Sn _ _ 12 (mx_icmp_ge 72 15) from sn_42 12) (by omega) (by omega) (fun q44 => ?_) (fun q44 => ?_)
        · skip
          exact c72 
        · skip
          refine mx_J.step (sn_42 15) (fun _ _ => rfl) ?_
          have b46 : 0 ≤ Z15 3 4 ∧ Z15 3 4 ≤ 400 := hG15.pr 3 4
          refine JgetI (g := 4) (z := Z15 3 4) hx15 (show mx_Sn _ _ 16 (mx_getf 7 4 19) from sn_42 16) a3 s3 rfl rfl rfl ?_
          refine JcI (z := 43) (show mx_Sn _ _ 19 (mx_const (.int 43) 21) from sn_42 19) rfl ?_
          have c33 : (Z15 3 4 = 43 ∨ Z15 3 4 = 45) → mx_J (tB l D b0 ad Hb tau) mt_42 (d + 9) 33 [some (.ref 3), some (xI x0), some (xI w14_2), u14_3] [] h15 Post := by
            intro f47_0
            have b48 : 0 ≤ Z15 3 4 ∧ Z15 3 4 ≤ 400 := hG15.pr 3 4
            refine mx_J.step (sn_42 33) (fun _ _ => rfl) ?_
            have b50 : 0 ≤ Z15 3 4 ∧ Z15 3 4 ≤ 400 := hG15.pr 3 4
            refine JgetI (g := 4) (z := Z15 3 4) hx15 (show mx_Sn _ _ 34 (mx_getf 7 4 37) from sn_42 34) a3 s3 rfl rfl rfl ?_
            refine mx_J.step (ls2 := [some (.ref 3), some (xI x0), some (xI w14_2), some (xI (Z15 3 4))]) (sn_42 37) (fun _ _ => rfl) ?_
            refine mx_J.step (sn_42 38) (fun _ _ => rfl) ?_
            have eq52 : Z15 3 0 = Z 3 0 := ((hf15 3 0 rfl).trans (hf1 3 0 rfl))
            have b53 : 2 ≤ Z 3 0 ∧ Z 3 0 ≤ 4 := hG.pr 3 0
            have eq54 : Z15 3 1 = Z 3 1 := ((hf15 3 1 rfl).trans (hf1 3 1 rfl))
            have b55 : 0 ≤ Z 3 1 ∧ Z 3 1 ≤ 900 := hG.pr 3 1
            have b56 : 0 ≤ Z15 3 2 ∧ Z15 3 2 ≤ 900 := hG15.pr 3 2
            have b57 : 0 ≤ Z15 3 3 ∧ Z15 3 3 ≤ 900 := hG15.pr 3 3
            have b58 : 0 ≤ Z15 3 4 ∧ Z15 3 4 ≤ 400 := hG15.pr 3 4
            have b59 : 0 ≤ Z15 3 14 ∧ Z15 3 14 ≤ 4 := hG15.pr 3 14
            obtain ⟨Z51, h51, hc51, hx51, hG51, hf51, b51⟩ := ct_56_3 (d := d + 3) (l := l) (D := D) (b0 := b0) (ad := ad) (Hb := Hb) (tau := tau) hx15 hG15  (show Z15 3 0 = 2 by first | omega | (simp only [eq52, eq54]; omega)) (show Z15 3 2 ≤ Z15 3 1 by first | omega | (simp only [eq52, eq54]; omega))
            try rw [eq52] at b51
            try rw [eq54] at b51
            have b60 : 0 ≤ Z51 3 2 ∧ Z51 3 2 ≤ 900 := hG51.pr 3 2
            have b61 : 0 ≤ Z51 3 3 ∧ Z51 3 3 ≤ 900 := hG51.pr 3 3
            have b62 : 0 ≤ Z51 3 4 ∧ Z51 3 4 ≤ 400 := hG51.pr 3 4
            refine Jcv0 hx15 (show mx_Sn _ _ 39 (mx_callv 56 1 7 42) from sn_42 39) a3 s3 hc51 rfl rfl rfl ?_
            refine mx_J.step (sn_42 42) (fun _ _ => rfl) ?_
            refine mx_J.step (sn_42 43) (fun _ _ => rfl) ?_
            have eq64 : Z51 3 0 = Z 3 0 := ((hf51 3 0 rfl).trans ((hf15 3 0 rfl).trans (hf1 3 0 rfl)))
            have b65 : 2 ≤ Z 3 0 ∧ Z 3 0 ≤ 4 := hG.pr 3 0
            have eq66 : Z51 3 1 = Z 3 1 := ((hf51 3 1 rfl).trans ((hf15 3 1 rfl).trans (hf1 3 1 rfl)))
            have b67 : 0 ≤ Z 3 1 ∧ Z 3 1 ≤ 900 := hG.pr 3 1
            have b68 : 0 ≤ Z51 3 2 ∧ Z51 3 2 ≤ 900 := hG51.pr 3 2
            have b69 : 0 ≤ Z51 3 3 ∧ Z51 3 3 ≤ 900 := hG51.pr 3 3
            have b70 : 0 ≤ Z51 3 4 ∧ Z51 3 4 ≤ 400 := hG51.pr 3 4
            have eq71 : Z51 3 7 = Z15 3 7 := (hf51 3 7 rfl)
            have b72 : 0 ≤ Z15 3 7 ∧ Z15 3 7 ≤ 900 := hG15.pr 3 7
            have eq73 : Z51 3 14 = Z15 3 14 := (hf51 3 14 rfl)
            have b74 : 0 ≤ Z15 3 14 ∧ Z15 3 14 ≤ 4 := hG15.pr 3 14
            obtain ⟨Z63, h63, hc63, hx63, hG63, hf63, b63⟩ := ct_43_3_s (d := d + 0) (l := l) (D := D) (b0 := b0) (ad := ad) (Hb := Hb) (tau := tau) hx51 hG51 (show 0 ≤ x0 ∧ x0 ≤ 6 by omega) (show Z51 3 0 = 2 by first | omega | (simp only [eq64, eq66, eq71, eq73]; omega)) (show (Z51 3 3 ≤ Z51 3 2 ∧ Z51 3 2 ≤ Z51 3 1 ∧ (Z51 3 4 = 0 ∨ Z51 3 4 = 3 ∨ Z51 3 3 < Z51 3 2) ∧ (Z51 3 4 = 3 ∨ Z51 3 14 = 0)) by first | omega | (simp only [eq64, eq66, eq71, eq73]; omega)) IH (by omega)
            try rw [eq64] at b63
            try rw [eq66] at b63
            try rw [eq71] at b63
            try rw [eq73] at b63
            have b75 : 0 ≤ Z63 3 2 ∧ Z63 3 2 ≤ 900 := hG63.pr 3 2
            have b76 : 0 ≤ Z63 3 3 ∧ Z63 3 3 ≤ 900 := hG63.pr 3 3
            have b77 : 0 ≤ Z63 3 4 ∧ Z63 3 4 ≤ 400 := hG63.pr 3 4
            have b78 : 0 ≤ Z63 3 7 ∧ Z63 3 7 ≤ 900 := hG63.pr 3 7
            have b79 : 0 ≤ Z63 3 14 ∧ Z63 3 14 ≤ 4 := hG63.pr 3 14
            refine Jcv0 hx51 (show mx_Sn _ _ 44 (mx_callv 43 2 7 47) from sn_42 44) a3 s3 hc63 rfl rfl rfl ?_
            refine mx_J.step (sn_42 47) (fun _ _ => rfl) ?_
            refine mx_J.step (sn_42 48) (fun _ _ => rfl) ?_
            refine JcI (z := 43) (show mx_Sn _ _ 49 (mx_const (.int 43) 51) from sn_42 49) rfl ?_
            have c63 : ∀ (k80_1 : Int), 1010 ≤ k80_1 ∧ k80_1 ≤ 1011 → mx_J (tB l D b0 ad Hb tau) mt_42 (d + 9) 63 [some (.ref 3), some (xI x0), some (xI w14_2), some (xI (Z15 3 4))] [xI k80_1, .ref 3] h63 Post := by
              intro k80_1 f80_0
              have b82 : 0 ≤ Z63 3 7 ∧ Z63 3 7 ≤ 900 := hG63.pr 3 7
              obtain ⟨Z81, h81, hc81, hx81, hG81, hf81, b81⟩ := ct_52_3_1010 (d := d + 8) (l := l) (D := D) (b0 := b0) (ad := ad) (Hb := Hb) (tau := tau) hx63 hG63 (show 1010 ≤ k80_1 ∧ k80_1 ≤ 1019 by omega)
              have b83 : 0 ≤ Z81 3 7 ∧ Z81 3 7 ≤ 900 := hG81.pr 3 7
              refine Jcv0 hx63 (show mx_Sn _ _ 63 (mx_callv 52 2 7 66) from sn_42 63) a3 s3 hc81 rfl rfl rfl ?_
              refine Jiinc (z := w14_2) (cz := 1) (ls2 := [some (.ref 3), some (xI x0), some (xI (w14_2 + 1)), some (xI (Z15 3 4))]) (show mx_Sn _ _ 66 (mx_iinc 2 1 69) from sn_42 66) rfl rfl rfl rfl ?_
              refine mx_J.step (sn_42 69) (fun _ _ => rfl) ?_
              have eq84 : Z81 3 0 = Z 3 0 := ((hf81 3 0 rfl).trans ((hf63 3 0 rfl).trans ((hf51 3 0 rfl).trans ((hf15 3 0 rfl).trans (hf1 3 0 rfl)))))
              have b85 : 2 ≤ Z 3 0 ∧ Z 3 0 ≤ 4 := hG.pr 3 0
              have eq86 : Z81 3 2 = Z63 3 2 := (hf81 3 2 rfl)
              have b87 : 0 ≤ Z63 3 2 ∧ Z63 3 2 ≤ 900 := hG63.pr 3 2
              have eq88 : Z81 3 3 = Z63 3 3 := (hf81 3 3 rfl)
              have b89 : 0 ≤ Z63 3 3 ∧ Z63 3 3 ≤ 900 := hG63.pr 3 3
              have eq90 : Z81 3 4 = Z63 3 4 := (hf81 3 4 rfl)
              have b91 : 0 ≤ Z63 3 4 ∧ Z63 3 4 ≤ 400 := hG63.pr 3 4
              have b92 : 0 ≤ Z81 3 7 ∧ Z81 3 7 ≤ 900 := hG81.pr 3 7
              have eq93 : Z81 3 14 = Z63 3 14 := (hf81 3 14 rfl)
              have b94 : 0 ≤ Z63 3 14 ∧ Z63 3 14 ≤ 4 := hG63.pr 3 14
              have eq95 : Z81 3 3 = Z63 3 3 := (hf81 3 3 rfl)
              have b96 : 0 ≤ Z63 3 3 ∧ Z63 3 3 ≤ 900 := hG63.pr 3 3
              have b97 : 0 ≤ Z81 3 7 ∧ Z81 3 7 ≤ 900 := hG81.pr 3 7
              have eq98 : Z81 3 3 = Z63 3 3 := (hf81 3 3 rfl)
              have b99 : 0 ≤ Z63 3 3 ∧ Z63 3 3 ≤ 900 := hG63.pr 3 3
              have eq100 : Z81 3 4 = Z63 3 4 := (hf81 3 4 rfl)
              have b101 : 0 ≤ Z63 3 4 ∧ Z63 3 4 ≤ 400 := hG63.pr 3 4
              exact ih14 (w14_2 + 1) (some (xI (Z15 3 4))) Z81 h81 (by omega) (by omega) (by omega) (by omega) (by omega) hx81 hG81 (fr_tr (M := [(3, 2), (3, 3), (3, 4), (3, 5), (3, 7), (3, 14), (3, 15), (5, (-1))]) (fr_tr (M := [(3, 2), (3, 3), (3, 4), (3, 5), (3, 7), (3, 14), (3, 15), (5, (-1))]) (fr_tr (M := [(3, 2), (3, 3), (3, 4), (3, 5), (3, 7), (3, 14), (3, 15), (5, (-1))]) (fr_tr (M := [(3, 2), (3, 3), (3, 4), (3, 5), (3, 7), (3, 14), (3, 15), (5, (-1))]) fr_rf (hf15) (M1 := []) rfl rfl) (hf51) rfl rfl) (hf63) rfl rfl) (hf81) rfl rfl)
            refine Jicmp_ne (show mx_Sn _ _ 51 (mx_icmp_ne 60 54) from sn_42 51) (by omega) (by omega) (fun q102 => ?_) (fun q102 => ?_)
            · skip
              refine JcI (z := 1011) (show mx_Sn _ _ 60 (mx_const (.int 1011) 63) from sn_42 60) rfl ?_
              exact c63 1011 (by omega)
            · skip
              refine JcI (z := 1010) (show mx_Sn _ _ 54 (mx_const (.int 1010) 57) from sn_42 54) rfl ?_
              refine mx_J.step (sn_42 57) (fun _ _ => rfl) ?_
              exact c63 1010 (by omega)
          refine Jicmp_eq (show mx_Sn _ _ 21 (mx_icmp_eq 33 24) from sn_42 21) (by omega) (by omega) (fun q103 => ?_) (fun q103 => ?_)
          · skip
            have b104 : 0 ≤ Z15 3 4 ∧ Z15 3 4 ≤ 400 := hG15.pr 3 4
            exact c33 (by omega)
          · skip
            refine mx_J.step (sn_42 24) (fun _ _ => rfl) ?_
            have b106 : 0 ≤ Z15 3 4 ∧ Z15 3 4 ≤ 400 := hG15.pr 3 4
            refine JgetI (g := 4) (z := Z15 3 4) hx15 (show mx_Sn _ _ 25 (mx_getf 7 4 28) from sn_42 25) a3 s3 rfl rfl rfl ?_
            refine JcI (z := 45) (show mx_Sn _ _ 28 (mx_const (.int 45) 30) from sn_42 28) rfl ?_
            refine Jicmp_ne (show mx_Sn _ _ 30 (mx_icmp_ne 72 33) from sn_42 30) (by omega) (by omega) (fun q107 => ?_) (fun q107 => ?_)
            · skip
              exact c72 
            · skip
              have b108 : 0 ≤ Z15 3 4 ∧ Z15 3 4 ≤ 400 := hG15.pr 3 4
              exact c33 (by omega)
    have eq109 : Z1 3 0 = Z 3 0 := (hf1 3 0 rfl)
    have b110 : 2 ≤ Z 3 0 ∧ Z 3 0 ≤ 4 := hG.pr 3 0
    have b111 : 0 ≤ Z1 3 2 ∧ Z1 3 2 ≤ 900 := hG1.pr 3 2
    have b112 : 0 ≤ Z1 3 3 ∧ Z1 3 3 ≤ 900 := hG1.pr 3 3
    have b113 : 0 ≤ Z1 3 4 ∧ Z1 3 4 ≤ 400 := hG1.pr 3 4
    have b114 : 0 ≤ Z1 3 7 ∧ Z1 3 7 ≤ 900 := hG1.pr 3 7
    have b115 : 0 ≤ Z1 3 14 ∧ Z1 3 14 ≤ 4 := hG1.pr 3 14
    have b116 : 0 ≤ Z1 3 3 ∧ Z1 3 3 ≤ 900 := hG1.pr 3 3
    have b117 : 0 ≤ Z1 3 7 ∧ Z1 3 7 ≤ 900 := hG1.pr 3 7
    have b118 : 0 ≤ Z1 3 3 ∧ Z1 3 3 ≤ 900 := hG1.pr 3 3
    have b119 : 0 ≤ Z1 3 4 ∧ Z1 3 4 ≤ 400 := hG1.pr 3 4
    exact c7 (Int.toNat (900 - 0) + 1) 0 none Z1 h1 (by omega) (by omega) (by omega) (by omega) (by omega) hx1 hG1 fr_rf
theorem ct_42_3_s {l : Launch} {D : va_G} {b0 : Nat} {ad : Nat → Nat} {Hb : Heap} {tau : Nat → Int64} {d n s : Nat} {S : Nat → xS} {Z : xZ} {h : mx_H} (hx : XH n s S Z h) (hG : GI n S Z)  {x0 : Int} (p0 : 0 ≤ x0 ∧ x0 ≤ 6) (k0 : Z 3 0 = 2) (k1 : (Z 3 3 ≤ Z 3 2 ∧ Z 3 2 ≤ Z 3 1 ∧ (Z 3 4 = 0 ∨ Z 3 4 = 3 ∨ Z 3 3 < Z 3 2) ∧ (Z 3 4 = 3 ∨ Z 3 14 = 0))) {kk : Nat} (IH : RBch l D b0 ad Hb tau kk x0) (hd : kk ≤ d) : ∃ (Z' : xZ) (h' : mx_H), mx_Ca (tB l D b0 ad Hb tau) (d + 10) 42 [.ref 3, xI x0] h (none, h') ∧ XH n s S Z' h' ∧ GI n S Z' ∧ fr' [(3, 2), (3, 3), (3, 4), (3, 5), (3, 7), (3, 14), (3, 15), (5, (-1))] Z Z' ∧ (((Z' 3 3 ≤ Z' 3 2 ∧ Z' 3 2 ≤ Z 3 1 ∧ (Z' 3 4 = 0 ∨ Z' 3 4 = 3 ∨ Z' 3 3 < Z' 3 2) ∧ (Z' 3 4 = 3 ∨ Z' 3 14 = 0)) ∧ Z 3 3 ≤ Z' 3 3 ∧ Z' 3 7 - Z 3 7 ≤ Z' 3 3 - Z 3 3 ∧ (Z' 3 4 = 3 ∨ Z 3 3 + 1 ≤ Z' 3 3) ∧ (Z 3 4 = 3 → Z' 3 4 = 3))) := by
  obtain ⟨r, hca, Z', h', e, q⟩ := Jmt (B := tB l D b0 ad Hb tau) (M := mt_42) (mi := 42) (as := [.ref 3, xI x0]) (d := d + 9) (ls := [some (.ref 3), some (xI x0), none, none]) rfl rfl rfl rfl rfl rfl (cw_42_3_s (l := l) (D := D) (b0 := b0) (ad := ad) (Hb := Hb) (tau := tau) (d := d) (Post := fun r => ∃ (Z' : xZ) (h' : mx_H), r = (none, h') ∧ XH n s S Z' h' ∧ GI n S Z' ∧ fr' [(3, 2), (3, 3), (3, 4), (3, 5), (3, 7), (3, 14), (3, 15), (5, (-1))] Z Z' ∧ (((Z' 3 3 ≤ Z' 3 2 ∧ Z' 3 2 ≤ Z 3 1 ∧ (Z' 3 4 = 0 ∨ Z' 3 4 = 3 ∨ Z' 3 3 < Z' 3 2) ∧ (Z' 3 4 = 3 ∨ Z' 3 14 = 0)) ∧ Z 3 3 ≤ Z' 3 3 ∧ Z' 3 7 - Z 3 7 ≤ Z' 3 3 - Z 3 3 ∧ (Z' 3 4 = 3 ∨ Z 3 3 + 1 ≤ Z' 3 3) ∧ (Z 3 4 = 3 → Z' 3 4 = 3)))) hx hG p0 k0 k1 IH hd (fun Z' h' q1 q2 q3 q4 => ⟨Z', h', rfl, q1, q2, q3, q4⟩))
  subst e; exact ⟨Z', h', hca, q⟩
set_option maxRecDepth 100000 in
theorem cw_50_3_s {l : Launch} {D : va_G} {b0 : Nat} {ad : Nat → Nat} {Hb : Heap} {tau : Nat → Int64} {d n s : Nat} {S : Nat → xS} {Z : xZ} {h : mx_H} {Post : mx_R → Prop} (hx : XH n s S Z h) (hG : GI n S Z)  {x0 : Int} (p0 : 0 ≤ x0 ∧ x0 ≤ 6) (k0 : Z 3 0 = 2) (k1 : (Z 3 3 ≤ Z 3 2 ∧ Z 3 2 ≤ Z 3 1 ∧ (Z 3 4 = 0 ∨ Z 3 4 = 3 ∨ Z 3 3 < Z 3 2) ∧ (Z 3 4 = 3 ∨ Z 3 14 = 0))) {kk : Nat} (IH : RBch l D b0 ad Hb tau kk x0) (hd : kk ≤ d) (hP : ∀ (Z' : xZ) (h' : mx_H), XH n s S Z' h' → GI n S Z' → fr' [(3, 2), (3, 3), (3, 4), (3, 5), (3, 7), (3, 14), (3, 15), (5, (-1))] Z Z' → ((Z' 3 3 ≤ Z' 3 2 ∧ Z' 3 2 ≤ Z 3 1 ∧ (Z' 3 4 = 0 ∨ Z' 3 4 = 3 ∨ Z' 3 3 < Z' 3 2) ∧ (Z' 3 4 = 3 ∨ Z' 3 14 = 0)) ∧ Z 3 3 ≤ Z' 3 3 ∧ Z' 3 7 - Z 3 7 ≤ Z' 3 3 - Z 3 3 ∧ (Z' 3 4 = 3 ∨ Z 3 3 + 1 ≤ Z' 3 3) ∧ (Z 3 4 = 3 → Z' 3 4 = 3)) → Post (none, h')) : mx_J (tB l D b0 ad Hb tau) mt_50 (d + 10) 0 [some (.ref 3), some (xI x0), none] [] h Post := by
    have a3 : 3 < n := lt83 (GI_n hG) rfl
    have s3 : S 3 = .inl (7, [2, 0, 0, 0, 0, 0, 2, 0, 2, 2, 0, 2, 0, 0, 0, 0]) := GI_s hG 3 rfl
    refine mx_J.step (sn_50 0) (fun _ _ => rfl) ?_
    refine mx_J.step (sn_50 1) (fun _ _ => rfl) ?_
    have b2 : 2 ≤ Z 3 0 ∧ Z 3 0 ≤ 4 := hG.pr 3 0
    have b3 : 0 ≤ Z 3 1 ∧ Z 3 1 ≤ 900 := hG.pr 3 1
    have b4 : 0 ≤ Z 3 2 ∧ Z 3 2 ≤ 900 := hG.pr 3 2
    have b5 : 0 ≤ Z 3 3 ∧ Z 3 3 ≤ 900 := hG.pr 3 3
    have b6 : 0 ≤ Z 3 4 ∧ Z 3 4 ≤ 400 := hG.pr 3 4
    have b7 : 0 ≤ Z 3 7 ∧ Z 3 7 ≤ 900 := hG.pr 3 7
    have b8 : 0 ≤ Z 3 14 ∧ Z 3 14 ≤ 4 := hG.pr 3 14
    obtain ⟨Z1, h1, hc1, hx1, hG1, hf1, b1⟩ := ct_42_3_s (d := d + 0) (l := l) (D := D) (b0 := b0) (ad := ad) (Hb := Hb) (tau := tau) hx hG (show 0 ≤ x0 ∧ x0 ≤ 6 by omega) (show Z 3 0 = 2 by omega) (show (Z 3 3 ≤ Z 3 2 ∧ Z 3 2 ≤ Z 3 1 ∧ (Z 3 4 = 0 ∨ Z 3 4 = 3 ∨ Z 3 3 < Z 3 2) ∧ (Z 3 4 = 3 ∨ Z 3 14 = 0)) by omega) IH (by omega)
    have b9 : 0 ≤ Z1 3 2 ∧ Z1 3 2 ≤ 900 := hG1.pr 3 2
    have b10 : 0 ≤ Z1 3 3 ∧ Z1 3 3 ≤ 900 := hG1.pr 3 3
    have b11 : 0 ≤ Z1 3 4 ∧ Z1 3 4 ≤ 400 := hG1.pr 3 4
    have b12 : 0 ≤ Z1 3 7 ∧ Z1 3 7 ≤ 900 := hG1.pr 3 7
    have b13 : 0 ≤ Z1 3 14 ∧ Z1 3 14 ≤ 4 := hG1.pr 3 14
    refine Jcv0 hx (show mx_Sn _ _ 2 (mx_callv 42 2 7 5) from sn_50 2) a3 s3 hc1 rfl rfl rfl ?_
    refine mx_J.step (sn_50 5) (fun _ _ => rfl) ?_
    have b15 : 0 ≤ Z1 3 4 ∧ Z1 3 4 ≤ 400 := hG1.pr 3 4
    refine JgetI (g := 4) (z := Z1 3 4) hx1 (show mx_Sn _ _ 6 (mx_getf 7 4 9) from sn_50 6) a3 s3 rfl rfl rfl ?_
    refine mx_J.step (ls2 := [some (.ref 3), some (xI x0), some (xI (Z1 3 4))]) (sn_50 9) (fun _ _ => rfl) ?_
    refine mx_J.step (sn_50 10) (fun _ _ => rfl) ?_
    refine JcI (z := 61) (show mx_Sn _ _ 11 (mx_const (.int 61) 13) from sn_50 11) rfl ?_
    have c34 : ((Z1 3 4) = 61 ∨ (Z1 3 4) = 60 ∨ (Z1 3 4) = 62) → mx_J (tB l D b0 ad Hb tau) mt_50 (d + 10) 34 [some (.ref 3), some (xI x0), some (xI (Z1 3 4))] [] h1 Post := by
      intro f16_0
      refine mx_J.step (sn_50 34) (fun _ _ => rfl) ?_
      have eq18 : Z1 3 0 = Z 3 0 := (hf1 3 0 rfl)
      have b19 : 2 ≤ Z 3 0 ∧ Z 3 0 ≤ 4 := hG.pr 3 0
      have eq20 : Z1 3 1 = Z 3 1 := (hf1 3 1 rfl)
      have b21 : 0 ≤ Z 3 1 ∧ Z 3 1 ≤ 900 := hG.pr 3 1
      have b22 : 0 ≤ Z1 3 2 ∧ Z1 3 2 ≤ 900 := hG1.pr 3 2
      have b23 : 0 ≤ Z1 3 3 ∧ Z1 3 3 ≤ 900 := hG1.pr 3 3
      have b24 : 0 ≤ Z1 3 4 ∧ Z1 3 4 ≤ 400 := hG1.pr 3 4
      have b25 : 0 ≤ Z1 3 14 ∧ Z1 3 14 ≤ 4 := hG1.pr 3 14
      obtain ⟨Z17, h17, hc17, hx17, hG17, hf17, b17⟩ := ct_56_3 (d := d + 4) (l := l) (D := D) (b0 := b0) (ad := ad) (Hb := Hb) (tau := tau) hx1 hG1  (show Z1 3 0 = 2 by first | omega | (simp only [eq18, eq20]; omega)) (show Z1 3 2 ≤ Z1 3 1 by first | omega | (simp only [eq18, eq20]; omega))
      try rw [eq18] at b17
      try rw [eq20] at b17
      have b26 : 0 ≤ Z17 3 2 ∧ Z17 3 2 ≤ 900 := hG17.pr 3 2
      have b27 : 0 ≤ Z17 3 3 ∧ Z17 3 3 ≤ 900 := hG17.pr 3 3
      have b28 : 0 ≤ Z17 3 4 ∧ Z17 3 4 ≤ 400 := hG17.pr 3 4
      refine Jcv0 hx1 (show mx_Sn _ _ 35 (mx_callv 56 1 7 38) from sn_50 35) a3 s3 hc17 rfl rfl rfl ?_
      refine mx_J.step (sn_50 38) (fun _ _ => rfl) ?_
      refine mx_J.step (sn_50 39) (fun _ _ => rfl) ?_
      have eq30 : Z17 3 0 = Z 3 0 := ((hf17 3 0 rfl).trans (hf1 3 0 rfl))
      have b31 : 2 ≤ Z 3 0 ∧ Z 3 0 ≤ 4 := hG.pr 3 0
      have eq32 : Z17 3 1 = Z 3 1 := ((hf17 3 1 rfl).trans (hf1 3 1 rfl))
      have b33 : 0 ≤ Z 3 1 ∧ Z 3 1 ≤ 900 := hG.pr 3 1
      have b34 : 0 ≤ Z17 3 2 ∧ Z17 3 2 ≤ 900 := hG17.pr 3 2
      have b35 : 0 ≤ Z17 3 3 ∧ Z17 3 3 ≤ 900 := hG17.pr 3 3
      have b36 : 0 ≤ Z17 3 4 ∧ Z17 3 4 ≤ 400 := hG17.pr 3 4
      have eq37 : Z17 3 7 = Z1 3 7 := (hf17 3 7 rfl)
      have b38 : 0 ≤ Z1 3 7 ∧ Z1 3 7 ≤ 900 := hG1.pr 3 7
      have eq39 : Z17 3 14 = Z1 3 14 := (hf17 3 14 rfl)
      have b40 : 0 ≤ Z1 3 14 ∧ Z1 3 14 ≤ 4 := hG1.pr 3 14
      obtain ⟨Z29, h29, hc29, hx29, hG29, hf29, b29⟩ := ct_42_3_s (d := d + 0) (l := l) (D := D) (b0 := b0) (ad := ad) (Hb := Hb) (tau := tau) hx17 hG17 (show 0 ≤ x0 ∧ x0 ≤ 6 by omega) (show Z17 3 0 = 2 by first | omega | (simp only [eq30, eq32, eq37, eq39]; omega)) (show (Z17 3 3 ≤ Z17 3 2 ∧ Z17 3 2 ≤ Z17 3 1 ∧ (Z17 3 4 = 0 ∨ Z17 3 4 = 3 ∨ Z17 3 3 < Z17 3 2) ∧ (Z17 3 4 = 3 ∨ Z17 3 14 = 0)) by first | omega | (simp only [eq30, eq32, eq37, eq39]; omega)) IH (by omega)
      try rw [eq30] at b29
      try rw [eq32] at b29
      try rw [eq37] at b29
      try rw [eq39] at b29
      have b41 : 0 ≤ Z29 3 2 ∧ Z29 3 2 ≤ 900 := hG29.pr 3 2
      have b42 : 0 ≤ Z29 3 3 ∧ Z29 3 3 ≤ 900 := hG29.pr 3 3
      have b43 : 0 ≤ Z29 3 4 ∧ Z29 3 4 ≤ 400 := hG29.pr 3 4
      have b44 : 0 ≤ Z29 3 7 ∧ Z29 3 7 ≤ 900 := hG29.pr 3 7
      have b45 : 0 ≤ Z29 3 14 ∧ Z29 3 14 ≤ 4 := hG29.pr 3 14
      refine Jcv0 hx17 (show mx_Sn _ _ 40 (mx_callv 42 2 7 43) from sn_50 40) a3 s3 hc29 rfl rfl rfl ?_
      refine mx_J.step (sn_50 43) (fun _ _ => rfl) ?_
      refine mx_J.step (sn_50 44) (fun _ _ => rfl) ?_
      refine JcI (z := 61) (show mx_Sn _ _ 45 (mx_const (.int 61) 47) from sn_50 45) rfl ?_
      have c71 : ∀ (k46_1 : Int), 1013 ≤ k46_1 ∧ k46_1 ≤ 1015 → mx_J (tB l D b0 ad Hb tau) mt_50 (d + 10) 71 [some (.ref 3), some (xI x0), some (xI (Z1 3 4))] [xI k46_1, .ref 3] h29 Post := by
        intro k46_1 f46_0
        have b48 : 0 ≤ Z29 3 7 ∧ Z29 3 7 ≤ 900 := hG29.pr 3 7
        obtain ⟨Z47, h47, hc47, hx47, hG47, hf47, b47⟩ := ct_52_3_1010 (d := d + 9) (l := l) (D := D) (b0 := b0) (ad := ad) (Hb := Hb) (tau := tau) hx29 hG29 (show 1010 ≤ k46_1 ∧ k46_1 ≤ 1019 by omega)
        have b49 : 0 ≤ Z47 3 7 ∧ Z47 3 7 ≤ 900 := hG47.pr 3 7
        refine Jcv0 hx29 (show mx_Sn _ _ 71 (mx_callv 52 2 7 74) from sn_50 71) a3 s3 hc47 rfl rfl rfl ?_
        have eq50 : Z47 3 2 = Z29 3 2 := (hf47 3 2 rfl)
        have b51 : 0 ≤ Z29 3 2 ∧ Z29 3 2 ≤ 900 := hG29.pr 3 2
        have eq52 : Z47 3 3 = Z29 3 3 := (hf47 3 3 rfl)
        have b53 : 0 ≤ Z29 3 3 ∧ Z29 3 3 ≤ 900 := hG29.pr 3 3
        have eq54 : Z47 3 4 = Z29 3 4 := (hf47 3 4 rfl)
        have b55 : 0 ≤ Z29 3 4 ∧ Z29 3 4 ≤ 400 := hG29.pr 3 4
        have b56 : 0 ≤ Z47 3 7 ∧ Z47 3 7 ≤ 900 := hG47.pr 3 7
        have eq57 : Z47 3 14 = Z29 3 14 := (hf47 3 14 rfl)
        have b58 : 0 ≤ Z29 3 14 ∧ Z29 3 14 ≤ 4 := hG29.pr 3 14
        have eq59 : Z47 3 0 = Z 3 0 := ((hf47 3 0 rfl).trans ((hf29 3 0 rfl).trans ((hf17 3 0 rfl).trans (hf1 3 0 rfl))))
        have b60 : 2 ≤ Z 3 0 ∧ Z 3 0 ≤ 4 := hG.pr 3 0
        have eq61 : Z47 3 1 = Z 3 1 := ((hf47 3 1 rfl).trans ((hf29 3 1 rfl).trans ((hf17 3 1 rfl).trans (hf1 3 1 rfl))))
        have b62 : 0 ≤ Z 3 1 ∧ Z 3 1 ≤ 900 := hG.pr 3 1
        have eq63 : Z47 3 2 = Z29 3 2 := (hf47 3 2 rfl)
        have b64 : 0 ≤ Z29 3 2 ∧ Z29 3 2 ≤ 900 := hG29.pr 3 2
        have eq65 : Z47 3 3 = Z29 3 3 := (hf47 3 3 rfl)
        have b66 : 0 ≤ Z29 3 3 ∧ Z29 3 3 ≤ 900 := hG29.pr 3 3
        have eq67 : Z47 3 4 = Z29 3 4 := (hf47 3 4 rfl)
        have b68 : 0 ≤ Z29 3 4 ∧ Z29 3 4 ≤ 400 := hG29.pr 3 4
        have b69 : 0 ≤ Z47 3 7 ∧ Z47 3 7 ≤ 900 := hG47.pr 3 7
        have eq70 : Z47 3 14 = Z29 3 14 := (hf47 3 14 rfl)
        have b71 : 0 ≤ Z29 3 14 ∧ Z29 3 14 ≤ 4 := hG29.pr 3 14
        exact mx_J.ret (sn_50 74) (fun _ _ => rfl) (hP Z47 h47 hx47 hG47 (fr_tr (M := [(3, 2), (3, 3), (3, 4), (3, 5), (3, 7), (3, 14), (3, 15), (5, (-1))]) (fr_tr (M := [(3, 2), (3, 3), (3, 4), (3, 5), (3, 7), (3, 14), (3, 15), (5, (-1))]) (fr_tr (M := [(3, 2), (3, 3), (3, 4), (3, 5), (3, 7), (3, 14), (3, 15), (5, (-1))]) (fr_tr (M := [(3, 2), (3, 3), (3, 4), (3, 5), (3, 7), (3, 14), (3, 15), (5, (-1))]) fr_rf (hf1) (M1 := []) rfl rfl) (hf17) rfl rfl) (hf29) rfl rfl) (hf47) rfl rfl) (by omega))
      refine Jicmp_ne (show mx_Sn _ _ 47 (mx_icmp_ne 56 50) from sn_50 47) (by omega) (by omega) (fun q72 => ?_) (fun q72 => ?_)
      · skip
        refine mx_J.step (sn_50 56) (fun _ _ => rfl) ?_
        refine JcI (z := 60) (show mx_Sn _ _ 57 (mx_const (.int 60) 59) from sn_50 57) rfl ?_
        refine Jicmp_ne (show mx_Sn _ _ 59 (mx_icmp_ne 68 62) from sn_50 59) (by omega) (by omega) (fun q73 => ?_) (fun q73 => ?_)
        · skip
          refine JcI (z := 1015) (show mx_Sn _ _ 68 (mx_const (.int 1015) 71) from sn_50 68) rfl ?_
          exact c71 1015 (by omega)
        · skip
          refine JcI (z := 1014) (show mx_Sn _ _ 62 (mx_const (.int 1014) 65) from sn_50 62) rfl ?_
          refine mx_J.step (sn_50 65) (fun _ _ => rfl) ?_
          exact c71 1014 (by omega)
      · skip
        refine JcI (z := 1013) (show mx_Sn _ _ 50 (mx_const (.int 1013) 53) from sn_50 50) rfl ?_
        refine mx_J.step (sn_50 53) (fun _ _ => rfl) ?_
        exact c71 1013 (by omega)
    refine Jicmp_eq (show mx_Sn _ _ 13 (mx_icmp_eq 34 16) from sn_50 13) (by omega) (by omega) (fun q74 => ?_) (fun q74 => ?_)
    · skip
      exact c34 (by omega)
    · skip
      refine mx_J.step (sn_50 16) (fun _ _ => rfl) ?_
      refine JcI (z := 60) (show mx_Sn _ _ 17 (mx_const (.int 60) 19) from sn_50 17) rfl ?_
      refine Jicmp_eq (show mx_Sn _ _ 19 (mx_icmp_eq 34 22) from sn_50 19) (by omega) (by omega) (fun q75 => ?_) (fun q75 => ?_)
      · skip
        exact c34 (by omega)
      · skip
        refine mx_J.step (sn_50 22) (fun _ _ => rfl) ?_
        refine JcI (z := 62) (show mx_Sn _ _ 23 (mx_const (.int 62) 25) from sn_50 23) rfl ?_
        refine Jicmp_eq (show mx_Sn _ _ 25 (mx_icmp_eq 34 28) from sn_50 25) (by omega) (by omega) (fun q76 => ?_) (fun q76 => ?_)
        · skip
          exact c34 (by omega)
        · skip
          refine mx_J.step (sn_50 28) (fun _ _ => rfl) ?_
          refine JcI (z := 2) (show mx_Sn _ _ 29 (mx_const (.int 2) 30) from sn_50 29) rfl ?_
          obtain ⟨Z77, h77, hc77, hx77, hG77, hf77, b77⟩ := ct_55_3 (d := d + 9) (l := l) (D := D) (b0 := b0) (ad := ad) (Hb := Hb) (tau := tau) hx1 hG1 (show 2 ≤ 2 ∧ 2 ≤ 4 by omega)
          have b78 : 0 ≤ Z77 3 4 ∧ Z77 3 4 ≤ 400 := hG77.pr 3 4
          refine Jcv0 hx1 (show mx_Sn _ _ 30 (mx_callv 55 2 7 33) from sn_50 30) a3 s3 hc77 rfl rfl rfl ?_
          have eq79 : Z77 3 2 = Z1 3 2 := (hf77 3 2 rfl)
          have b80 : 0 ≤ Z1 3 2 ∧ Z1 3 2 ≤ 900 := hG1.pr 3 2
          have eq81 : Z77 3 3 = Z1 3 3 := (hf77 3 3 rfl)
          have b82 : 0 ≤ Z1 3 3 ∧ Z1 3 3 ≤ 900 := hG1.pr 3 3
          have b83 : 0 ≤ Z77 3 4 ∧ Z77 3 4 ≤ 400 := hG77.pr 3 4
          have eq84 : Z77 3 7 = Z1 3 7 := (hf77 3 7 rfl)
          have b85 : 0 ≤ Z1 3 7 ∧ Z1 3 7 ≤ 900 := hG1.pr 3 7
          have b86 : 0 ≤ Z77 3 14 ∧ Z77 3 14 ≤ 4 := hG77.pr 3 14
          have eq87 : Z77 3 0 = Z 3 0 := ((hf77 3 0 rfl).trans (hf1 3 0 rfl))
          have b88 : 2 ≤ Z 3 0 ∧ Z 3 0 ≤ 4 := hG.pr 3 0
          have eq89 : Z77 3 1 = Z 3 1 := ((hf77 3 1 rfl).trans (hf1 3 1 rfl))
          have b90 : 0 ≤ Z 3 1 ∧ Z 3 1 ≤ 900 := hG.pr 3 1
          have eq91 : Z77 3 2 = Z1 3 2 := (hf77 3 2 rfl)
          have b92 : 0 ≤ Z1 3 2 ∧ Z1 3 2 ≤ 900 := hG1.pr 3 2
          have eq93 : Z77 3 3 = Z1 3 3 := (hf77 3 3 rfl)
          have b94 : 0 ≤ Z1 3 3 ∧ Z1 3 3 ≤ 900 := hG1.pr 3 3
          have b95 : 0 ≤ Z77 3 4 ∧ Z77 3 4 ≤ 400 := hG77.pr 3 4
          have eq96 : Z77 3 7 = Z1 3 7 := (hf77 3 7 rfl)
          have b97 : 0 ≤ Z1 3 7 ∧ Z1 3 7 ≤ 900 := hG1.pr 3 7
          have b98 : 0 ≤ Z77 3 14 ∧ Z77 3 14 ≤ 4 := hG77.pr 3 14
          exact mx_J.ret (sn_50 33) (fun _ _ => rfl) (hP Z77 h77 hx77 hG77 (fr_tr (M := [(3, 2), (3, 3), (3, 4), (3, 5), (3, 7), (3, 14), (3, 15), (5, (-1))]) (fr_tr (M := [(3, 2), (3, 3), (3, 4), (3, 5), (3, 7), (3, 14), (3, 15), (5, (-1))]) fr_rf (hf1) (M1 := []) rfl rfl) (hf77) rfl rfl) (by omega))
theorem ct_50_3_s {l : Launch} {D : va_G} {b0 : Nat} {ad : Nat → Nat} {Hb : Heap} {tau : Nat → Int64} {d n s : Nat} {S : Nat → xS} {Z : xZ} {h : mx_H} (hx : XH n s S Z h) (hG : GI n S Z)  {x0 : Int} (p0 : 0 ≤ x0 ∧ x0 ≤ 6) (k0 : Z 3 0 = 2) (k1 : (Z 3 3 ≤ Z 3 2 ∧ Z 3 2 ≤ Z 3 1 ∧ (Z 3 4 = 0 ∨ Z 3 4 = 3 ∨ Z 3 3 < Z 3 2) ∧ (Z 3 4 = 3 ∨ Z 3 14 = 0))) {kk : Nat} (IH : RBch l D b0 ad Hb tau kk x0) (hd : kk ≤ d) : ∃ (Z' : xZ) (h' : mx_H), mx_Ca (tB l D b0 ad Hb tau) (d + 11) 50 [.ref 3, xI x0] h (none, h') ∧ XH n s S Z' h' ∧ GI n S Z' ∧ fr' [(3, 2), (3, 3), (3, 4), (3, 5), (3, 7), (3, 14), (3, 15), (5, (-1))] Z Z' ∧ (((Z' 3 3 ≤ Z' 3 2 ∧ Z' 3 2 ≤ Z 3 1 ∧ (Z' 3 4 = 0 ∨ Z' 3 4 = 3 ∨ Z' 3 3 < Z' 3 2) ∧ (Z' 3 4 = 3 ∨ Z' 3 14 = 0)) ∧ Z 3 3 ≤ Z' 3 3 ∧ Z' 3 7 - Z 3 7 ≤ Z' 3 3 - Z 3 3 ∧ (Z' 3 4 = 3 ∨ Z 3 3 + 1 ≤ Z' 3 3) ∧ (Z 3 4 = 3 → Z' 3 4 = 3))) := by
  obtain ⟨r, hca, Z', h', e, q⟩ := Jmt (B := tB l D b0 ad Hb tau) (M := mt_50) (mi := 50) (as := [.ref 3, xI x0]) (d := d + 10) (ls := [some (.ref 3), some (xI x0), none]) rfl rfl rfl rfl rfl rfl (cw_50_3_s (l := l) (D := D) (b0 := b0) (ad := ad) (Hb := Hb) (tau := tau) (d := d) (Post := fun r => ∃ (Z' : xZ) (h' : mx_H), r = (none, h') ∧ XH n s S Z' h' ∧ GI n S Z' ∧ fr' [(3, 2), (3, 3), (3, 4), (3, 5), (3, 7), (3, 14), (3, 15), (5, (-1))] Z Z' ∧ (((Z' 3 3 ≤ Z' 3 2 ∧ Z' 3 2 ≤ Z 3 1 ∧ (Z' 3 4 = 0 ∨ Z' 3 4 = 3 ∨ Z' 3 3 < Z' 3 2) ∧ (Z' 3 4 = 3 ∨ Z' 3 14 = 0)) ∧ Z 3 3 ≤ Z' 3 3 ∧ Z' 3 7 - Z 3 7 ≤ Z' 3 3 - Z 3 3 ∧ (Z' 3 4 = 3 ∨ Z 3 3 + 1 ≤ Z' 3 3) ∧ (Z 3 4 = 3 → Z' 3 4 = 3)))) hx hG p0 k0 k1 IH hd (fun Z' h' q1 q2 q3 q4 => ⟨Z', h', rfl, q1, q2, q3, q4⟩))
  subst e; exact ⟨Z', h', hca, q⟩
