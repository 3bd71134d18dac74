set_option maxRecDepth 100000 in
theorem cw_114_1 {l : Launch} {D : va_G} {b0 : Nat} {ad : Nat → Nat} {Hb : Heap} {tau : Nat → Int64} {d n s : Nat} {S : Nat → xS} {Z : xZ} {h : mx_H} {Post : mx_R → Prop} (hx : XH n s S Z h) (hG : GI n S Z)  {x0 x1 : Int} (p0 : (-2147483648) ≤ x0 ∧ x0 ≤ 2147483647) (p1 : (-2147483648) ≤ x1 ∧ x1 ≤ 2147483647) (k0 : CTB Z (Z 7 4)) (k1 : 1 ≤ Z 7 4) (hP : ∀ z : Int, (¬ (x0 < 1 ∨ 18 < x0 ∨ x1 < 1 ∨ 18 < x1) → z = bnf (Z 7 4) x0 x1 (pN (Z 7 4)).toNat) ∧ (-3) ≤ z ∧ z ≤ 385 ∧ ((x0 < 1 ∨ 18 < x0 ∨ x1 < 1 ∨ 18 < x1) → z = -3) → Post (some (xI z), h)) : mx_J (tB l D b0 ad Hb tau) mt_114 (d + 2) 0 [some (.ref 1), some (xI x0), some (xI x1), none, none] [] h Post := by
    have a1 : 1 < n := lt83 (GI_n hG) rfl
    have s1 : S 1 = .inl (11, [2, 0, 0, 0, 2, 2, 2, 2, 2, 2, 2, 2, 2, 2, 2, 2, 2]) := GI_s hG 1 rfl
    have a7 : 7 < n := lt83 (GI_n hG) rfl
    have s7 : S 7 = .inl (0, [2, 2, 2, 2, 0, 0]) := GI_s hG 7 rfl
    have b1 : 0 ≤ Z 7 4 ∧ Z 7 4 ≤ 18 := hG.pr 7 4
    have b2 : 0 ≤ Z 7 5 ∧ Z 7 5 ≤ 385 := hG.pr 7 5
    refine mx_J.step (sn_114 0) (fun _ _ => rfl) ?_
    refine JcI (z := 1) (show mx_Sn _ _ 1 (mx_const (.int 1) 2) from sn_114 1) rfl ?_
    have c22 : (x0 < 1 ∨ 18 < x0 ∨ x1 < 1 ∨ 18 < x1) → mx_J (tB l D b0 ad Hb tau) mt_114 (d + 2) 22 [some (.ref 1), some (xI x0), some (xI x1), none, none] [] h Post := by
      intro f3_0
      refine JcI (z := (-3)) (show mx_Sn _ _ 22 (mx_const (.int (-3)) 24) from sn_114 22) rfl ?_
      exact mx_J.ret (sn_114 24) (fun _ _ => rfl) (hP (-3) ⟨(fun q => absurd (by omega) q), by omega⟩)
    refine Jicmp_lt (show mx_Sn _ _ 2 (mx_icmp_lt 22 5) from sn_114 2) (by omega) (by omega) (fun q4 => ?_) (fun q4 => ?_)
    · skip
      exact c22 (by omega)
    · skip
      refine mx_J.step (sn_114 5) (fun _ _ => rfl) ?_
      refine JcI (z := 18) (show mx_Sn _ _ 6 (mx_const (.int 18) 8) from sn_114 6) rfl ?_
      refine Jicmp_gt (show mx_Sn _ _ 8 (mx_icmp_gt 22 11) from sn_114 8) (by omega) (by omega) (fun q5 => ?_) (fun q5 => ?_)
      · skip
        exact c22 (by omega)
      · skip
        refine mx_J.step (sn_114 11) (fun _ _ => rfl) ?_
        refine JcI (z := 1) (show mx_Sn _ _ 12 (mx_const (.int 1) 13) from sn_114 12) rfl ?_
        refine Jicmp_lt (show mx_Sn _ _ 13 (mx_icmp_lt 22 16) from sn_114 13) (by omega) (by omega) (fun q6 => ?_) (fun q6 => ?_)
        · skip
          exact c22 (by omega)
        · skip
          refine mx_J.step (sn_114 16) (fun _ _ => rfl) ?_
          refine JcI (z := 18) (show mx_Sn _ _ 17 (mx_const (.int 18) 19) from sn_114 17) rfl ?_
          refine Jicmp_le (show mx_Sn _ _ 19 (mx_icmp_le 25 22) from sn_114 19) (by omega) (by omega) (fun q7 => ?_) (fun q7 => ?_)
          · skip
            refine JcI (z := 0) (show mx_Sn _ _ 25 (mx_const (.int 0) 26) from sn_114 25) rfl ?_
            refine mx_J.step (ls2 := [some (.ref 1), some (xI x0), some (xI x1), some (xI 0), none]) (sn_114 26) (fun _ _ => rfl) ?_
            refine JcI (z := 0) (show mx_Sn _ _ 27 (mx_const (.int 0) 28) from sn_114 27) rfl ?_
            refine mx_J.step (ls2 := [some (.ref 1), some (xI x0), some (xI x1), some (xI 0), some (xI 0)]) (sn_114 28) (fun _ _ => rfl) ?_
            have c30 : ∀ (m8 : Nat) (w8_3 : Int) (w8_4 : Int), 385 - w8_4 < (m8 : Int) → 0 ≤ w8_3 ∧ w8_3 ≤ 385 → 0 ≤ w8_4 ∧ w8_4 ≤ 385 → w8_4 ≤ Z 7 5 → w8_3 = bnf (Z 7 4) x0 x1 (w8_4).toNat → w8_3 ≤ w8_4 → mx_J (tB l D b0 ad Hb tau) mt_114 (d + 2) 30 [some (.ref 1), some (xI x0), some (xI x1), some (xI w8_3), some (xI w8_4)] [] h Post := by
              intro m8
              induction m8 with
              | zero => intro w8_3 w8_4 q8 f8_0 f8_1 f8_2 f8_3 f8_4; exact absurd q8 (by omega)
              | succ m8 ih8 =>
                intro w8_3 w8_4 q8 f8_0 f8_1 f8_2 f8_3 f8_4
                refine mx_J.step (sn_114 30) (fun _ _ => rfl) ?_
                refine mx_J.step (sn_114 32) (fun _ _ => rfl) ?_
                refine JgetR (g := 5) (b := 7) hx (show mx_Sn _ _ 33 (mx_getf 11 5 36) from sn_114 33) a1 s1 rfl rfl (hG.prr 1 5 rfl) ?_
                refine JgetI (g := 5) (z := Z 7 5) hx (show mx_Sn _ _ 36 (mx_getf 0 5 39) from sn_114 36) a7 s7 rfl rfl rfl ?_
                refine Jicmp_ge (show mx_Sn _ _ 39 (mx_icmp_ge 78 42) from sn_114 39) (by omega) (by omega) (fun q11 => ?_) (fun q11 => ?_)
                · skip
                  refine mx_J.step (sn_114 78) (fun _ _ => rfl) ?_
                  exact mx_J.ret (sn_114 79) (fun _ _ => rfl) (hP w8_3 ⟨(fun _ => by have q : w8_4 = pN (Z 7 4) := (by have := k0.2.1; omega); rw [← q]; assumption), by omega⟩)
                · skip
                  refine mx_J.step (sn_114 42) (fun _ _ => rfl) ?_
                  refine JgetR (g := 5) (b := 7) hx (show mx_Sn _ _ 43 (mx_getf 11 5 46) from sn_114 43) a1 s1 rfl rfl (hG.prr 1 5 rfl) ?_
                  refine mx_J.step (sn_114 46) (fun _ _ => rfl) ?_
                  have b14 : 0 ≤ Z 10 w8_4 ∧ Z 10 w8_4 ≤ 18 := hG.pr 10 w8_4
                  obtain ⟨z13, hc13, b13⟩ := ct_5_7 (d := d + 1) (l := l) (D := D) (b0 := b0) (ad := ad) (Hb := Hb) (tau := tau) hx hG (show (-2147483648) ≤ w8_4 ∧ w8_4 ≤ 2147483647 by omega)
                  refine Jcv hx (show mx_Sn _ _ 48 (mx_callv 5 2 0 51) from sn_114 48) a7 s7 hc13 rfl rfl rfl ?_
                  refine mx_J.step (sn_114 51) (fun _ _ => rfl) ?_
                  have c72 : ∀ (w15_3 : Int), 0 ≤ w15_3 ∧ w15_3 ≤ 386 → w15_3 = bnf (Z 7 4) x0 x1 (w8_4 + 1).toNat → w15_3 ≤ w8_4 + 1 → mx_J (tB l D b0 ad Hb tau) mt_114 (d + 2) 72 [some (.ref 1), some (xI x0), some (xI x1), some (xI w15_3), some (xI w8_4)] [] h Post := by
                    intro w15_3 f15_0 f15_1 f15_2
                    refine Jiinc (z := w8_4) (cz := 1) (ls2 := [some (.ref 1), some (xI x0), some (xI x1), some (xI w15_3), some (xI (w8_4 + 1))]) (show mx_Sn _ _ 72 (mx_iinc 4 1 75) from sn_114 72) rfl rfl rfl rfl ?_
                    refine mx_J.step (sn_114 75) (fun _ _ => rfl) ?_
                    exact ih8 w15_3 (w8_4 + 1) (by omega) (by omega) (by omega) (by omega) (by assumption) (by omega)
                  refine Jicmp_gt (show mx_Sn _ _ 52 (mx_icmp_gt 72 55) from sn_114 52) (by omega) (by omega) (fun q16 => ?_) (fun q16 => ?_)
                  · skip
                    exact c72 w8_3 (by omega) (bn_n (by assumption) (by omega) (fun q => by have cb := CTB_h k0 (t := w8_4) (by omega) (by have := k0.2.1; omega); omega)) (by omega)
                  · skip
                    refine mx_J.step (sn_114 55) (fun _ _ => rfl) ?_
                    refine JgetR (g := 5) (b := 7) hx (show mx_Sn _ _ 56 (mx_getf 11 5 59) from sn_114 56) a1 s1 rfl rfl (hG.prr 1 5 rfl) ?_
                    refine mx_J.step (sn_114 59) (fun _ _ => rfl) ?_
                    refine JcI (z := 0) (show mx_Sn _ _ 61 (mx_const (.int 0) 62) from sn_114 61) rfl ?_
                    have b19 : 0 ≤ Z 9 (w8_4 * 18 + 0) ∧ Z 9 (w8_4 * 18 + 0) ≤ 18 := hG.pr 9 (w8_4 * 18 + 0)
                    obtain ⟨z18, hc18, b18⟩ := ct_6_7 (d := d + 0) (l := l) (D := D) (b0 := b0) (ad := ad) (Hb := Hb) (tau := tau) hx hG (show (-2147483648) ≤ w8_4 ∧ w8_4 ≤ 2147483647 by omega) (show (-2147483648) ≤ 0 ∧ 0 ≤ 2147483647 by omega)
                    refine Jcv hx (show mx_Sn _ _ 62 (mx_callv 6 3 0 65) from sn_114 62) a7 s7 hc18 rfl rfl rfl ?_
                    refine mx_J.step (sn_114 65) (fun _ _ => rfl) ?_
                    refine Jicmp_gt (show mx_Sn _ _ 66 (mx_icmp_gt 72 69) from sn_114 66) (by omega) (by omega) (fun q20 => ?_) (fun q20 => ?_)
                    · skip
                      exact c72 w8_3 (by omega) (bn_n (by assumption) (by omega) (fun q => by have cs := CTB_s k0 (t := w8_4) (p := 0) (by omega) (by have := k0.2.1; omega) (by decide) (by have := hln_b (N := Z 7 4) (s := w8_4) (by omega) (by omega) (by have := k0.2.1; omega); omega); have cb := CTB_h k0 (t := w8_4) (by omega) (by have := k0.2.1; omega); have hb := hln_b (N := Z 7 4) (s := w8_4) (by omega) (by omega) (by have := k0.2.1; omega); omega)) (by omega)
                    · skip
                      refine Jiinc (z := w8_3) (cz := 1) (ls2 := [some (.ref 1), some (xI x0), some (xI x1), some (xI (w8_3 + 1)), some (xI w8_4)]) (show mx_Sn _ _ 69 (mx_iinc 3 1 72) from sn_114 69) rfl rfl rfl rfl ?_
                      exact c72 (w8_3 + 1) (by omega) (bn_y (by assumption) (by omega) (by have cb := CTB_h k0 (t := w8_4) (by omega) (by have := k0.2.1; omega); omega) (by have cs := CTB_s k0 (t := w8_4) (p := 0) (by omega) (by have := k0.2.1; omega) (by decide) (by have := hln_b (N := Z 7 4) (s := w8_4) (by omega) (by omega) (by have := k0.2.1; omega); omega); have cb := CTB_h k0 (t := w8_4) (by omega) (by have := k0.2.1; omega); have hb := hln_b (N := Z 7 4) (s := w8_4) (by omega) (by omega) (by have := k0.2.1; omega); omega)) (by omega)
            exact c30 (Int.toNat (385 - 0) + 1) 0 0 (by omega) (by omega) (by omega) (by omega) (bn_0) (by omega)
          · skip
            exact c22 (by omega)
theorem ct_114_1 {l : Launch} {D : va_G} {b0 : Nat} {ad : Nat → Nat} {Hb : Heap} {tau : Nat → Int64} {d n s : Nat} {S : Nat → xS} {Z : xZ} {h : mx_H} (hx : XH n s S Z h) (hG : GI n S Z)  {x0 x1 : Int} (p0 : (-2147483648) ≤ x0 ∧ x0 ≤ 2147483647) (p1 : (-2147483648) ≤ x1 ∧ x1 ≤ 2147483647) (k0 : CTB Z (Z 7 4)) (k1 : 1 ≤ Z 7 4) : ∃ z : Int, mx_Ca (tB l D b0 ad Hb tau) (d + 3) 114 [.ref 1, xI x0, xI x1] h (some (xI z), h) ∧ ((¬ (x0 < 1 ∨ 18 < x0 ∨ x1 < 1 ∨ 18 < x1) → z = bnf (Z 7 4) x0 x1 (pN (Z 7 4)).toNat) ∧ (-3) ≤ z ∧ z ≤ 385 ∧ ((x0 < 1 ∨ 18 < x0 ∨ x1 < 1 ∨ 18 < x1) → z = -3)) := by
  obtain ⟨r, hca, z, e, hp⟩ := Jmt (B := tB l D b0 ad Hb tau) (M := mt_114) (mi := 114) (as := [.ref 1, xI x0, xI x1]) (d := d + 2) (ls := [some (.ref 1), some (xI x0), some (xI x1), none, none]) rfl rfl rfl rfl rfl rfl (cw_114_1 (l := l) (D := D) (b0 := b0) (ad := ad) (Hb := Hb) (tau := tau) (d := d) (Post := fun r => ∃ z : Int, r = (some (xI z), h) ∧ ((¬ (x0 < 1 ∨ 18 < x0 ∨ x1 < 1 ∨ 18 < x1) → z = bnf (Z 7 4) x0 x1 (pN (Z 7 4)).toNat) ∧ (-3) ≤ z ∧ z ≤ 385 ∧ ((x0 < 1 ∨ 18 < x0 ∨ x1 < 1 ∨ 18 < x1) → z = -3))) hx hG p0 p1 k0 k1 (fun z hz => ⟨z, rfl, hz⟩))
  subst e; exact ⟨z, hca, hp⟩
set_option maxRecDepth 100000 in
theorem cw_115_1 {l : Launch} {D : va_G} {b0 : Nat} {ad : Nat → Nat} {Hb : Heap} {tau : Nat → Int64} {d n s : Nat} {S : Nat → xS} {Z : xZ} {h : mx_H} {Post : mx_R → Prop} (hx : XH n s S Z h) (hG : GI n S Z)   (hP : ∀ (z : Int) (Z' : xZ) (h' : mx_H), XH n s S Z' h' → GI n S Z' → fr' [(42, (-1))] Z Z' → 0 ≤ z ∧ z ≤ 384 → Post (some (xI z), h')) : mx_J (tB l D b0 ad Hb tau) mt_115 (d + 2) 0 [some (.ref 1), none, none, none, none] [] h Post := by
    have a1 : 1 < n := lt83 (GI_n hG) rfl
    have s1 : S 1 = .inl (11, [2, 0, 0, 0, 2, 2, 2, 2, 2, 2, 2, 2, 2, 2, 2, 2, 2]) := GI_s hG 1 rfl
    have a7 : 7 < n := lt83 (GI_n hG) rfl
    have s7 : S 7 = .inl (0, [2, 2, 2, 2, 0, 0]) := GI_s hG 7 rfl
    have a36 : 36 < n := lt83 (GI_n hG) rfl
    have s36 : S 36 = .inl (5, [2, 0, 0, 0, 0, 0]) := GI_s hG 36 rfl
    have a42 : 42 < n := lt83 (GI_n hG) rfl
    have s42 : S 42 = .inr (.int, 19, 0) := GI_s hG 42 rfl
    refine mx_J.step (sn_115 0) (fun _ _ => rfl) ?_
    refine JgetR (g := 15) (b := 42) hx (show mx_Sn _ _ 1 (mx_getf 11 15 4) from sn_115 1) a1 s1 rfl rfl (hG.prr 1 15 rfl) ?_
    refine JcI (z := 0) (show mx_Sn _ _ 4 (mx_const (.int 0) 5) from sn_115 4) rfl ?_
    obtain ⟨Z2, h2, hc2, hx2, hG2, hf2, m2_42⟩ := ct_284_42_i0 (d := d + 1) (l := l) (D := D) (b0 := b0) (ad := ad) (Hb := Hb) (tau := tau) hx hG 
    refine Jcs0 (show mx_Sn _ _ 5 (mx_calls 284 2 8) from sn_115 5) hc2 rfl rfl rfl ?_
    refine mx_J.step (sn_115 8) (fun _ _ => rfl) ?_
    refine JgetR (g := 5) (b := 7) hx2 (show mx_Sn _ _ 9 (mx_getf 11 5 12) from sn_115 9) a1 s1 rfl rfl (hG2.prr 1 5 rfl) ?_
    refine mx_J.step (sn_115 12) (fun _ _ => rfl) ?_
    refine JgetR (g := 12) (b := 36) hx2 (show mx_Sn _ _ 13 (mx_getf 11 12 16) from sn_115 13) a1 s1 rfl rfl (hG2.prr 1 12 rfl) ?_
    have b6 : 0 ≤ Z 36 2 ∧ Z 36 2 ≤ 384 := hG.pr 36 2
    refine JgetI (g := 2) (z := Z 36 2) hx2 (show mx_Sn _ _ 16 (mx_getf 5 2 19) from sn_115 16) a36 s36 rfl rfl (hf2 36 2 rfl) ?_
    have eq8 : Z2 7 5 = Z 7 5 := (hf2 7 5 rfl)
    have b9 : 0 ≤ Z 7 5 ∧ Z 7 5 ≤ 385 := hG.pr 7 5
    have eq10 : Z2 10 (Z 36 2) = Z 10 (Z 36 2) := (hf2 10 (Z 36 2) rfl)
    have b11 : 0 ≤ Z 10 (Z 36 2) ∧ Z 10 (Z 36 2) ≤ 18 := hG.pr 10 (Z 36 2)
    obtain ⟨z7, hc7, b7⟩ := ct_5_7 (d := d + 1) (l := l) (D := D) (b0 := b0) (ad := ad) (Hb := Hb) (tau := tau) hx2 hG2 (show (-2147483648) ≤ Z 36 2 ∧ Z 36 2 ≤ 2147483647 by omega)
    try rw [eq8] at b7
    try rw [eq10] at b7
    refine Jcv hx2 (show mx_Sn _ _ 19 (mx_callv 5 2 0 22) from sn_115 19) a7 s7 hc7 rfl rfl rfl ?_
    refine mx_J.step (ls2 := [some (.ref 1), some (xI z7), none, none, none]) (sn_115 22) (fun _ _ => rfl) ?_
    refine JcI (z := 1) (show mx_Sn _ _ 23 (mx_const (.int 1) 24) from sn_115 23) rfl ?_
    refine mx_J.step (ls2 := [some (.ref 1), some (xI z7), some (xI 1), none, none]) (sn_115 24) (fun _ _ => rfl) ?_
    have c25 : ∀ (m12 : Nat) (w12_2 : Int) (u12_3 : Option Value) (u12_4 : Option Value) (Z13 : xZ) (h13 : mx_H), 19 - w12_2 < (m12 : Int) → 1 ≤ w12_2 ∧ w12_2 ≤ 19 → AB Z13 42 (19) (0) (w12_2 - 1) → XH n s S Z13 h13 → GI n S Z13 → fr' [(42, (-1))] Z2 Z13 → mx_J (tB l D b0 ad Hb tau) mt_115 (d + 2) 25 [some (.ref 1), some (xI z7), some (xI w12_2), u12_3, u12_4] [] h13 Post := by
      intro m12
      induction m12 with
      | zero => intro w12_2 u12_3 u12_4 Z13 h13 q12 f12_0 f12_1 hx13 hG13 hf13; exact absurd q12 (by omega)
      | succ m12 ih12 =>
        intro w12_2 u12_3 u12_4 Z13 h13 q12 f12_0 f12_1 hx13 hG13 hf13
        refine mx_J.step (sn_115 25) (fun _ _ => rfl) ?_
        refine mx_J.step (sn_115 26) (fun _ _ => rfl) ?_
        refine JgetR (g := 5) (b := 7) hx13 (show mx_Sn _ _ 27 (mx_getf 11 5 30) from sn_115 27) a1 s1 rfl rfl (hG13.prr 1 5 rfl) ?_
        refine mx_J.step (sn_115 30) (fun _ _ => rfl) ?_
        refine JgetR (g := 12) (b := 36) hx13 (show mx_Sn _ _ 31 (mx_getf 11 12 34) from sn_115 31) a1 s1 rfl rfl (hG13.prr 1 12 rfl) ?_
        refine JgetI (g := 2) (z := Z 36 2) hx13 (show mx_Sn _ _ 34 (mx_getf 5 2 37) from sn_115 34) a36 s36 rfl rfl ((hf13 36 2 rfl).trans (hf2 36 2 rfl)) ?_
        refine JcI (z := 0) (show mx_Sn _ _ 37 (mx_const (.int 0) 38) from sn_115 37) rfl ?_
        have eq18 : Z13 9 ((Z 36 2) * 18 + 0) = Z 9 ((Z 36 2) * 18 + 0) := ((hf13 9 ((Z 36 2) * 18 + 0) rfl).trans (hf2 9 ((Z 36 2) * 18 + 0) rfl))
        have b19 : 0 ≤ Z 9 ((Z 36 2) * 18 + 0) ∧ Z 9 ((Z 36 2) * 18 + 0) ≤ 18 := hG.pr 9 ((Z 36 2) * 18 + 0)
        have eq20 : Z13 10 (Z 36 2) = Z 10 (Z 36 2) := ((hf13 10 (Z 36 2) rfl).trans (hf2 10 (Z 36 2) rfl))
        have eq21 : Z13 7 5 = Z 7 5 := ((hf13 7 5 rfl).trans (hf2 7 5 rfl))
        obtain ⟨z17, hc17, b17⟩ := ct_6_7 (d := d + 0) (l := l) (D := D) (b0 := b0) (ad := ad) (Hb := Hb) (tau := tau) hx13 hG13 (show (-2147483648) ≤ Z 36 2 ∧ Z 36 2 ≤ 2147483647 by omega) (show (-2147483648) ≤ 0 ∧ 0 ≤ 2147483647 by omega)
        try rw [eq18] at b17
        try rw [eq20] at b17
        try rw [eq21] at b17
        refine Jcv hx13 (show mx_Sn _ _ 38 (mx_callv 6 3 0 41) from sn_115 38) a7 s7 hc17 rfl rfl rfl ?_
        refine Jicmp_gt (show mx_Sn _ _ 41 (mx_icmp_gt 100 44) from sn_115 41) (by omega) (by omega) (fun q22 => ?_) (fun q22 => ?_)
        · skip
          refine mx_J.step (sn_115 100) (fun _ _ => rfl) ?_
          refine JgetR (g := 5) (b := 7) hx13 (show mx_Sn _ _ 101 (mx_getf 11 5 104) from sn_115 101) a1 s1 rfl rfl (hG13.prr 1 5 rfl) ?_
          refine mx_J.step (sn_115 104) (fun _ _ => rfl) ?_
          refine JgetR (g := 15) (b := 42) hx13 (show mx_Sn _ _ 105 (mx_getf 11 15 108) from sn_115 105) a1 s1 rfl rfl (hG13.prr 1 15 rfl) ?_
          obtain ⟨z25, hc25, b25⟩ := ct_9_7_42 (d := d + 0) (l := l) (D := D) (b0 := b0) (ad := ad) (Hb := Hb) (tau := tau) hx13 hG13  (ab_mono f12_1 (by omega) (by omega) (by omega))
          obtain ⟨bs25_0, b25⟩ := b25
          refine Jcv hx13 (show mx_Sn _ _ 108 (mx_callv 9 2 0 111) from sn_115 108) a7 s7 hc25 rfl rfl rfl ?_
          exact mx_J.ret (sn_115 111) (fun _ _ => rfl) (hP z25 Z13 h13 hx13 hG13 (fr_tr (M := [(42, (-1))]) (fr_tr (M := [(42, (-1))]) fr_rf (hf2) (M1 := []) rfl rfl) (hf13) rfl rfl) (by omega))
        · skip
          refine JcI (z := 0) (show mx_Sn _ _ 44 (mx_const (.int 0) 45) from sn_115 44) rfl ?_
          refine mx_J.step (ls2 := [some (.ref 1), some (xI z7), some (xI w12_2), some (xI 0), u12_4]) (sn_115 45) (fun _ _ => rfl) ?_
          refine JcI (z := 0) (show mx_Sn _ _ 46 (mx_const (.int 0) 47) from sn_115 46) rfl ?_
          refine mx_J.step (ls2 := [some (.ref 1), some (xI z7), some (xI w12_2), some (xI 0), some (xI 0)]) (sn_115 47) (fun _ _ => rfl) ?_
          have c49 : ∀ (m26 : Nat) (w26_3 : Int) (w26_4 : Int), 18 - w26_4 < (m26 : Int) → 0 ≤ w26_3 ∧ w26_3 ≤ 18 → 0 ≤ w26_4 ∧ w26_4 ≤ 18 → w26_3 ≤ w26_4 → mx_J (tB l D b0 ad Hb tau) mt_115 (d + 2) 49 [some (.ref 1), some (xI z7), some (xI w12_2), some (xI w26_3), some (xI w26_4)] [] h13 Post := by
            intro m26
            induction m26 with
            | zero => intro w26_3 w26_4 q26 f26_0 f26_1 f26_2; exact absurd q26 (by omega)
            | succ m26 ih26 =>
              intro w26_3 w26_4 q26 f26_0 f26_1 f26_2
              refine mx_J.step (sn_115 49) (fun _ _ => rfl) ?_
              refine mx_J.step (sn_115 51) (fun _ _ => rfl) ?_
              refine Jicmp_ge (show mx_Sn _ _ 52 (mx_icmp_ge 84 55) from sn_115 52) (by omega) (by omega) (fun q27 => ?_) (fun q27 => ?_)
              · skip
                refine mx_J.step (sn_115 84) (fun _ _ => rfl) ?_
                refine JgetR (g := 15) (b := 42) hx13 (show mx_Sn _ _ 85 (mx_getf 11 15 88) from sn_115 85) a1 s1 rfl rfl (hG13.prr 1 15 rfl) ?_
                refine mx_J.step (sn_115 88) (fun _ _ => rfl) ?_
                refine mx_J.step (sn_115 89) (fun _ _ => rfl) ?_
                have b29 : 0 ≤ Z13 42 w26_3 ∧ Z13 42 w26_3 ≤ w12_2 - 1 := f12_1 w26_3 (by omega) (by omega)
                have b30 : (-2147483648) ≤ Z13 42 w26_3 ∧ Z13 42 w26_3 ≤ 2147483647 := hG13.pr 42 w26_3
                refine JialdI (z := Z13 42 w26_3) hx13 (show mx_Sn _ _ 90 (mx_iald 91) from sn_115 90) a42 s42 (by omega) rfl ?_
                refine JcI (z := 1) (show mx_Sn _ _ 91 (mx_const (.int 1) 92) from sn_115 91) rfl ?_
                refine Jiadd (show mx_Sn _ _ 92 (mx_iadd 93) from sn_115 92) ?_
                refine JiastI hx13 (show mx_Sn _ _ 93 (mx_iast 1 94) from sn_115 93) a42 s42 rfl (by omega) (fun Z31 h31 hx31 hE31 => ?_)
                have hG31 := GI_up hG13 hE31 (show (-2147483648) ≤ (Z13 42 w26_3) + 1 ∧ (Z13 42 w26_3) + 1 ≤ 2147483647 by omega) trivial rfl
                have m31 : AB Z31 42 19 0 ((w12_2 - 1) + 1) := ab_up hE31 f12_1 (by omega) (by omega) (by omega)
                refine Jiinc (z := w12_2) (cz := 1) (ls2 := [some (.ref 1), some (xI z7), some (xI (w12_2 + 1)), some (xI w26_3), some (xI w26_4)]) (show mx_Sn _ _ 94 (mx_iinc 2 1 97) from sn_115 94) rfl rfl rfl rfl ?_
                refine mx_J.step (sn_115 97) (fun _ _ => rfl) ?_
                exact ih12 (w12_2 + 1) (some (xI w26_3)) (some (xI w26_4)) Z31 h31 (by omega) (by omega) (ab_mono m31 (by omega) (by omega) (by omega)) hx31 hG31 (fr_tr (M := [(42, (-1))]) (fr_tr (M := [(42, (-1))]) fr_rf (hf13) (M1 := []) rfl rfl) (fr_ua hE31) rfl rfl)
              · skip
                refine mx_J.step (sn_115 55) (fun _ _ => rfl) ?_
                refine JgetR (g := 5) (b := 7) hx13 (show mx_Sn _ _ 56 (mx_getf 11 5 59) from sn_115 56) a1 s1 rfl rfl (hG13.prr 1 5 rfl) ?_
                refine mx_J.step (sn_115 59) (fun _ _ => rfl) ?_
                refine JgetR (g := 12) (b := 36) hx13 (show mx_Sn _ _ 60 (mx_getf 11 12 63) from sn_115 60) a1 s1 rfl rfl (hG13.prr 1 12 rfl) ?_
                refine JgetI (g := 2) (z := Z 36 2) hx13 (show mx_Sn _ _ 63 (mx_getf 5 2 66) from sn_115 63) a36 s36 rfl rfl ((hf13 36 2 rfl).trans (hf2 36 2 rfl)) ?_
                refine mx_J.step (sn_115 66) (fun _ _ => rfl) ?_
                have eq36 : Z13 9 ((Z 36 2) * 18 + w26_4) = Z 9 ((Z 36 2) * 18 + w26_4) := ((hf13 9 ((Z 36 2) * 18 + w26_4) rfl).trans (hf2 9 ((Z 36 2) * 18 + w26_4) rfl))
                have b37 : 0 ≤ Z 9 ((Z 36 2) * 18 + w26_4) ∧ Z 9 ((Z 36 2) * 18 + w26_4) ≤ 18 := hG.pr 9 ((Z 36 2) * 18 + w26_4)
                have eq38 : Z13 10 (Z 36 2) = Z 10 (Z 36 2) := ((hf13 10 (Z 36 2) rfl).trans (hf2 10 (Z 36 2) rfl))
                have eq39 : Z13 7 5 = Z 7 5 := ((hf13 7 5 rfl).trans (hf2 7 5 rfl))
                obtain ⟨z35, hc35, b35⟩ := ct_6_7 (d := d + 0) (l := l) (D := D) (b0 := b0) (ad := ad) (Hb := Hb) (tau := tau) hx13 hG13 (show (-2147483648) ≤ Z 36 2 ∧ Z 36 2 ≤ 2147483647 by omega) (show (-2147483648) ≤ w26_4 ∧ w26_4 ≤ 2147483647 by omega)
                try rw [eq36] at b35
                try rw [eq38] at b35
                try rw [eq39] at b35
                refine Jcv hx13 (show mx_Sn _ _ 68 (mx_callv 6 3 0 71) from sn_115 68) a7 s7 hc35 rfl rfl rfl ?_
                refine mx_J.step (sn_115 71) (fun _ _ => rfl) ?_
                have c78 : ∀ (w40_3 : Int), 0 ≤ w40_3 ∧ w40_3 ≤ 18 → w40_3 ≤ w26_4 + 1 → mx_J (tB l D b0 ad Hb tau) mt_115 (d + 2) 78 [some (.ref 1), some (xI z7), some (xI w12_2), some (xI w40_3), some (xI w26_4)] [] h13 Post := by
                  intro w40_3 f40_0 f40_1
                  refine Jiinc (z := w26_4) (cz := 1) (ls2 := [some (.ref 1), some (xI z7), some (xI w12_2), some (xI w40_3), some (xI (w26_4 + 1))]) (show mx_Sn _ _ 78 (mx_iinc 4 1 81) from sn_115 78) rfl rfl rfl rfl ?_
                  refine mx_J.step (sn_115 81) (fun _ _ => rfl) ?_
                  exact ih26 w40_3 (w26_4 + 1) (by omega) (by omega) (by omega) (by omega)
                refine Jicmp_lt (show mx_Sn _ _ 72 (mx_icmp_lt 78 75) from sn_115 72) (by omega) (by omega) (fun q41 => ?_) (fun q41 => ?_)
                · skip
                  exact c78 w26_3 (by omega) (by omega)
                · skip
                  refine Jiinc (z := w26_3) (cz := 1) (ls2 := [some (.ref 1), some (xI z7), some (xI w12_2), some (xI (w26_3 + 1)), some (xI w26_4)]) (show mx_Sn _ _ 75 (mx_iinc 3 1 78) from sn_115 75) rfl rfl rfl rfl ?_
                  exact c78 (w26_3 + 1) (by omega) (by omega)
          exact c49 (Int.toNat (18 - 0) + 1) 0 0 (by omega) (by omega) (by omega) (by omega)
    exact c25 (Int.toNat (19 - 1) + 1) 1 none none Z2 h2 (by omega) (by omega) (ab_mono m2_42 (by omega) (by omega) (by omega)) hx2 hG2 fr_rf
theorem ct_115_1 {l : Launch} {D : va_G} {b0 : Nat} {ad : Nat → Nat} {Hb : Heap} {tau : Nat → Int64} {d n s : Nat} {S : Nat → xS} {Z : xZ} {h : mx_H} (hx : XH n s S Z h) (hG : GI n S Z)   : ∃ (z : Int) (Z' : xZ) (h' : mx_H), mx_Ca (tB l D b0 ad Hb tau) (d + 3) 115 [.ref 1] h (some (xI z), h') ∧ XH n s S Z' h' ∧ GI n S Z' ∧ fr' [(42, (-1))] Z Z' ∧ (0 ≤ z ∧ z ≤ 384) := by
  obtain ⟨r, hca, z, Z', h', e, q⟩ := Jmt (B := tB l D b0 ad Hb tau) (M := mt_115) (mi := 115) (as := [.ref 1]) (d := d + 2) (ls := [some (.ref 1), none, none, none, none]) rfl rfl rfl rfl rfl rfl (cw_115_1 (l := l) (D := D) (b0 := b0) (ad := ad) (Hb := Hb) (tau := tau) (d := d) (Post := fun r => ∃ (z : Int) (Z' : xZ) (h' : mx_H), r = (some (xI z), h') ∧ XH n s S Z' h' ∧ GI n S Z' ∧ fr' [(42, (-1))] Z Z' ∧ (0 ≤ z ∧ z ≤ 384)) hx hG  (fun z Z' h' q1 q2 q3 q4 => ⟨z, Z', h', rfl, q1, q2, q3, q4⟩))
  subst e; exact ⟨z, Z', h', hca, q⟩
set_option maxRecDepth 100000 in
theorem cw_117_1 {l : Launch} {D : va_G} {b0 : Nat} {ad : Nat → Nat} {Hb : Heap} {tau : Nat → Int64} {d n s : Nat} {S : Nat → xS} {Z : xZ} {h : mx_H} {Post : mx_R → Prop} (hx : XH n s S Z h) (hG : GI n S Z)   (hP : ∀ z : Int, (-2147483648) ≤ z ∧ z ≤ 2147483647 → Post (some (xI z), h)) : mx_J (tB l D b0 ad Hb tau) mt_117 (d + 3) 0 [some (.ref 1), none, none] [] h Post := by
    have a1 : 1 < n := lt83 (GI_n hG) rfl
    have s1 : S 1 = .inl (11, [2, 0, 0, 0, 2, 2, 2, 2, 2, 2, 2, 2, 2, 2, 2, 2, 2]) := GI_s hG 1 rfl
    have a7 : 7 < n := lt83 (GI_n hG) rfl
    have s7 : S 7 = .inl (0, [2, 2, 2, 2, 0, 0]) := GI_s hG 7 rfl
    have a36 : 36 < n := lt83 (GI_n hG) rfl
    have s36 : S 36 = .inl (5, [2, 0, 0, 0, 0, 0]) := GI_s hG 36 rfl
    refine JcI (z := 0) (show mx_Sn _ _ 0 (mx_const (.int 0) 1) from sn_117 0) rfl ?_
    refine mx_J.step (ls2 := [some (.ref 1), some (xI 0), none]) (sn_117 1) (fun _ _ => rfl) ?_
    refine JcI (z := 0) (show mx_Sn _ _ 2 (mx_const (.int 0) 3) from sn_117 2) rfl ?_
    refine mx_J.step (ls2 := [some (.ref 1), some (xI 0), some (xI 0)]) (sn_117 3) (fun _ _ => rfl) ?_
    have c4 : ∀ (m1 : Nat) (w1_1 : Int) (w1_2 : Int), 385 - w1_2 < (m1 : Int) → (-2147483648) ≤ w1_1 ∧ w1_1 ≤ 2147483647 → 0 ≤ w1_2 ∧ w1_2 ≤ 385 → mx_J (tB l D b0 ad Hb tau) mt_117 (d + 3) 4 [some (.ref 1), some (xI w1_1), some (xI w1_2)] [] h Post := by
      intro m1
      induction m1 with
      | zero => intro w1_1 w1_2 q1 f1_0 f1_1; exact absurd q1 (by omega)
      | succ m1 ih1 =>
        intro w1_1 w1_2 q1 f1_0 f1_1
        refine mx_J.step (sn_117 4) (fun _ _ => rfl) ?_
        refine mx_J.step (sn_117 5) (fun _ _ => rfl) ?_
        refine JgetR (g := 5) (b := 7) hx (show mx_Sn _ _ 6 (mx_getf 11 5 9) from sn_117 6) a1 s1 rfl rfl (hG.prr 1 5 rfl) ?_
        have b4 : 0 ≤ Z 7 5 ∧ Z 7 5 ≤ 385 := hG.pr 7 5
        refine JgetI (g := 5) (z := Z 7 5) hx (show mx_Sn _ _ 9 (mx_getf 0 5 12) from sn_117 9) a7 s7 rfl rfl rfl ?_
        refine Jicmp_ge (show mx_Sn _ _ 12 (mx_icmp_ge 42 15) from sn_117 12) (by omega) (by omega) (fun q5 => ?_) (fun q5 => ?_)
        · skip
          refine mx_J.step (sn_117 42) (fun _ _ => rfl) ?_
          exact mx_J.ret (sn_117 43) (fun _ _ => rfl) (hP w1_1 (by omega))
        · skip
          refine mx_J.step (sn_117 15) (fun _ _ => rfl) ?_
          refine JgetR (g := 5) (b := 7) hx (show mx_Sn _ _ 16 (mx_getf 11 5 19) from sn_117 16) a1 s1 rfl rfl (hG.prr 1 5 rfl) ?_
          refine mx_J.step (sn_117 19) (fun _ _ => rfl) ?_
          refine mx_J.step (sn_117 20) (fun _ _ => rfl) ?_
          refine JgetR (g := 12) (b := 36) hx (show mx_Sn _ _ 21 (mx_getf 11 12 24) from sn_117 21) a1 s1 rfl rfl (hG.prr 1 12 rfl) ?_
          have b9 : 0 ≤ Z 36 2 ∧ Z 36 2 ≤ 384 := hG.pr 36 2
          refine JgetI (g := 2) (z := Z 36 2) hx (show mx_Sn _ _ 24 (mx_getf 5 2 27) from sn_117 24) a36 s36 rfl rfl rfl ?_
          obtain ⟨z10, hc10, b10⟩ := ct_10_7 (d := d + 0) (l := l) (D := D) (b0 := b0) (ad := ad) (Hb := Hb) (tau := tau) hx hG (show (-2147483648) ≤ w1_2 ∧ w1_2 ≤ 2147483647 by omega) (show (-2147483648) ≤ Z 36 2 ∧ Z 36 2 ≤ 2147483647 by omega)
          refine Jcv hx (show mx_Sn _ _ 27 (mx_callv 10 3 0 30) from sn_117 27) a7 s7 hc10 rfl rfl rfl ?_
          have c36 : ∀ (w11_1 : Int), (-2147483648) ≤ w11_1 ∧ w11_1 ≤ 2147483647 → mx_J (tB l D b0 ad Hb tau) mt_117 (d + 3) 36 [some (.ref 1), some (xI w11_1), some (xI w1_2)] [] h Post := by
            intro w11_1 f11_0
            refine Jiinc (z := w1_2) (cz := 1) (ls2 := [some (.ref 1), some (xI w11_1), some (xI (w1_2 + 1))]) (show mx_Sn _ _ 36 (mx_iinc 2 1 39) from sn_117 36) rfl rfl rfl rfl ?_
            refine mx_J.step (sn_117 39) (fun _ _ => rfl) ?_
            exact ih1 w11_1 (w1_2 + 1) (by omega) (by omega) (by omega)
          refine Jif_eq (show mx_Sn _ _ 30 (mx_if_eq 36 33) from sn_117 30) (by omega) (fun q12 => ?_) (fun q12 => ?_)
          · skip
            exact c36 w1_1 (by omega)
          · skip
            refine JiincN (z := w1_1) (cz := 1) (show mx_Sn _ _ 33 (mx_iinc 1 1 36) from sn_117 33) rfl rfl rfl (fun y13 hy13 hq13 => ?_)
            show mx_J _ _ _ _ [some (.ref 1), some (xI y13), some (xI w1_2)] _ _ _
            exact c36 y13 (by omega)
    exact c4 (Int.toNat (385 - 0) + 1) 0 0 (by omega) (by omega) (by omega)
theorem ct_117_1 {l : Launch} {D : va_G} {b0 : Nat} {ad : Nat → Nat} {Hb : Heap} {tau : Nat → Int64} {d n s : Nat} {S : Nat → xS} {Z : xZ} {h : mx_H} (hx : XH n s S Z h) (hG : GI n S Z)   : ∃ z : Int, mx_Ca (tB l D b0 ad Hb tau) (d + 4) 117 [.ref 1] h (some (xI z), h) ∧ ((-2147483648) ≤ z ∧ z ≤ 2147483647) := by
  obtain ⟨r, hca, z, e, hp⟩ := Jmt (B := tB l D b0 ad Hb tau) (M := mt_117) (mi := 117) (as := [.ref 1]) (d := d + 3) (ls := [some (.ref 1), none, none]) rfl rfl rfl rfl rfl rfl (cw_117_1 (l := l) (D := D) (b0 := b0) (ad := ad) (Hb := Hb) (tau := tau) (d := d) (Post := fun r => ∃ z : Int, r = (some (xI z), h) ∧ ((-2147483648) ≤ z ∧ z ≤ 2147483647)) hx hG  (fun z hz => ⟨z, rfl, hz⟩))
  subst e; exact ⟨z, hca, hp⟩
set_option maxRecDepth 100000 in
theorem cw_123_1 {l : Launch} {D : va_G} {b0 : Nat} {ad : Nat → Nat} {Hb : Heap} {tau : Nat → Int64} {d n s : Nat} {S : Nat → xS} {Z : xZ} {h : mx_H} {Post : mx_R → Prop} (hx : XH n s S Z h) (hG : GI n S Z)  {x0 : Int} (p0 : (-2147483648) ≤ x0 ∧ x0 ≤ 2147483647) (hP : ∀ (z : Int) (Z' : xZ) (h' : mx_H), XH n s S Z' h' → GI n S Z' → fr' [(14, (-1)), (16, (-1)), (17, (-1)), (18, (-1)), (19, (-1)), (30, (-1)), (31, (-1))] Z Z' → (-2147483648) ≤ z ∧ z ≤ 2147483647 → Post (some (xI z), h')) : mx_J (tB l D b0 ad Hb tau) mt_123 (d + 6) 0 [some (.ref 1), some (xI x0)] [] h Post := by
    have a1 : 1 < n := lt83 (GI_n hG) rfl
    have s1 : S 1 = .inl (11, [2, 0, 0, 0, 2, 2, 2, 2, 2, 2, 2, 2, 2, 2, 2, 2, 2]) := GI_s hG 1 rfl
    have a25 : 25 < n := lt83 (GI_n hG) rfl
    have s25 : S 25 = .inl (8, [2, 2, 2, 2, 2, 2, 2, 2, 0]) := GI_s hG 25 rfl
    have a36 : 36 < n := lt83 (GI_n hG) rfl
    have s36 : S 36 = .inl (5, [2, 0, 0, 0, 0, 0]) := GI_s hG 36 rfl
    refine mx_J.step (sn_123 0) (fun _ _ => rfl) ?_
    refine JcI (z := 1) (show mx_Sn _ _ 1 (mx_const (.int 1) 2) from sn_123 1) rfl ?_
    have c11 : mx_J (tB l D b0 ad Hb tau) mt_123 (d + 6) 11 [some (.ref 1), some (xI x0)] [] h Post := by
      refine JcI (z := (-3)) (show mx_Sn _ _ 11 (mx_const (.int (-3)) 13) from sn_123 11) rfl ?_
      exact mx_J.ret (sn_123 13) (fun _ _ => rfl) (hP (-3) Z h hx hG fr_rf (by omega))
    refine Jicmp_lt (show mx_Sn _ _ 2 (mx_icmp_lt 11 5) from sn_123 2) (by omega) (by omega) (fun q2 => ?_) (fun q2 => ?_)
    · skip
      exact c11 
    · skip
      refine mx_J.step (sn_123 5) (fun _ _ => rfl) ?_
      refine JcI (z := 18) (show mx_Sn _ _ 6 (mx_const (.int 18) 8) from sn_123 6) rfl ?_
      refine Jicmp_le (show mx_Sn _ _ 8 (mx_icmp_le 14 11) from sn_123 8) (by omega) (by omega) (fun q3 => ?_) (fun q3 => ?_)
      · skip
        refine mx_J.step (sn_123 14) (fun _ _ => rfl) ?_
        refine JgetR (g := 8) (b := 25) hx (show mx_Sn _ _ 15 (mx_getf 11 8 18) from sn_123 15) a1 s1 rfl rfl (hG.prr 1 8 rfl) ?_
        refine mx_J.step (sn_123 18) (fun _ _ => rfl) ?_
        refine JgetR (g := 12) (b := 36) hx (show mx_Sn _ _ 19 (mx_getf 11 12 22) from sn_123 19) a1 s1 rfl rfl (hG.prr 1 12 rfl) ?_
        have b7 : 0 ≤ Z 36 2 ∧ Z 36 2 ≤ 384 := hG.pr 36 2
        refine JgetI (g := 2) (z := Z 36 2) hx (show mx_Sn _ _ 22 (mx_getf 5 2 25) from sn_123 22) a36 s36 rfl rfl rfl ?_
        refine mx_J.step (sn_123 25) (fun _ _ => rfl) ?_
        obtain ⟨z8, Z8, h8, hc8, hx8, hG8, hf8, b8⟩ := ct_67_25 (d := d + 0) (l := l) (D := D) (b0 := b0) (ad := ad) (Hb := Hb) (tau := tau) hx hG (show 0 ≤ Z 36 2 ∧ Z 36 2 ≤ 384 by omega) (show 1 ≤ x0 ∧ x0 ≤ 18 by omega)
        refine Jcv hx (show mx_Sn _ _ 26 (mx_callv 67 3 8 29) from sn_123 26) a25 s25 hc8 rfl rfl rfl ?_
        exact mx_J.ret (sn_123 29) (fun _ _ => rfl) (hP z8 Z8 h8 hx8 hG8 (fr_tr (M := [(14, (-1)), (16, (-1)), (17, (-1)), (18, (-1)), (19, (-1)), (30, (-1)), (31, (-1))]) fr_rf (hf8) (M1 := []) rfl rfl) (by omega))
      · skip
        exact c11 
theorem ct_123_1 {l : Launch} {D : va_G} {b0 : Nat} {ad : Nat → Nat} {Hb : Heap} {tau : Nat → Int64} {d n s : Nat} {S : Nat → xS} {Z : xZ} {h : mx_H} (hx : XH n s S Z h) (hG : GI n S Z)  {x0 : Int} (p0 : (-2147483648) ≤ x0 ∧ x0 ≤ 2147483647) : ∃ (z : Int) (Z' : xZ) (h' : mx_H), mx_Ca (tB l D b0 ad Hb tau) (d + 7) 123 [.ref 1, xI x0] h (some (xI z), h') ∧ XH n s S Z' h' ∧ GI n S Z' ∧ fr' [(14, (-1)), (16, (-1)), (17, (-1)), (18, (-1)), (19, (-1)), (30, (-1)), (31, (-1))] Z Z' ∧ ((-2147483648) ≤ z ∧ z ≤ 2147483647) := by
  obtain ⟨r, hca, z, Z', h', e, q⟩ := Jmt (B := tB l D b0 ad Hb tau) (M := mt_123) (mi := 123) (as := [.ref 1, xI x0]) (d := d + 6) (ls := [some (.ref 1), some (xI x0)]) rfl rfl rfl rfl rfl rfl (cw_123_1 (l := l) (D := D) (b0 := b0) (ad := ad) (Hb := Hb) (tau := tau) (d := d) (Post := fun r => ∃ (z : Int) (Z' : xZ) (h' : mx_H), r = (some (xI z), h') ∧ XH n s S Z' h' ∧ GI n S Z' ∧ fr' [(14, (-1)), (16, (-1)), (17, (-1)), (18, (-1)), (19, (-1)), (30, (-1)), (31, (-1))] Z Z' ∧ ((-2147483648) ≤ z ∧ z ≤ 2147483647)) hx hG p0 (fun z Z' h' q1 q2 q3 q4 => ⟨z, Z', h', rfl, q1, q2, q3, q4⟩))
  subst e; exact ⟨z, Z', h', hca, q⟩
set_option maxRecDepth 100000 in
theorem cw_124_1 {l : Launch} {D : va_G} {b0 : Nat} {ad : Nat → Nat} {Hb : Heap} {tau : Nat → Int64} {d n s : Nat} {S : Nat → xS} {Z : xZ} {h : mx_H} {Post : mx_R → Prop} (hx : XH n s S Z h) (hG : GI n S Z)  {x0 : Int} (p0 : (-2147483648) ≤ x0 ∧ x0 ≤ 2147483647) (hP : ∀ (z : Int) (Z' : xZ) (h' : mx_H), XH n s S Z' h' → GI n S Z' → fr' [(14, (-1)), (16, (-1)), (17, (-1)), (18, (-1)), (19, (-1)), (30, (-1)), (31, (-1))] Z Z' → (-3) ≤ z ∧ z ≤ 18 → Post (some (xI z), h')) : mx_J (tB l D b0 ad Hb tau) mt_124 (d + 6) 0 [some (.ref 1), some (xI x0), none] [] h Post := by
    have a1 : 1 < n := lt83 (GI_n hG) rfl
    have s1 : S 1 = .inl (11, [2, 0, 0, 0, 2, 2, 2, 2, 2, 2, 2, 2, 2, 2, 2, 2, 2]) := GI_s hG 1 rfl
    have a25 : 25 < n := lt83 (GI_n hG) rfl
    have s25 : S 25 = .inl (8, [2, 2, 2, 2, 2, 2, 2, 2, 0]) := GI_s hG 25 rfl
    have a36 : 36 < n := lt83 (GI_n hG) rfl
    have s36 : S 36 = .inl (5, [2, 0, 0, 0, 0, 0]) := GI_s hG 36 rfl
    refine mx_J.step (sn_124 0) (fun _ _ => rfl) ?_
    refine JcI (z := 1) (show mx_Sn _ _ 1 (mx_const (.int 1) 2) from sn_124 1) rfl ?_
    have c11 : mx_J (tB l D b0 ad Hb tau) mt_124 (d + 6) 11 [some (.ref 1), some (xI x0), none] [] h Post := by
      refine JcI (z := (-3)) (show mx_Sn _ _ 11 (mx_const (.int (-3)) 13) from sn_124 11) rfl ?_
      exact mx_J.ret (sn_124 13) (fun _ _ => rfl) (hP (-3) Z h hx hG fr_rf (by omega))
    refine Jicmp_lt (show mx_Sn _ _ 2 (mx_icmp_lt 11 5) from sn_124 2) (by omega) (by omega) (fun q2 => ?_) (fun q2 => ?_)
    · skip
      exact c11 
    · skip
      refine mx_J.step (sn_124 5) (fun _ _ => rfl) ?_
      refine JcI (z := 18) (show mx_Sn _ _ 6 (mx_const (.int 18) 8) from sn_124 6) rfl ?_
      refine Jicmp_le (show mx_Sn _ _ 8 (mx_icmp_le 14 11) from sn_124 8) (by omega) (by omega) (fun q3 => ?_) (fun q3 => ?_)
      · skip
        refine mx_J.step (sn_124 14) (fun _ _ => rfl) ?_
        refine JgetR (g := 8) (b := 25) hx (show mx_Sn _ _ 15 (mx_getf 11 8 18) from sn_124 15) a1 s1 rfl rfl (hG.prr 1 8 rfl) ?_
        refine mx_J.step (sn_124 18) (fun _ _ => rfl) ?_
        refine JgetR (g := 12) (b := 36) hx (show mx_Sn _ _ 19 (mx_getf 11 12 22) from sn_124 19) a1 s1 rfl rfl (hG.prr 1 12 rfl) ?_
        have b7 : 0 ≤ Z 36 2 ∧ Z 36 2 ≤ 384 := hG.pr 36 2
        refine JgetI (g := 2) (z := Z 36 2) hx (show mx_Sn _ _ 22 (mx_getf 5 2 25) from sn_124 22) a36 s36 rfl rfl rfl ?_
        refine mx_J.step (sn_124 25) (fun _ _ => rfl) ?_
        obtain ⟨z8, Z8, h8, hc8, hx8, hG8, hf8, b8⟩ := ct_67_25 (d := d + 0) (l := l) (D := D) (b0 := b0) (ad := ad) (Hb := Hb) (tau := tau) hx hG (show 0 ≤ Z 36 2 ∧ Z 36 2 ≤ 384 by omega) (show 1 ≤ x0 ∧ x0 ≤ 18 by omega)
        refine Jcv hx (show mx_Sn _ _ 26 (mx_callv 67 3 8 29) from sn_124 26) a25 s25 hc8 rfl rfl rfl ?_
        refine mx_J.step (ls2 := [some (.ref 1), some (xI x0), some (xI z8)]) (sn_124 29) (fun _ _ => rfl) ?_
        refine mx_J.step (sn_124 30) (fun _ _ => rfl) ?_
        refine JcI (z := 1) (show mx_Sn _ _ 31 (mx_const (.int 1) 32) from sn_124 31) rfl ?_
        have c54 : ∀ (k9_0 : Int) (Z10 : xZ) (h10 : mx_H), (-1) ≤ k9_0 ∧ k9_0 ≤ 18 → XH n s S Z10 h10 → GI n S Z10 → fr' [(14, (-1)), (16, (-1)), (17, (-1)), (18, (-1)), (19, (-1))] Z8 Z10 → mx_J (tB l D b0 ad Hb tau) mt_124 (d + 6) 54 [some (.ref 1), some (xI x0), some (xI z8)] [xI k9_0] h10 Post := by
          intro k9_0 Z10 h10 f9_0 hx10 hG10 hf10
          exact mx_J.ret (sn_124 54) (fun _ _ => rfl) (hP k9_0 Z10 h10 hx10 hG10 (fr_tr (M := [(14, (-1)), (16, (-1)), (17, (-1)), (18, (-1)), (19, (-1)), (30, (-1)), (31, (-1))]) (fr_tr (M := [(14, (-1)), (16, (-1)), (17, (-1)), (18, (-1)), (19, (-1)), (30, (-1)), (31, (-1))]) fr_rf (hf8) (M1 := []) rfl rfl) (hf10) rfl rfl) (by omega))
        refine Jicmp_ge (show mx_Sn _ _ 32 (mx_icmp_ge 39 35) from sn_124 32) (by omega) (by omega) (fun q11 => ?_) (fun q11 => ?_)
        · skip
          refine mx_J.step (sn_124 39) (fun _ _ => rfl) ?_
          refine JgetR (g := 8) (b := 25) hx8 (show mx_Sn _ _ 40 (mx_getf 11 8 43) from sn_124 40) a1 s1 rfl rfl (hG8.prr 1 8 rfl) ?_
          refine mx_J.step (sn_124 43) (fun _ _ => rfl) ?_
          refine JgetR (g := 12) (b := 36) hx8 (show mx_Sn _ _ 44 (mx_getf 11 12 47) from sn_124 44) a1 s1 rfl rfl (hG8.prr 1 12 rfl) ?_
          refine JgetI (g := 2) (z := Z 36 2) hx8 (show mx_Sn _ _ 47 (mx_getf 5 2 50) from sn_124 47) a36 s36 rfl rfl (hf8 36 2 rfl) ?_
          refine mx_J.step (sn_124 50) (fun _ _ => rfl) ?_
          obtain ⟨z15, Z15, h15, hc15, hx15, hG15, hf15, b15⟩ := ct_68_25 (d := d + 1) (l := l) (D := D) (b0 := b0) (ad := ad) (Hb := Hb) (tau := tau) hx8 hG8 (show (-2147483648) ≤ Z 36 2 ∧ Z 36 2 ≤ 2147483647 by omega) (show (-2147483648) ≤ z8 ∧ z8 ≤ 2147483647 by omega)
          refine Jcv hx8 (show mx_Sn _ _ 51 (mx_callv 68 3 8 54) from sn_124 51) a25 s25 hc15 rfl rfl rfl ?_
          exact c54 z15 Z15 h15 (by omega) hx15 hG15 (fr_tr (M := [(14, (-1)), (16, (-1)), (17, (-1)), (18, (-1)), (19, (-1))]) fr_rf (hf15) (M1 := []) rfl rfl)
        · skip
          refine JcI (z := (-1)) (show mx_Sn _ _ 35 (mx_const (.int (-1)) 36) from sn_124 35) rfl ?_
          refine mx_J.step (sn_124 36) (fun _ _ => rfl) ?_
          exact c54 (-1) Z8 h8 (by omega) hx8 hG8 fr_rf
      · skip
        exact c11 
theorem ct_124_1 {l : Launch} {D : va_G} {b0 : Nat} {ad : Nat → Nat} {Hb : Heap} {tau : Nat → Int64} {d n s : Nat} {S : Nat → xS} {Z : xZ} {h : mx_H} (hx : XH n s S Z h) (hG : GI n S Z)  {x0 : Int} (p0 : (-2147483648) ≤ x0 ∧ x0 ≤ 2147483647) : ∃ (z : Int) (Z' : xZ) (h' : mx_H), mx_Ca (tB l D b0 ad Hb tau) (d + 7) 124 [.ref 1, xI x0] h (some (xI z), h') ∧ XH n s S Z' h' ∧ GI n S Z' ∧ fr' [(14, (-1)), (16, (-1)), (17, (-1)), (18, (-1)), (19, (-1)), (30, (-1)), (31, (-1))] Z Z' ∧ ((-3) ≤ z ∧ z ≤ 18) := by
  obtain ⟨r, hca, z, Z', h', e, q⟩ := Jmt (B := tB l D b0 ad Hb tau) (M := mt_124) (mi := 124) (as := [.ref 1, xI x0]) (d := d + 6) (ls := [some (.ref 1), some (xI x0), none]) rfl rfl rfl rfl rfl rfl (cw_124_1 (l := l) (D := D) (b0 := b0) (ad := ad) (Hb := Hb) (tau := tau) (d := d) (Post := fun r => ∃ (z : Int) (Z' : xZ) (h' : mx_H), r = (some (xI z), h') ∧ XH n s S Z' h' ∧ GI n S Z' ∧ fr' [(14, (-1)), (16, (-1)), (17, (-1)), (18, (-1)), (19, (-1)), (30, (-1)), (31, (-1))] Z Z' ∧ ((-3) ≤ z ∧ z ≤ 18)) hx hG p0 (fun z Z' h' q1 q2 q3 q4 => ⟨z, Z', h', rfl, q1, q2, q3, q4⟩))
  subst e; exact ⟨z, Z', h', hca, q⟩
set_option maxRecDepth 100000 in
theorem cw_125_1 {l : Launch} {D : va_G} {b0 : Nat} {ad : Nat → Nat} {Hb : Heap} {tau : Nat → Int64} {d n s : Nat} {S : Nat → xS} {Z : xZ} {h : mx_H} {Post : mx_R → Prop} (hx : XH n s S Z h) (hG : GI n S Z)  {x0 : Int} (p0 : (-2147483648) ≤ x0 ∧ x0 ≤ 2147483647) (hP : ∀ z : Int, (-2147483648) ≤ z ∧ z ≤ 2147483647 → Post (some (xI z), h)) : mx_J (tB l D b0 ad Hb tau) mt_125 (d + 2) 0 [some (.ref 1), some (xI x0), none, none, none, none] [] h Post := by
    have a1 : 1 < n := lt83 (GI_n hG) rfl
    have s1 : S 1 = .inl (11, [2, 0, 0, 0, 2, 2, 2, 2, 2, 2, 2, 2, 2, 2, 2, 2, 2]) := GI_s hG 1 rfl
    have a7 : 7 < n := lt83 (GI_n hG) rfl
    have s7 : S 7 = .inl (0, [2, 2, 2, 2, 0, 0]) := GI_s hG 7 rfl
    have a36 : 36 < n := lt83 (GI_n hG) rfl
    have s36 : S 36 = .inl (5, [2, 0, 0, 0, 0, 0]) := GI_s hG 36 rfl
    refine mx_J.step (sn_125 0) (fun _ _ => rfl) ?_
    have c9 : mx_J (tB l D b0 ad Hb tau) mt_125 (d + 2) 9 [some (.ref 1), some (xI x0), none, none, none, none] [] h Post := by
      refine JcI (z := (-2)) (show mx_Sn _ _ 9 (mx_const (.int (-2)) 11) from sn_125 9) rfl ?_
      exact mx_J.ret (sn_125 11) (fun _ _ => rfl) (hP (-2) (by omega))
    refine Jif_lt (show mx_Sn _ _ 1 (mx_if_lt 9 4) from sn_125 1) (by omega) (fun q2 => ?_) (fun q2 => ?_)
    · skip
      exact c9 
    · skip
      refine mx_J.step (sn_125 4) (fun _ _ => rfl) ?_
      refine JcI (z := 1) (show mx_Sn _ _ 5 (mx_const (.int 1) 6) from sn_125 5) rfl ?_
      refine Jicmp_le (show mx_Sn _ _ 6 (mx_icmp_le 12 9) from sn_125 6) (by omega) (by omega) (fun q3 => ?_) (fun q3 => ?_)
      · skip
        refine mx_J.step (sn_125 12) (fun _ _ => rfl) ?_
        refine JgetR (g := 5) (b := 7) hx (show mx_Sn _ _ 13 (mx_getf 11 5 16) from sn_125 13) a1 s1 rfl rfl (hG.prr 1 5 rfl) ?_
        refine mx_J.step (sn_125 16) (fun _ _ => rfl) ?_
        refine JgetR (g := 12) (b := 36) hx (show mx_Sn _ _ 17 (mx_getf 11 12 20) from sn_125 17) a1 s1 rfl rfl (hG.prr 1 12 rfl) ?_
        have b7 : 0 ≤ Z 36 2 ∧ Z 36 2 ≤ 384 := hG.pr 36 2
        refine JgetI (g := 2) (z := Z 36 2) hx (show mx_Sn _ _ 20 (mx_getf 5 2 23) from sn_125 20) a36 s36 rfl rfl rfl ?_
        have b9 : 0 ≤ Z 7 5 ∧ Z 7 5 ≤ 385 := hG.pr 7 5
        have b10 : 0 ≤ Z 10 (Z 36 2) ∧ Z 10 (Z 36 2) ≤ 18 := hG.pr 10 (Z 36 2)
        obtain ⟨z8, hc8, b8⟩ := ct_5_7 (d := d + 1) (l := l) (D := D) (b0 := b0) (ad := ad) (Hb := Hb) (tau := tau) hx hG (show (-2147483648) ≤ Z 36 2 ∧ Z 36 2 ≤ 2147483647 by omega)
        refine Jcv hx (show mx_Sn _ _ 23 (mx_callv 5 2 0 26) from sn_125 23) a7 s7 hc8 rfl rfl rfl ?_
        refine mx_J.step (ls2 := [some (.ref 1), some (xI x0), some (xI z8), none, none, none]) (sn_125 26) (fun _ _ => rfl) ?_
        refine JcI (z := 0) (show mx_Sn _ _ 27 (mx_const (.int 0) 28) from sn_125 27) rfl ?_
        refine mx_J.step (ls2 := [some (.ref 1), some (xI x0), some (xI z8), some (xI 0), none, none]) (sn_125 28) (fun _ _ => rfl) ?_
        refine JcI (z := 0) (show mx_Sn _ _ 29 (mx_const (.int 0) 30) from sn_125 29) rfl ?_
        refine mx_J.step (ls2 := [some (.ref 1), some (xI x0), some (xI z8), some (xI 0), some (xI 0), none]) (sn_125 30) (fun _ _ => rfl) ?_
        have c32 : ∀ (m11 : Nat) (w11_3 : Int) (w11_4 : Int), 18 - w11_4 < (m11 : Int) → (-2147483648) ≤ w11_3 ∧ w11_3 ≤ 2147483647 → 0 ≤ w11_4 ∧ w11_4 ≤ 18 → mx_J (tB l D b0 ad Hb tau) mt_125 (d + 2) 32 [some (.ref 1), some (xI x0), some (xI z8), some (xI w11_3), some (xI w11_4), none] [] h Post := by
          intro m11
          induction m11 with
          | zero => intro w11_3 w11_4 q11 f11_0 f11_1; exact absurd q11 (by omega)
          | succ m11 ih11 =>
            intro w11_3 w11_4 q11 f11_0 f11_1
            refine mx_J.step (sn_125 32) (fun _ _ => rfl) ?_
            refine mx_J.step (sn_125 34) (fun _ _ => rfl) ?_
            refine Jicmp_ge (show mx_Sn _ _ 35 (mx_icmp_ge 63 38) from sn_125 35) (by omega) (by omega) (fun q12 => ?_) (fun q12 => ?_)
            · skip
              refine JcI (z := 0) (show mx_Sn _ _ 63 (mx_const (.int 0) 64) from sn_125 63) rfl ?_
              refine mx_J.step (ls2 := [some (.ref 1), some (xI x0), some (xI z8), some (xI w11_3), some (xI 0), none]) (sn_125 64) (fun _ _ => rfl) ?_
              have c66 : ∀ (m13 : Nat) (w13_4 : Int) (u13_5 : Option Value), 18 - w13_4 < (m13 : Int) → 0 ≤ w13_4 ∧ w13_4 ≤ 18 → mx_J (tB l D b0 ad Hb tau) mt_125 (d + 2) 66 [some (.ref 1), some (xI x0), some (xI z8), some (xI w11_3), some (xI w13_4), u13_5] [] h Post := by
                intro m13
                induction m13 with
                | zero => intro w13_4 u13_5 q13 f13_0; exact absurd q13 (by omega)
                | succ m13 ih13 =>
                  intro w13_4 u13_5 q13 f13_0
                  refine mx_J.step (sn_125 66) (fun _ _ => rfl) ?_
                  refine mx_J.step (sn_125 68) (fun _ _ => rfl) ?_
                  refine Jicmp_ge (show mx_Sn _ _ 69 (mx_icmp_ge 122 72) from sn_125 69) (by omega) (by omega) (fun q14 => ?_) (fun q14 => ?_)
                  · skip
                    refine JcI (z := (-1)) (show mx_Sn _ _ 122 (mx_const (.int (-1)) 123) from sn_125 122) rfl ?_
                    exact mx_J.ret (sn_125 123) (fun _ _ => rfl) (hP (-1) (by omega))
                  · skip
                    refine mx_J.step (sn_125 72) (fun _ _ => rfl) ?_
                    refine JgetR (g := 5) (b := 7) hx (show mx_Sn _ _ 73 (mx_getf 11 5 76) from sn_125 73) a1 s1 rfl rfl (hG.prr 1 5 rfl) ?_
                    refine mx_J.step (sn_125 76) (fun _ _ => rfl) ?_
                    refine JgetR (g := 12) (b := 36) hx (show mx_Sn _ _ 77 (mx_getf 11 12 80) from sn_125 77) a1 s1 rfl rfl (hG.prr 1 12 rfl) ?_
                    refine JgetI (g := 2) (z := Z 36 2) hx (show mx_Sn _ _ 80 (mx_getf 5 2 83) from sn_125 80) a36 s36 rfl rfl rfl ?_
                    refine mx_J.step (sn_125 83) (fun _ _ => rfl) ?_
                    have b19 : 0 ≤ Z 9 ((Z 36 2) * 18 + w13_4) ∧ Z 9 ((Z 36 2) * 18 + w13_4) ≤ 18 := hG.pr 9 ((Z 36 2) * 18 + w13_4)
                    obtain ⟨z18, hc18, b18⟩ := ct_6_7 (d := d + 0) (l := l) (D := D) (b0 := b0) (ad := ad) (Hb := Hb) (tau := tau) hx hG (show (-2147483648) ≤ Z 36 2 ∧ Z 36 2 ≤ 2147483647 by omega) (show (-2147483648) ≤ w13_4 ∧ w13_4 ≤ 2147483647 by omega)
                    refine Jcv hx (show mx_Sn _ _ 85 (mx_callv 6 3 0 88) from sn_125 85) a7 s7 hc18 rfl rfl rfl ?_
                    refine mx_J.step (ls2 := [some (.ref 1), some (xI x0), some (xI z8), some (xI w11_3), some (xI w13_4), some (xI z18)]) (sn_125 88) (fun _ _ => rfl) ?_
                    refine mx_J.step (sn_125 90) (fun _ _ => rfl) ?_
                    refine mx_J.step (sn_125 92) (fun _ _ => rfl) ?_
                    refine JixorX (show mx_Sn _ _ 93 (mx_ixor 94) from sn_125 93) (fun y20 hy20 => ?_)
                    refine mx_J.step (sn_125 94) (fun _ _ => rfl) ?_
                    refine Jicmp_ge (show mx_Sn _ _ 96 (mx_icmp_ge 116 99) from sn_125 96) (by omega) (by omega) (fun q21 => ?_) (fun q21 => ?_)
                    · skip
                      refine Jiinc (z := w13_4) (cz := 1) (ls2 := [some (.ref 1), some (xI x0), some (xI z8), some (xI w11_3), some (xI (w13_4 + 1)), some (xI z18)]) (show mx_Sn _ _ 116 (mx_iinc 4 1 119) from sn_125 116) rfl rfl rfl rfl ?_
                      refine mx_J.step (sn_125 119) (fun _ _ => rfl) ?_
                      exact ih13 (w13_4 + 1) (some (xI z18)) (by omega) (by omega)
                    · skip
                      refine mx_J.step (sn_125 99) (fun _ _ => rfl) ?_
                      have c115 : ∀ (k22_0 : Int), (-2147483648) ≤ k22_0 ∧ k22_0 ≤ 2147483647 → mx_J (tB l D b0 ad Hb tau) mt_125 (d + 2) 115 [some (.ref 1), some (xI x0), some (xI z8), some (xI w11_3), some (xI w13_4), some (xI z18)] [xI k22_0] h Post := by
                        intro k22_0 f22_0
                        exact mx_J.ret (sn_125 115) (fun _ _ => rfl) (hP k22_0 (by omega))
                      refine Jif_ne (show mx_Sn _ _ 100 (mx_if_ne 108 103) from sn_125 100) (by omega) (fun q23 => ?_) (fun q23 => ?_)
                      · skip
                        refine mx_J.step (sn_125 108) (fun _ _ => rfl) ?_
                        refine mx_J.step (sn_125 110) (fun _ _ => rfl) ?_
                        refine mx_J.step (sn_125 112) (fun _ _ => rfl) ?_
                        refine JixorX (show mx_Sn _ _ 113 (mx_ixor 114) from sn_125 113) (fun y24 hy24 => ?_)
                        refine JisubN (show mx_Sn _ _ 114 (mx_isub 115) from sn_125 114) (fun y25 hy25 hq25 => ?_)
                        exact c115 y25 (by omega)
                      · skip
                        refine mx_J.step (sn_125 103) (fun _ _ => rfl) ?_
                        refine mx_J.step (sn_125 105) (fun _ _ => rfl) ?_
                        exact c115 w13_4 (by omega)
              exact c66 (Int.toNat (18 - 0) + 1) 0 none (by omega) (by omega)
            · skip
              refine mx_J.step (sn_125 38) (fun _ _ => rfl) ?_
              refine mx_J.step (sn_125 39) (fun _ _ => rfl) ?_
              refine JgetR (g := 5) (b := 7) hx (show mx_Sn _ _ 40 (mx_getf 11 5 43) from sn_125 40) a1 s1 rfl rfl (hG.prr 1 5 rfl) ?_
              refine mx_J.step (sn_125 43) (fun _ _ => rfl) ?_
              refine JgetR (g := 12) (b := 36) hx (show mx_Sn _ _ 44 (mx_getf 11 12 47) from sn_125 44) a1 s1 rfl rfl (hG.prr 1 12 rfl) ?_
              refine JgetI (g := 2) (z := Z 36 2) hx (show mx_Sn _ _ 47 (mx_getf 5 2 50) from sn_125 47) a36 s36 rfl rfl rfl ?_
              refine mx_J.step (sn_125 50) (fun _ _ => rfl) ?_
              have b30 : 0 ≤ Z 9 ((Z 36 2) * 18 + w11_4) ∧ Z 9 ((Z 36 2) * 18 + w11_4) ≤ 18 := hG.pr 9 ((Z 36 2) * 18 + w11_4)
              obtain ⟨z29, hc29, b29⟩ := ct_6_7 (d := d + 0) (l := l) (D := D) (b0 := b0) (ad := ad) (Hb := Hb) (tau := tau) hx hG (show (-2147483648) ≤ Z 36 2 ∧ Z 36 2 ≤ 2147483647 by omega) (show (-2147483648) ≤ w11_4 ∧ w11_4 ≤ 2147483647 by omega)
              refine Jcv hx (show mx_Sn _ _ 52 (mx_callv 6 3 0 55) from sn_125 52) a7 s7 hc29 rfl rfl rfl ?_
              refine JixorX (show mx_Sn _ _ 55 (mx_ixor 56) from sn_125 55) (fun y31 hy31 => ?_)
              refine mx_J.step (ls2 := [some (.ref 1), some (xI x0), some (xI z8), some (xI y31), some (xI w11_4), none]) (sn_125 56) (fun _ _ => rfl) ?_
              refine Jiinc (z := w11_4) (cz := 1) (ls2 := [some (.ref 1), some (xI x0), some (xI z8), some (xI y31), some (xI (w11_4 + 1)), none]) (show mx_Sn _ _ 57 (mx_iinc 4 1 60) from sn_125 57) rfl rfl rfl rfl ?_
              refine mx_J.step (sn_125 60) (fun _ _ => rfl) ?_
              exact ih11 y31 (w11_4 + 1) (by omega) (by omega) (by omega)
        exact c32 (Int.toNat (18 - 0) + 1) 0 0 (by omega) (by omega) (by omega)
      · skip
        exact c9 
theorem ct_125_1 {l : Launch} {D : va_G} {b0 : Nat} {ad : Nat → Nat} {Hb : Heap} {tau : Nat → Int64} {d n s : Nat} {S : Nat → xS} {Z : xZ} {h : mx_H} (hx : XH n s S Z h) (hG : GI n S Z)  {x0 : Int} (p0 : (-2147483648) ≤ x0 ∧ x0 ≤ 2147483647) : ∃ z : Int, mx_Ca (tB l D b0 ad Hb tau) (d + 3) 125 [.ref 1, xI x0] h (some (xI z), h) ∧ ((-2147483648) ≤ z ∧ z ≤ 2147483647) := by
  obtain ⟨r, hca, z, e, hp⟩ := Jmt (B := tB l D b0 ad Hb tau) (M := mt_125) (mi := 125) (as := [.ref 1, xI x0]) (d := d + 2) (ls := [some (.ref 1), some (xI x0), none, none, none, none]) rfl rfl rfl rfl rfl rfl (cw_125_1 (l := l) (D := D) (b0 := b0) (ad := ad) (Hb := Hb) (tau := tau) (d := d) (Post := fun r => ∃ z : Int, r = (some (xI z), h) ∧ ((-2147483648) ≤ z ∧ z ≤ 2147483647)) hx hG p0 (fun z hz => ⟨z, rfl, hz⟩))
  subst e; exact ⟨z, hca, hp⟩
set_option maxRecDepth 100000 in
theorem cw_148_1 {l : Launch} {D : va_G} {b0 : Nat} {ad : Nat → Nat} {Hb : Heap} {tau : Nat → Int64} {d n s : Nat} {S : Nat → xS} {Z : xZ} {h : mx_H} {Post : mx_R → Prop} (hx : XH n s S Z h) (hG : GI n S Z)  {x0 : Int} (p0 : 0 ≤ x0 ∧ x0 ≤ 7) (hP : ∀ (Z' : xZ) (h' : mx_H), XH n s S Z' h' → GI n S Z' → fr' [(14, (-1)), (15, (-1)), (16, (-1)), (17, (-1)), (18, (-1)), (19, (-1)), (33, (-1))] Z Z' → Post (none, h')) : mx_J (tB l D b0 ad Hb tau) mt_148 (d + 6) 0 [some (.ref 1), some (xI x0), none] [] h Post := by
    have a1 : 1 < n := lt83 (GI_n hG) rfl
    have s1 : S 1 = .inl (11, [2, 0, 0, 0, 2, 2, 2, 2, 2, 2, 2, 2, 2, 2, 2, 2, 2]) := GI_s hG 1 rfl
    have a32 : 32 < n := lt83 (GI_n hG) rfl
    have s32 : S 32 = .inl (9, [2, 2, 2]) := GI_s hG 32 rfl
    have a36 : 36 < n := lt83 (GI_n hG) rfl
    have s36 : S 36 = .inl (5, [2, 0, 0, 0, 0, 0]) := GI_s hG 36 rfl
    refine mx_J.step (sn_148 0) (fun _ _ => rfl) ?_
    refine JgetR (g := 9) (b := 32) hx (show mx_Sn _ _ 1 (mx_getf 11 9 4) from sn_148 1) a1 s1 rfl rfl (hG.prr 1 9 rfl) ?_
    refine mx_J.step (sn_148 4) (fun _ _ => rfl) ?_
    refine JgetR (g := 12) (b := 36) hx (show mx_Sn _ _ 5 (mx_getf 11 12 8) from sn_148 5) a1 s1 rfl rfl (hG.prr 1 12 rfl) ?_
    have b4 : 0 ≤ Z 36 2 ∧ Z 36 2 ≤ 384 := hG.pr 36 2
    refine JgetI (g := 2) (z := Z 36 2) hx (show mx_Sn _ _ 8 (mx_getf 5 2 11) from sn_148 8) a36 s36 rfl rfl rfl ?_
    obtain ⟨Z5, h5, hc5, hx5, hG5, hf5⟩ := ct_71_32 (d := d + 4) (l := l) (D := D) (b0 := b0) (ad := ad) (Hb := Hb) (tau := tau) hx hG (show (-2147483648) ≤ Z 36 2 ∧ Z 36 2 ≤ 2147483647 by omega)
    refine Jcv0 hx (show mx_Sn _ _ 11 (mx_callv 71 2 9 14) from sn_148 11) a32 s32 hc5 rfl rfl rfl ?_
    refine JcI (z := 0) (show mx_Sn _ _ 14 (mx_const (.int 0) 15) from sn_148 14) rfl ?_
    refine mx_J.step (ls2 := [some (.ref 1), some (xI x0), some (xI 0)]) (sn_148 15) (fun _ _ => rfl) ?_
    have c16 : ∀ (m6 : Nat) (w6_2 : Int) (Z7 : xZ) (h7 : mx_H), 7 - w6_2 < (m6 : Int) → 0 ≤ w6_2 ∧ w6_2 ≤ 7 → XH n s S Z7 h7 → GI n S Z7 → fr' [(14, (-1)), (15, (-1)), (16, (-1)), (17, (-1)), (18, (-1)), (19, (-1)), (33, (-1))] Z5 Z7 → mx_J (tB l D b0 ad Hb tau) mt_148 (d + 6) 16 [some (.ref 1), some (xI x0), some (xI w6_2)] [] h7 Post := by
      intro m6
      induction m6 with
      | zero => intro w6_2 Z7 h7 q6 f6_0 hx7 hG7 hf7; exact absurd q6 (by omega)
      | succ m6 ih6 =>
        intro w6_2 Z7 h7 q6 f6_0 hx7 hG7 hf7
        refine mx_J.step (sn_148 16) (fun _ _ => rfl) ?_
        refine mx_J.step (sn_148 17) (fun _ _ => rfl) ?_
        refine Jicmp_ge (show mx_Sn _ _ 18 (mx_icmp_ge 35 21) from sn_148 18) (by omega) (by omega) (fun q8 => ?_) (fun q8 => ?_)
        · skip
          exact mx_J.ret (sn_148 35) (fun _ _ => rfl) (hP Z7 h7 hx7 hG7 (fr_tr (M := [(14, (-1)), (15, (-1)), (16, (-1)), (17, (-1)), (18, (-1)), (19, (-1)), (33, (-1))]) (fr_tr (M := [(14, (-1)), (15, (-1)), (16, (-1)), (17, (-1)), (18, (-1)), (19, (-1)), (33, (-1))]) fr_rf (hf5) (M1 := []) rfl rfl) (hf7) rfl rfl))
        · skip
          refine mx_J.step (sn_148 21) (fun _ _ => rfl) ?_
          refine JgetR (g := 9) (b := 32) hx7 (show mx_Sn _ _ 22 (mx_getf 11 9 25) from sn_148 22) a1 s1 rfl rfl (hG7.prr 1 9 rfl) ?_
          refine mx_J.step (sn_148 25) (fun _ _ => rfl) ?_
          obtain ⟨Z10, h10, hc10, hx10, hG10, hf10⟩ := ct_74_32 (d := d + 0) (l := l) (D := D) (b0 := b0) (ad := ad) (Hb := Hb) (tau := tau) hx7 hG7 (show 0 ≤ w6_2 ∧ w6_2 ≤ 6 by omega)
          refine Jcv0 hx7 (show mx_Sn _ _ 26 (mx_callv 74 2 9 29) from sn_148 26) a32 s32 hc10 rfl rfl rfl ?_
          refine Jiinc (z := w6_2) (cz := 1) (ls2 := [some (.ref 1), some (xI x0), some (xI (w6_2 + 1))]) (show mx_Sn _ _ 29 (mx_iinc 2 1 32) from sn_148 29) rfl rfl rfl rfl ?_
          refine mx_J.step (sn_148 32) (fun _ _ => rfl) ?_
          exact ih6 (w6_2 + 1) Z10 h10 (by omega) (by omega) hx10 hG10 (fr_tr (M := [(14, (-1)), (15, (-1)), (16, (-1)), (17, (-1)), (18, (-1)), (19, (-1)), (33, (-1))]) (fr_tr (M := [(14, (-1)), (15, (-1)), (16, (-1)), (17, (-1)), (18, (-1)), (19, (-1)), (33, (-1))]) fr_rf (hf7) (M1 := []) rfl rfl) (hf10) rfl rfl)
    exact c16 (Int.toNat (7 - 0) + 1) 0 Z5 h5 (by omega) (by omega) hx5 hG5 fr_rf
theorem ct_148_1 {l : Launch} {D : va_G} {b0 : Nat} {ad : Nat → Nat} {Hb : Heap} {tau : Nat → Int64} {d n s : Nat} {S : Nat → xS} {Z : xZ} {h : mx_H} (hx : XH n s S Z h) (hG : GI n S Z)  {x0 : Int} (p0 : 0 ≤ x0 ∧ x0 ≤ 7) : ∃ (Z' : xZ) (h' : mx_H), mx_Ca (tB l D b0 ad Hb tau) (d + 7) 148 [.ref 1, xI x0] h (none, h') ∧ XH n s S Z' h' ∧ GI n S Z' ∧ fr' [(14, (-1)), (15, (-1)), (16, (-1)), (17, (-1)), (18, (-1)), (19, (-1)), (33, (-1))] Z Z' := by
  obtain ⟨r, hca, Z', h', e, q⟩ := Jmt (B := tB l D b0 ad Hb tau) (M := mt_148) (mi := 148) (as := [.ref 1, xI x0]) (d := d + 6) (ls := [some (.ref 1), some (xI x0), none]) rfl rfl rfl rfl rfl rfl (cw_148_1 (l := l) (D := D) (b0 := b0) (ad := ad) (Hb := Hb) (tau := tau) (d := d) (Post := fun r => ∃ (Z' : xZ) (h' : mx_H), r = (none, h') ∧ XH n s S Z' h' ∧ GI n S Z' ∧ fr' [(14, (-1)), (15, (-1)), (16, (-1)), (17, (-1)), (18, (-1)), (19, (-1)), (33, (-1))] Z Z') hx hG p0 (fun Z' h' q1 q2 q3 => ⟨Z', h', rfl, q1, q2, q3⟩))
  subst e; exact ⟨Z', h', hca, q⟩
set_option maxRecDepth 100000 in
theorem cw_126_1 {l : Launch} {D : va_G} {b0 : Nat} {ad : Nat → Nat} {Hb : Heap} {tau : Nat → Int64} {d n s : Nat} {S : Nat → xS} {Z : xZ} {h : mx_H} {Post : mx_R → Prop} (hx : XH n s S Z h) (hG : GI n S Z)  {x0 x1 x2 : Int} (p0 : (-2147483648) ≤ x0 ∧ x0 ≤ 2147483647) (p1 : (-2147483648) ≤ x1 ∧ x1 ≤ 2147483647) (p2 : (-2147483648) ≤ x2 ∧ x2 ≤ 2147483647) (hP : ∀ (z : Int) (Z' : xZ) (h' : mx_H), XH n s S Z' h' → GI n S Z' → fr' [(14, (-1)), (15, (-1)), (16, (-1)), (17, (-1)), (18, (-1)), (19, (-1)), (33, (-1))] Z Z' → (-2147483648) ≤ z ∧ z ≤ 2147483647 → Post (some (xI z), h')) : mx_J (tB l D b0 ad Hb tau) mt_126 (d + 7) 0 [some (.ref 1), some (xI x0), some (xI x1), some (xI x2)] [] h Post := by
    have a1 : 1 < n := lt83 (GI_n hG) rfl
    have s1 : S 1 = .inl (11, [2, 0, 0, 0, 2, 2, 2, 2, 2, 2, 2, 2, 2, 2, 2, 2, 2]) := GI_s hG 1 rfl
    have a32 : 32 < n := lt83 (GI_n hG) rfl
    have s32 : S 32 = .inl (9, [2, 2, 2]) := GI_s hG 32 rfl
    refine mx_J.step (sn_126 0) (fun _ _ => rfl) ?_
    have c9 : mx_J (tB l D b0 ad Hb tau) mt_126 (d + 7) 9 [some (.ref 1), some (xI x0), some (xI x1), some (xI x2)] [] h Post := by
      refine JcI (z := (-2)) (show mx_Sn _ _ 9 (mx_const (.int (-2)) 11) from sn_126 9) rfl ?_
      exact mx_J.ret (sn_126 11) (fun _ _ => rfl) (hP (-2) Z h hx hG fr_rf (by omega))
    refine Jif_lt (show mx_Sn _ _ 1 (mx_if_lt 9 4) from sn_126 1) (by omega) (fun q2 => ?_) (fun q2 => ?_)
    · skip
      exact c9 
    · skip
      refine mx_J.step (sn_126 4) (fun _ _ => rfl) ?_
      refine JcI (z := 1) (show mx_Sn _ _ 5 (mx_const (.int 1) 6) from sn_126 5) rfl ?_
      refine Jicmp_le (show mx_Sn _ _ 6 (mx_icmp_le 12 9) from sn_126 6) (by omega) (by omega) (fun q3 => ?_) (fun q3 => ?_)
      · skip
        refine mx_J.step (sn_126 12) (fun _ _ => rfl) ?_
        refine JcI (z := 1) (show mx_Sn _ _ 13 (mx_const (.int 1) 14) from sn_126 13) rfl ?_
        have c33 : mx_J (tB l D b0 ad Hb tau) mt_126 (d + 7) 33 [some (.ref 1), some (xI x0), some (xI x1), some (xI x2)] [] h Post := by
          refine JcI (z := (-3)) (show mx_Sn _ _ 33 (mx_const (.int (-3)) 35) from sn_126 33) rfl ?_
          exact mx_J.ret (sn_126 35) (fun _ _ => rfl) (hP (-3) Z h hx hG fr_rf (by omega))
        refine Jicmp_lt (show mx_Sn _ _ 14 (mx_icmp_lt 33 17) from sn_126 14) (by omega) (by omega) (fun q5 => ?_) (fun q5 => ?_)
        · skip
          exact c33 
        · skip
          refine mx_J.step (sn_126 17) (fun _ _ => rfl) ?_
          refine JcI (z := 18) (show mx_Sn _ _ 18 (mx_const (.int 18) 20) from sn_126 18) rfl ?_
          refine Jicmp_gt (show mx_Sn _ _ 20 (mx_icmp_gt 33 23) from sn_126 20) (by omega) (by omega) (fun q6 => ?_) (fun q6 => ?_)
          · skip
            exact c33 
          · skip
            refine mx_J.step (sn_126 23) (fun _ _ => rfl) ?_
            refine Jif_lt (show mx_Sn _ _ 24 (mx_if_lt 33 27) from sn_126 24) (by omega) (fun q7 => ?_) (fun q7 => ?_)
            · skip
              exact c33 
            · skip
              refine mx_J.step (sn_126 27) (fun _ _ => rfl) ?_
              refine JcI (z := 7) (show mx_Sn _ _ 28 (mx_const (.int 7) 30) from sn_126 28) rfl ?_
              refine Jicmp_le (show mx_Sn _ _ 30 (mx_icmp_le 36 33) from sn_126 30) (by omega) (by omega) (fun q8 => ?_) (fun q8 => ?_)
              · skip
                refine mx_J.step (sn_126 36) (fun _ _ => rfl) ?_
                refine mx_J.step (sn_126 37) (fun _ _ => rfl) ?_
                obtain ⟨Z9, h9, hc9, hx9, hG9, hf9⟩ := ct_148_1 (d := d + 0) (l := l) (D := D) (b0 := b0) (ad := ad) (Hb := Hb) (tau := tau) hx hG (show 0 ≤ x1 ∧ x1 ≤ 7 by omega)
                refine Jcv0 hx (show mx_Sn _ _ 38 (mx_callv 148 2 11 41) from sn_126 38) a1 s1 hc9 rfl rfl rfl ?_
                refine mx_J.step (sn_126 41) (fun _ _ => rfl) ?_
                refine JgetR (g := 9) (b := 32) hx9 (show mx_Sn _ _ 42 (mx_getf 11 9 45) from sn_126 42) a1 s1 rfl rfl (hG9.prr 1 9 rfl) ?_
                refine mx_J.step (sn_126 45) (fun _ _ => rfl) ?_
                refine JcI (z := 1) (show mx_Sn _ _ 46 (mx_const (.int 1) 47) from sn_126 46) rfl ?_
                refine mx_J.step (sn_126 47) (fun _ _ => rfl) ?_
                obtain ⟨z11, hc11, b11⟩ := ct_75_32 (d := d + 5) (l := l) (D := D) (b0 := b0) (ad := ad) (Hb := Hb) (tau := tau) hx9 hG9 (show 0 ≤ x1 ∧ x1 ≤ 9 by omega) (show 1 ≤ 1 ∧ 1 ≤ 18 by omega) (show 1 ≤ x0 ∧ x0 ≤ 18 by omega)
                refine Jcv hx9 (show mx_Sn _ _ 48 (mx_callv 75 4 9 51) from sn_126 48) a32 s32 hc11 rfl rfl rfl ?_
                refine mx_J.step (sn_126 51) (fun _ _ => rfl) ?_
                refine mx_J.step (sn_126 52) (fun _ _ => rfl) ?_
                obtain ⟨z12, hc12, b12⟩ := ct_153_ (d := d + 6) (l := l) (D := D) (b0 := b0) (ad := ad) (Hb := Hb) (tau := tau) hx9 hG9 (show (-9223372036854775808) ≤ z11 ∧ z11 ≤ 9223372036854775807 by omega) (show 0 ≤ x1 ∧ x1 ≤ 7 by omega) (show 0 ≤ x2 ∧ x2 ≤ 1 by omega)
                refine Jcs (show mx_Sn _ _ 53 (mx_calls 153 3 56) from sn_126 53) hc12 rfl rfl rfl ?_
                exact mx_J.ret (sn_126 56) (fun _ _ => rfl) (hP z12 Z9 h9 hx9 hG9 (fr_tr (M := [(14, (-1)), (15, (-1)), (16, (-1)), (17, (-1)), (18, (-1)), (19, (-1)), (33, (-1))]) fr_rf (hf9) (M1 := []) rfl rfl) (by omega))
              · skip
                exact c33 
      · skip
        exact c9 
theorem ct_126_1 {l : Launch} {D : va_G} {b0 : Nat} {ad : Nat → Nat} {Hb : Heap} {tau : Nat → Int64} {d n s : Nat} {S : Nat → xS} {Z : xZ} {h : mx_H} (hx : XH n s S Z h) (hG : GI n S Z)  {x0 x1 x2 : Int} (p0 : (-2147483648) ≤ x0 ∧ x0 ≤ 2147483647) (p1 : (-2147483648) ≤ x1 ∧ x1 ≤ 2147483647) (p2 : (-2147483648) ≤ x2 ∧ x2 ≤ 2147483647) : ∃ (z : Int) (Z' : xZ) (h' : mx_H), mx_Ca (tB l D b0 ad Hb tau) (d + 8) 126 [.ref 1, xI x0, xI x1, xI x2] h (some (xI z), h') ∧ XH n s S Z' h' ∧ GI n S Z' ∧ fr' [(14, (-1)), (15, (-1)), (16, (-1)), (17, (-1)), (18, (-1)), (19, (-1)), (33, (-1))] Z Z' ∧ ((-2147483648) ≤ z ∧ z ≤ 2147483647) := by
  obtain ⟨r, hca, z, Z', h', e, q⟩ := Jmt (B := tB l D b0 ad Hb tau) (M := mt_126) (mi := 126) (as := [.ref 1, xI x0, xI x1, xI x2]) (d := d + 7) (ls := [some (.ref 1), some (xI x0), some (xI x1), some (xI x2)]) rfl rfl rfl rfl rfl rfl (cw_126_1 (l := l) (D := D) (b0 := b0) (ad := ad) (Hb := Hb) (tau := tau) (d := d) (Post := fun r => ∃ (z : Int) (Z' : xZ) (h' : mx_H), r = (some (xI z), h') ∧ XH n s S Z' h' ∧ GI n S Z' ∧ fr' [(14, (-1)), (15, (-1)), (16, (-1)), (17, (-1)), (18, (-1)), (19, (-1)), (33, (-1))] Z Z' ∧ ((-2147483648) ≤ z ∧ z ≤ 2147483647)) hx hG p0 p1 p2 (fun z Z' h' q1 q2 q3 q4 => ⟨z, Z', h', rfl, q1, q2, q3, q4⟩))
  subst e; exact ⟨z, Z', h', hca, q⟩
set_option maxRecDepth 100000 in
theorem cw_127_1 {l : Launch} {D : va_G} {b0 : Nat} {ad : Nat → Nat} {Hb : Heap} {tau : Nat → Int64} {d n s : Nat} {S : Nat → xS} {Z : xZ} {h : mx_H} {Post : mx_R → Prop} (hx : XH n s S Z h) (hG : GI n S Z)  {x0 x1 : Int} (p0 : (-2147483648) ≤ x0 ∧ x0 ≤ 2147483647) (p1 : (-2147483648) ≤ x1 ∧ x1 ≤ 2147483647) (hP : ∀ (z : Int) (Z' : xZ) (h' : mx_H), XH n s S Z' h' → GI n S Z' → fr' [(14, (-1)), (15, (-1)), (16, (-1)), (17, (-1)), (18, (-1)), (19, (-1)), (33, (-1))] Z Z' → (-2147483648) ≤ z ∧ z ≤ 2147483647 → Post (some (xI z), h')) : mx_J (tB l D b0 ad Hb tau) mt_127 (d + 7) 0 [some (.ref 1), some (xI x0), some (xI x1)] [] h Post := by
    have a1 : 1 < n := lt83 (GI_n hG) rfl
    have s1 : S 1 = .inl (11, [2, 0, 0, 0, 2, 2, 2, 2, 2, 2, 2, 2, 2, 2, 2, 2, 2]) := GI_s hG 1 rfl
    have a32 : 32 < n := lt83 (GI_n hG) rfl
    have s32 : S 32 = .inl (9, [2, 2, 2]) := GI_s hG 32 rfl
    refine mx_J.step (sn_127 0) (fun _ _ => rfl) ?_
    have c9 : mx_J (tB l D b0 ad Hb tau) mt_127 (d + 7) 9 [some (.ref 1), some (xI x0), some (xI x1)] [] h Post := by
      refine JcI (z := (-2)) (show mx_Sn _ _ 9 (mx_const (.int (-2)) 11) from sn_127 9) rfl ?_
      exact mx_J.ret (sn_127 11) (fun _ _ => rfl) (hP (-2) Z h hx hG fr_rf (by omega))
    refine Jif_lt (show mx_Sn _ _ 1 (mx_if_lt 9 4) from sn_127 1) (by omega) (fun q2 => ?_) (fun q2 => ?_)
    · skip
      exact c9 
    · skip
      refine mx_J.step (sn_127 4) (fun _ _ => rfl) ?_
      refine JcI (z := 1) (show mx_Sn _ _ 5 (mx_const (.int 1) 6) from sn_127 5) rfl ?_
      refine Jicmp_le (show mx_Sn _ _ 6 (mx_icmp_le 12 9) from sn_127 6) (by omega) (by omega) (fun q3 => ?_) (fun q3 => ?_)
      · skip
        refine mx_J.step (sn_127 12) (fun _ _ => rfl) ?_
        have c22 : mx_J (tB l D b0 ad Hb tau) mt_127 (d + 7) 22 [some (.ref 1), some (xI x0), some (xI x1)] [] h Post := by
          refine JcI (z := (-3)) (show mx_Sn _ _ 22 (mx_const (.int (-3)) 24) from sn_127 22) rfl ?_
          exact mx_J.ret (sn_127 24) (fun _ _ => rfl) (hP (-3) Z h hx hG fr_rf (by omega))
        refine Jif_lt (show mx_Sn _ _ 13 (mx_if_lt 22 16) from sn_127 13) (by omega) (fun q5 => ?_) (fun q5 => ?_)
        · skip
          exact c22 
        · skip
          refine mx_J.step (sn_127 16) (fun _ _ => rfl) ?_
          refine JcI (z := 7) (show mx_Sn _ _ 17 (mx_const (.int 7) 19) from sn_127 17) rfl ?_
          refine Jicmp_le (show mx_Sn _ _ 19 (mx_icmp_le 25 22) from sn_127 19) (by omega) (by omega) (fun q6 => ?_) (fun q6 => ?_)
          · skip
            refine mx_J.step (sn_127 25) (fun _ _ => rfl) ?_
            refine mx_J.step (sn_127 26) (fun _ _ => rfl) ?_
            obtain ⟨Z7, h7, hc7, hx7, hG7, hf7⟩ := ct_148_1 (d := d + 0) (l := l) (D := D) (b0 := b0) (ad := ad) (Hb := Hb) (tau := tau) hx hG (show 0 ≤ x0 ∧ x0 ≤ 7 by omega)
            refine Jcv0 hx (show mx_Sn _ _ 27 (mx_callv 148 2 11 30) from sn_127 27) a1 s1 hc7 rfl rfl rfl ?_
            refine mx_J.step (sn_127 30) (fun _ _ => rfl) ?_
            refine JgetR (g := 9) (b := 32) hx7 (show mx_Sn _ _ 31 (mx_getf 11 9 34) from sn_127 31) a1 s1 rfl rfl (hG7.prr 1 9 rfl) ?_
            refine mx_J.step (sn_127 34) (fun _ _ => rfl) ?_
            obtain ⟨z9, hc9, b9⟩ := ct_76_32 (d := d + 4) (l := l) (D := D) (b0 := b0) (ad := ad) (Hb := Hb) (tau := tau) hx7 hG7 (show 0 ≤ x0 ∧ x0 ≤ 7 by omega)
            refine Jcv hx7 (show mx_Sn _ _ 35 (mx_callv 76 2 9 38) from sn_127 35) a32 s32 hc9 rfl rfl rfl ?_
            refine mx_J.step (sn_127 38) (fun _ _ => rfl) ?_
            refine mx_J.step (sn_127 39) (fun _ _ => rfl) ?_
            obtain ⟨z10, hc10, b10⟩ := ct_153_ (d := d + 6) (l := l) (D := D) (b0 := b0) (ad := ad) (Hb := Hb) (tau := tau) hx7 hG7 (show (-9223372036854775808) ≤ z9 ∧ z9 ≤ 9223372036854775807 by omega) (show 0 ≤ x0 ∧ x0 ≤ 7 by omega) (show 0 ≤ x1 ∧ x1 ≤ 1 by omega)
            refine Jcs (show mx_Sn _ _ 40 (mx_calls 153 3 43) from sn_127 40) hc10 rfl rfl rfl ?_
            exact mx_J.ret (sn_127 43) (fun _ _ => rfl) (hP z10 Z7 h7 hx7 hG7 (fr_tr (M := [(14, (-1)), (15, (-1)), (16, (-1)), (17, (-1)), (18, (-1)), (19, (-1)), (33, (-1))]) fr_rf (hf7) (M1 := []) rfl rfl) (by omega))
          · skip
            exact c22 
      · skip
        exact c9 
theorem ct_127_1 {l : Launch} {D : va_G} {b0 : Nat} {ad : Nat → Nat} {Hb : Heap} {tau : Nat → Int64} {d n s : Nat} {S : Nat → xS} {Z : xZ} {h : mx_H} (hx : XH n s S Z h) (hG : GI n S Z)  {x0 x1 : Int} (p0 : (-2147483648) ≤ x0 ∧ x0 ≤ 2147483647) (p1 : (-2147483648) ≤ x1 ∧ x1 ≤ 2147483647) : ∃ (z : Int) (Z' : xZ) (h' : mx_H), mx_Ca (tB l D b0 ad Hb tau) (d + 8) 127 [.ref 1, xI x0, xI x1] h (some (xI z), h') ∧ XH n s S Z' h' ∧ GI n S Z' ∧ fr' [(14, (-1)), (15, (-1)), (16, (-1)), (17, (-1)), (18, (-1)), (19, (-1)), (33, (-1))] Z Z' ∧ ((-2147483648) ≤ z ∧ z ≤ 2147483647) := by
  obtain ⟨r, hca, z, Z', h', e, q⟩ := Jmt (B := tB l D b0 ad Hb tau) (M := mt_127) (mi := 127) (as := [.ref 1, xI x0, xI x1]) (d := d + 7) (ls := [some (.ref 1), some (xI x0), some (xI x1)]) rfl rfl rfl rfl rfl rfl (cw_127_1 (l := l) (D := D) (b0 := b0) (ad := ad) (Hb := Hb) (tau := tau) (d := d) (Post := fun r => ∃ (z : Int) (Z' : xZ) (h' : mx_H), r = (some (xI z), h') ∧ XH n s S Z' h' ∧ GI n S Z' ∧ fr' [(14, (-1)), (15, (-1)), (16, (-1)), (17, (-1)), (18, (-1)), (19, (-1)), (33, (-1))] Z Z' ∧ ((-2147483648) ≤ z ∧ z ≤ 2147483647)) hx hG p0 p1 (fun z Z' h' q1 q2 q3 q4 => ⟨z, Z', h', rfl, q1, q2, q3, q4⟩))
  subst e; exact ⟨z, Z', h', hca, q⟩
set_option maxRecDepth 100000 in
theorem cw_145_1_i0 {l : Launch} {D : va_G} {b0 : Nat} {ad : Nat → Nat} {Hb : Heap} {tau : Nat → Int64} {d n s : Nat} {S : Nat → xS} {Z : xZ} {h : mx_H} {Post : mx_R → Prop} (hx : XH n s S Z h) (hG : GI n S Z)   (hP : ∀ (z : Int) (Z' : xZ) (h' : mx_H), XH n s S Z' h' → GI n S Z' → fr' [(42, (-1))] Z Z' → (((0 : Int) < 0 ∨ 3 < (0 : Int)) → z = -2) ∧ (Z 7 4 = Z 36 1 → (0 : Int) = 0 → (Z 44 3 = 1 → z = -6) ∧ (Z 44 3 = 0 → TO (Z 45) (Z 44 2) (Z 36 1) z)) ∧ (Z 7 4 = Z 36 1 → (0 : Int) = 1 → (Z 46 3 = 1 → z = -6) ∧ (Z 46 3 = 0 → TO (Z 47) (Z 46 2) (Z 36 1) z)) ∧ (Z 7 4 = Z 36 1 → (0 : Int) = 2 → (Z 48 3 = 1 → z = -6) ∧ (Z 48 3 = 0 → TO (Z 49) (Z 48 2) (Z 36 1) z)) ∧ (Z 7 4 = Z 36 1 → (0 : Int) = 3 → (Z 50 3 = 1 → z = -6) ∧ (Z 50 3 = 0 → TO (Z 51) (Z 50 2) (Z 36 1) z)) ∧ (-6) ≤ z ∧ z ≤ 384 → Post (some (xI z), h')) : mx_J (tB l D b0 ad Hb tau) mt_145 (d + 2) 0 [some (.ref 1), some (xI 0), none, none, none, none] [] h Post := by
    have a1 : 1 < n := lt83 (GI_n hG) rfl
    have s1 : S 1 = .inl (11, [2, 0, 0, 0, 2, 2, 2, 2, 2, 2, 2, 2, 2, 2, 2, 2, 2]) := GI_s hG 1 rfl
    have a7 : 7 < n := lt83 (GI_n hG) rfl
    have s7 : S 7 = .inl (0, [2, 2, 2, 2, 0, 0]) := GI_s hG 7 rfl
    have a34 : 34 < n := lt83 (GI_n hG) rfl
    have s34 : S 34 = .inr ((.object "TitheHeap$Tray"), 4, 2) := GI_s hG 34 rfl
    have a36 : 36 < n := lt83 (GI_n hG) rfl
    have s36 : S 36 = .inl (5, [2, 0, 0, 0, 0, 0]) := GI_s hG 36 rfl
    have a42 : 42 < n := lt83 (GI_n hG) rfl
    have s42 : S 42 = .inr (.int, 19, 0) := GI_s hG 42 rfl
    have a44 : 44 < n := lt83 (GI_n hG) rfl
    have s44 : S 44 = .inl (10, [2, 0, 0, 0]) := GI_s hG 44 rfl
    refine mx_J.step (sn_145 0) (fun _ _ => rfl) ?_
    refine mx_J.step (sn_145 1) (fun _ _ => rfl) ?_
    obtain ⟨z1, hc1, b1⟩ := ct_144_1_y (d := d + 1) (l := l) (D := D) (b0 := b0) (ad := ad) (Hb := Hb) (tau := tau) hx hG (show 0 ≤ 0 ∧ 0 ≤ 3 by omega)
    refine Jcv hx (show mx_Sn _ _ 2 (mx_callv 144 2 11 5) from sn_145 2) a1 s1 hc1 rfl rfl rfl ?_
    refine Jif_eq (show mx_Sn _ _ 5 (mx_if_eq 11 8) from sn_145 5) (by omega) (fun q2 => ?_) (fun q2 => ?_)
    · skip
      refine mx_J.step (sn_145 11) (fun _ _ => rfl) ?_
      refine JgetR (g := 10) (b := 34) hx (show mx_Sn _ _ 12 (mx_getf 11 10 15) from sn_145 12) a1 s1 rfl rfl (hG.prr 1 10 rfl) ?_
      refine mx_J.step (sn_145 15) (fun _ _ => rfl) ?_
      refine JaaldR (i := 0) (b := 44) hx (show mx_Sn _ _ 16 (mx_aald 17) from sn_145 16) a34 s34 (by omega) (show Z 34 0 = 44 by have hq := GI_ex hG 34 0; replace hq : ((0 : Int) ≤ 0 → (0 : Int) ≤ 3 → (Z 34 0) = 44 + 2 * 0) := hq; omega) ?_
      refine mx_J.step (ls2 := [some (.ref 1), some (xI 0), some (.ref 44), none, none, none]) (sn_145 17) (fun _ _ => rfl) ?_
      refine mx_J.step (sn_145 18) (fun _ _ => rfl) ?_
      have b5 : 0 ≤ Z 44 3 ∧ Z 44 3 ≤ 1 := hG.pr 44 3
      refine JgetI (g := 3) (z := Z 44 3) hx (show mx_Sn _ _ 19 (mx_getf 10 3 22) from sn_145 19) a44 s44 rfl rfl rfl ?_
      refine Jif_eq (show mx_Sn _ _ 22 (mx_if_eq 28 25) from sn_145 22) (by omega) (fun q6 => ?_) (fun q6 => ?_)
      · skip
        refine mx_J.step (sn_145 28) (fun _ _ => rfl) ?_
        have b8 : 0 ≤ Z 44 2 ∧ Z 44 2 ≤ 40 := hG.pr 44 2
        refine JgetI (g := 2) (z := Z 44 2) hx (show mx_Sn _ _ 29 (mx_getf 10 2 32) from sn_145 29) a44 s44 rfl rfl rfl ?_
        refine JcI (z := 1) (show mx_Sn _ _ 32 (mx_const (.int 1) 33) from sn_145 32) rfl ?_
        have c45 : (Z 44 2 < 1 ∨ 18 < Z 44 2) → mx_J (tB l D b0 ad Hb tau) mt_145 (d + 2) 45 [some (.ref 1), some (xI 0), some (.ref 44), none, none, none] [] h Post := by
          intro f9_0
          refine JcI (z := (-4)) (show mx_Sn _ _ 45 (mx_const (.int (-4)) 47) from sn_145 45) rfl ?_
          exact mx_J.ret (sn_145 47) (fun _ _ => rfl) (hP (-4) Z h hx hG fr_rf ⟨(fun q => absurd q (by decide)), (fun _ _ => ⟨fun q => absurd q (by omega), fun _ => TO_4 (by omega) rfl⟩), (fun _ q => absurd q (by decide)), (fun _ q => absurd q (by decide)), (fun _ q => absurd q (by decide)), by omega⟩)
        refine Jicmp_lt (show mx_Sn _ _ 33 (mx_icmp_lt 45 36) from sn_145 33) (by omega) (by omega) (fun q10 => ?_) (fun q10 => ?_)
        · skip
          exact c45 (by omega)
        · skip
          refine mx_J.step (sn_145 36) (fun _ _ => rfl) ?_
          refine JgetI (g := 2) (z := Z 44 2) hx (show mx_Sn _ _ 37 (mx_getf 10 2 40) from sn_145 37) a44 s44 rfl rfl rfl ?_
          refine JcI (z := 18) (show mx_Sn _ _ 40 (mx_const (.int 18) 42) from sn_145 40) rfl ?_
          refine Jicmp_le (show mx_Sn _ _ 42 (mx_icmp_le 48 45) from sn_145 42) (by omega) (by omega) (fun q12 => ?_) (fun q12 => ?_)
          · skip
            refine mx_J.step (sn_145 48) (fun _ _ => rfl) ?_
            refine JcL (z := 1) (show mx_Sn _ _ 49 (mx_const (.long 1) 50) from sn_145 49) rfl ?_
            refine JcL (z := 18) (show mx_Sn _ _ 50 (mx_const (.long 18) 53) from sn_145 50) rfl ?_
            obtain ⟨z13, hc13, b13⟩ := ct_86_44 (d := d + 1) (l := l) (D := D) (b0 := b0) (ad := ad) (Hb := Hb) (tau := tau) hx hG (show (-9223372036854775808) ≤ 1 ∧ 1 ≤ 9223372036854775807 by omega) (show (-9223372036854775808) ≤ 18 ∧ 18 ≤ 9223372036854775807 by omega)
            obtain ⟨bs13_0, b13⟩ := b13
            obtain ⟨bs13_1, b13⟩ := b13
            refine Jcv hx (show mx_Sn _ _ 53 (mx_callv 86 3 10 56) from sn_145 53) a44 s44 hc13 rfl rfl rfl ?_
            have aw0 := bs13_0
            have aw1 := bs13_1
            refine Jif_ne (show mx_Sn _ _ 56 (mx_if_ne 62 59) from sn_145 56) (by omega) (fun q14 => ?_) (fun q14 => ?_)
            · skip
              have tz := aw0 (by omega)
              have inr : INR (Z 45) (Z 44 2) := fun j p q => by have := tz j p q; omega
              refine JcI (z := 0) (show mx_Sn _ _ 62 (mx_const (.int 0) 63) from sn_145 62) rfl ?_
              refine mx_J.step (ls2 := [some (.ref 1), some (xI 0), some (.ref 44), some (xI 0), none, none]) (sn_145 63) (fun _ _ => rfl) ?_
              refine mx_J.step (sn_145 64) (fun _ _ => rfl) ?_
              refine JgetR (g := 15) (b := 42) hx (show mx_Sn _ _ 65 (mx_getf 11 15 68) from sn_145 65) a1 s1 rfl rfl (hG.prr 1 15 rfl) ?_
              refine JcI (z := 0) (show mx_Sn _ _ 68 (mx_const (.int 0) 69) from sn_145 68) rfl ?_
              obtain ⟨Z16, h16, hc16, hx16, hG16, hf16, m16_42⟩ := ct_284_42_i0 (d := d + 1) (l := l) (D := D) (b0 := b0) (ad := ad) (Hb := Hb) (tau := tau) hx hG 
              refine Jcs0 (show mx_Sn _ _ 69 (mx_calls 284 2 72) from sn_145 69) hc16 rfl rfl rfl ?_
              refine JcI (z := 0) (show mx_Sn _ _ 72 (mx_const (.int 0) 73) from sn_145 72) rfl ?_
              refine mx_J.step (ls2 := [some (.ref 1), some (xI 0), some (.ref 44), some (xI 0), some (xI 0), none]) (sn_145 73) (fun _ _ => rfl) ?_
              have c75 : ∀ (m17 : Nat) (w17_3 : Int) (w17_4 : Int) (u17_5 : Option Value) (Z18 : xZ) (h18 : mx_H), 18 - w17_4 < (m17 : Int) → 0 ≤ w17_3 ∧ w17_3 ≤ 324 → 0 ≤ w17_4 ∧ w17_4 ≤ 18 → w17_3 ≤ 18 * w17_4 → w17_4 ≤ Z 44 2 → w17_3 = lsm (pfx (Z 45) (w17_4).toNat) → TLY Z18 (Z 45) w17_4 → AB Z18 42 (19) (0) (w17_4) → XH n s S Z18 h18 → GI n S Z18 → fr' [(42, (-1))] Z16 Z18 → mx_J (tB l D b0 ad Hb tau) mt_145 (d + 2) 75 [some (.ref 1), some (xI 0), some (.ref 44), some (xI w17_3), some (xI w17_4), u17_5] [] h18 Post := by
                intro m17
                induction m17 with
                | zero => intro w17_3 w17_4 u17_5 Z18 h18 q17 f17_0 f17_1 f17_2 f17_3 f17_4 f17_5 f17_6 hx18 hG18 hf18; exact absurd q17 (by omega)
                | succ m17 ih17 =>
                  intro w17_3 w17_4 u17_5 Z18 h18 q17 f17_0 f17_1 f17_2 f17_3 f17_4 f17_5 f17_6 hx18 hG18 hf18
                  refine mx_J.step (sn_145 75) (fun _ _ => rfl) ?_
                  refine mx_J.step (sn_145 77) (fun _ _ => rfl) ?_
                  refine JgetI (g := 2) (z := Z 44 2) hx18 (show mx_Sn _ _ 78 (mx_getf 10 2 81) from sn_145 78) a44 s44 rfl rfl ((hf18 44 2 rfl).trans (hf16 44 2 rfl)) ?_
                  refine Jicmp_ge (show mx_Sn _ _ 81 (mx_icmp_ge 115 84) from sn_145 81) (by omega) (by omega) (fun q20 => ?_) (fun q20 => ?_)
                  · skip
                    refine mx_J.step (sn_145 115) (fun _ _ => rfl) ?_
                    refine mx_J.step (sn_145 116) (fun _ _ => rfl) ?_
                    refine JgetR (g := 12) (b := 36) hx18 (show mx_Sn _ _ 117 (mx_getf 11 12 120) from sn_145 117) a1 s1 rfl rfl (hG18.prr 1 12 rfl) ?_
                    have b23 : 1 ≤ Z 36 1 ∧ Z 36 1 ≤ 18 := hG.pr 36 1
                    refine JgetI (g := 1) (z := Z 36 1) hx18 (show mx_Sn _ _ 120 (mx_getf 5 1 123) from sn_145 120) a36 s36 rfl rfl ((hf18 36 1 rfl).trans (hf16 36 1 rfl)) ?_
                    have c142 : ∀ (k24_0 : Int), (-5) ≤ k24_0 ∧ k24_0 ≤ 384 → (Z 7 4 = Z 36 1 → TO (Z 45) (Z 44 2) (Z 36 1) k24_0) → mx_J (tB l D b0 ad Hb tau) mt_145 (d + 2) 142 [some (.ref 1), some (xI 0), some (.ref 44), some (xI w17_3), some (xI w17_4), u17_5] [xI k24_0] h18 Post := by
                      intro k24_0 f24_0 f24_1
                      exact mx_J.ret (sn_145 142) (fun _ _ => rfl) (hP k24_0 Z18 h18 hx18 hG18 (fr_tr (M := [(42, (-1))]) (fr_tr (M := [(42, (-1))]) fr_rf (hf16) (M1 := []) rfl rfl) (hf18) rfl rfl) ⟨(fun q => absurd q (by decide)), (fun w _ => ⟨fun q => absurd q (by omega), fun _ => (by assumption : Z 7 4 = Z 36 1 → TO (Z 45) (Z 44 2) (Z 36 1) _) w⟩), (fun _ q => absurd q (by decide)), (fun _ q => absurd q (by decide)), (fun _ q => absurd q (by decide)), by omega⟩)
                    refine Jicmp_ne (show mx_Sn _ _ 123 (mx_icmp_ne 140 126) from sn_145 123) (by omega) (by omega) (fun q25 => ?_) (fun q25 => ?_)
                    · skip
                      refine JcI (z := (-5)) (show mx_Sn _ _ 140 (mx_const (.int (-5)) 142) from sn_145 140) rfl ?_
                      exact c142 (-5) (by omega) (fun w => TO_5 (t := w17_3) (by omega) (by omega) inr (lsp_m (by assumption) (by omega)) (by omega) rfl)
                    · skip
                      refine mx_J.step (sn_145 126) (fun _ _ => rfl) ?_
                      refine JgetR (g := 5) (b := 7) hx18 (show mx_Sn _ _ 127 (mx_getf 11 5 130) from sn_145 127) a1 s1 rfl rfl (hG18.prr 1 5 rfl) ?_
                      refine mx_J.step (sn_145 130) (fun _ _ => rfl) ?_
                      refine JgetR (g := 15) (b := 42) hx18 (show mx_Sn _ _ 131 (mx_getf 11 15 134) from sn_145 131) a1 s1 rfl rfl (hG18.prr 1 15 rfl) ?_
                      obtain ⟨z28, hc28, b28⟩ := ct_9_7_42 (d := d + 0) (l := l) (D := D) (b0 := b0) (ad := ad) (Hb := Hb) (tau := tau) hx18 hG18  (ab_mono f17_6 (by omega) (by omega) (by omega))
                      obtain ⟨bs28_0, b28⟩ := b28
                      refine Jcv hx18 (show mx_Sn _ _ 134 (mx_callv 9 2 0 137) from sn_145 134) a7 s7 hc28 rfl rfl rfl ?_
                      refine mx_J.step (sn_145 137) (fun _ _ => rfl) ?_
                      exact c142 z28 (by omega) (fun w => TO_y (t := w17_3) (by omega) (by omega) inr (lsp_m (by assumption) (by omega)) (by omega) (tly_m (by assumption) (by omega)) ((bs28_0).trans (by rw [(show Z18 7 4 = Z 7 4 from ((hf18 7 4 rfl).trans (hf16 7 4 rfl))), w])))
                  · skip
                    refine mx_J.step (sn_145 84) (fun _ _ => rfl) ?_
                    refine mx_J.step (sn_145 85) (fun _ _ => rfl) ?_
                    have eq30 : Z18 45 w17_4 = Z 45 w17_4 := ((hf18 45 w17_4 rfl).trans (hf16 45 w17_4 rfl))
                    have b31 : (-9223372036854775808) ≤ Z 45 w17_4 ∧ Z 45 w17_4 ≤ 9223372036854775807 := hG.pr 45 w17_4
                    obtain ⟨z29, hc29, b29⟩ := ct_85_44 (d := d + 1) (l := l) (D := D) (b0 := b0) (ad := ad) (Hb := Hb) (tau := tau) hx18 hG18 (show (-2147483648) ≤ w17_4 ∧ w17_4 ≤ 2147483647 by omega)
                    try rw [eq30] at b29
                    refine Jcv hx18 (show mx_Sn _ _ 87 (mx_callv 85 2 10 90) from sn_145 87) a44 s44 hc29 rfl rfl rfl ?_
                    have tw := tz w17_4 (by omega) (by omega)
                    refine Jl2i (show mx_Sn _ _ 90 (mx_l2i 91) from sn_145 90) ?_
                    refine mx_J.step (ls2 := [some (.ref 1), some (xI 0), some (.ref 44), some (xI w17_3), some (xI w17_4), some (xI z29)]) (sn_145 91) (fun _ _ => rfl) ?_
                    refine mx_J.step (sn_145 93) (fun _ _ => rfl) ?_
                    refine JgetR (g := 15) (b := 42) hx18 (show mx_Sn _ _ 94 (mx_getf 11 15 97) from sn_145 94) a1 s1 rfl rfl (hG18.prr 1 15 rfl) ?_
                    refine mx_J.step (sn_145 97) (fun _ _ => rfl) ?_
                    refine mx_J.step (sn_145 99) (fun _ _ => rfl) ?_
                    have b33 : 0 ≤ Z18 42 z29 ∧ Z18 42 z29 ≤ w17_4 := f17_6 z29 (by omega) (by omega)
                    have b34 : (-2147483648) ≤ Z18 42 z29 ∧ Z18 42 z29 ≤ 2147483647 := hG18.pr 42 z29
                    refine JialdI (z := Z18 42 z29) hx18 (show mx_Sn _ _ 100 (mx_iald 101) from sn_145 100) a42 s42 (by omega) rfl ?_
                    refine JcI (z := 1) (show mx_Sn _ _ 101 (mx_const (.int 1) 102) from sn_145 101) rfl ?_
                    refine Jiadd (show mx_Sn _ _ 102 (mx_iadd 103) from sn_145 102) ?_
                    refine JiastI hx18 (show mx_Sn _ _ 103 (mx_iast 1 104) from sn_145 103) a42 s42 rfl (by omega) (fun Z35 h35 hx35 hE35 => ?_)
                    have hG35 := GI_up hG18 hE35 (show (-2147483648) ≤ (Z18 42 z29) + 1 ∧ (Z18 42 z29) + 1 ≤ 2147483647 by omega) trivial rfl
                    have m35 : AB Z35 42 19 0 (w17_4 + 1) := ab_up hE35 f17_6 (by omega) (by omega) (by omega)
                    have tl2 := tly_s (Z := Z18) (a := Z 45) (k := w17_4) (by assumption) (by omega) (by omega) hE35 rfl
                    refine mx_J.step (sn_145 104) (fun _ _ => rfl) ?_
                    refine mx_J.step (sn_145 105) (fun _ _ => rfl) ?_
                    refine Jiadd (show mx_Sn _ _ 107 (mx_iadd 108) from sn_145 107) ?_
                    refine mx_J.step (ls2 := [some (.ref 1), some (xI 0), some (.ref 44), some (xI (w17_3 + z29)), some (xI w17_4), some (xI z29)]) (sn_145 108) (fun _ _ => rfl) ?_
                    refine Jiinc (z := w17_4) (cz := 1) (ls2 := [some (.ref 1), some (xI 0), some (.ref 44), some (xI (w17_3 + z29)), some (xI (w17_4 + 1)), some (xI z29)]) (show mx_Sn _ _ 109 (mx_iinc 4 1 112) from sn_145 109) rfl rfl rfl rfl ?_
                    refine mx_J.step (sn_145 112) (fun _ _ => rfl) ?_
                    exact ih17 (w17_3 + z29) (w17_4 + 1) (some (xI z29)) Z35 h35 (by omega) (by omega) (by omega) (by omega) (by omega) (lsp_s (by assumption) (by omega) (by omega)) (tl2) (ab_mono m35 (by omega) (by omega) (by omega)) hx35 hG35 (fr_tr (M := [(42, (-1))]) (fr_tr (M := [(42, (-1))]) fr_rf (hf18) (M1 := []) rfl rfl) (fr_ua hE35) rfl rfl)
              exact c75 (Int.toNat (18 - 0) + 1) 0 0 none Z16 h16 (by omega) (by omega) (by omega) (by omega) (by omega) (lsp_0) (tly_0 (by assumption)) (ab_mono m16_42 (by omega) (by omega) (by omega)) hx16 hG16 fr_rf
            · skip
              refine JcI (z := (-3)) (show mx_Sn _ _ 59 (mx_const (.int (-3)) 61) from sn_145 59) rfl ?_
              exact mx_J.ret (sn_145 61) (fun _ _ => rfl) (hP (-3) Z h hx hG fr_rf ⟨(fun q => absurd q (by decide)), (fun _ _ => ⟨fun q => absurd q (by omega), fun _ => TO_3 (by omega) (by omega) (fun q => by obtain ⟨j, j0, j1, j2⟩ := aw1 (by omega); have := q j j0 j1; omega) rfl⟩), (fun _ q => absurd q (by decide)), (fun _ q => absurd q (by decide)), (fun _ q => absurd q (by decide)), by omega⟩)
          · skip
            exact c45 (by omega)
      · skip
        refine JcI (z := (-6)) (show mx_Sn _ _ 25 (mx_const (.int (-6)) 27) from sn_145 25) rfl ?_
        exact mx_J.ret (sn_145 27) (fun _ _ => rfl) (hP (-6) Z h hx hG fr_rf ⟨(fun q => absurd q (by decide)), (fun _ _ => ⟨fun _ => rfl, fun q => absurd q (by omega)⟩), (fun _ q => absurd q (by decide)), (fun _ q => absurd q (by decide)), (fun _ q => absurd q (by decide)), by omega⟩)
    · skip
      exfalso; omega
theorem ct_145_1_i0 {l : Launch} {D : va_G} {b0 : Nat} {ad : Nat → Nat} {Hb : Heap} {tau : Nat → Int64} {d n s : Nat} {S : Nat → xS} {Z : xZ} {h : mx_H} (hx : XH n s S Z h) (hG : GI n S Z)   : ∃ (z : Int) (Z' : xZ) (h' : mx_H), mx_Ca (tB l D b0 ad Hb tau) (d + 3) 145 [.ref 1, xI 0] h (some (xI z), h') ∧ XH n s S Z' h' ∧ GI n S Z' ∧ fr' [(42, (-1))] Z Z' ∧ ((((0 : Int) < 0 ∨ 3 < (0 : Int)) → z = -2) ∧ (Z 7 4 = Z 36 1 → (0 : Int) = 0 → (Z 44 3 = 1 → z = -6) ∧ (Z 44 3 = 0 → TO (Z 45) (Z 44 2) (Z 36 1) z)) ∧ (Z 7 4 = Z 36 1 → (0 : Int) = 1 → (Z 46 3 = 1 → z = -6) ∧ (Z 46 3 = 0 → TO (Z 47) (Z 46 2) (Z 36 1) z)) ∧ (Z 7 4 = Z 36 1 → (0 : Int) = 2 → (Z 48 3 = 1 → z = -6) ∧ (Z 48 3 = 0 → TO (Z 49) (Z 48 2) (Z 36 1) z)) ∧ (Z 7 4 = Z 36 1 → (0 : Int) = 3 → (Z 50 3 = 1 → z = -6) ∧ (Z 50 3 = 0 → TO (Z 51) (Z 50 2) (Z 36 1) z)) ∧ (-6) ≤ z ∧ z ≤ 384) := by
  obtain ⟨r, hca, z, Z', h', e, q⟩ := Jmt (B := tB l D b0 ad Hb tau) (M := mt_145) (mi := 145) (as := [.ref 1, xI 0]) (d := d + 2) (ls := [some (.ref 1), some (xI 0), none, none, none, none]) rfl rfl rfl rfl rfl rfl (cw_145_1_i0 (l := l) (D := D) (b0 := b0) (ad := ad) (Hb := Hb) (tau := tau) (d := d) (Post := fun r => ∃ (z : Int) (Z' : xZ) (h' : mx_H), r = (some (xI z), h') ∧ XH n s S Z' h' ∧ GI n S Z' ∧ fr' [(42, (-1))] Z Z' ∧ ((((0 : Int) < 0 ∨ 3 < (0 : Int)) → z = -2) ∧ (Z 7 4 = Z 36 1 → (0 : Int) = 0 → (Z 44 3 = 1 → z = -6) ∧ (Z 44 3 = 0 → TO (Z 45) (Z 44 2) (Z 36 1) z)) ∧ (Z 7 4 = Z 36 1 → (0 : Int) = 1 → (Z 46 3 = 1 → z = -6) ∧ (Z 46 3 = 0 → TO (Z 47) (Z 46 2) (Z 36 1) z)) ∧ (Z 7 4 = Z 36 1 → (0 : Int) = 2 → (Z 48 3 = 1 → z = -6) ∧ (Z 48 3 = 0 → TO (Z 49) (Z 48 2) (Z 36 1) z)) ∧ (Z 7 4 = Z 36 1 → (0 : Int) = 3 → (Z 50 3 = 1 → z = -6) ∧ (Z 50 3 = 0 → TO (Z 51) (Z 50 2) (Z 36 1) z)) ∧ (-6) ≤ z ∧ z ≤ 384)) hx hG  (fun z Z' h' q1 q2 q3 q4 => ⟨z, Z', h', rfl, q1, q2, q3, q4⟩))
  subst e; exact ⟨z, Z', h', hca, q⟩
set_option maxRecDepth 100000 in
theorem cw_145_1_i1 {l : Launch} {D : va_G} {b0 : Nat} {ad : Nat → Nat} {Hb : Heap} {tau : Nat → Int64} {d n s : Nat} {S : Nat → xS} {Z : xZ} {h : mx_H} {Post : mx_R → Prop} (hx : XH n s S Z h) (hG : GI n S Z)   (hP : ∀ (z : Int) (Z' : xZ) (h' : mx_H), XH n s S Z' h' → GI n S Z' → fr' [(42, (-1))] Z Z' → (((1 : Int) < 0 ∨ 3 < (1 : Int)) → z = -2) ∧ (Z 7 4 = Z 36 1 → (1 : Int) = 0 → (Z 44 3 = 1 → z = -6) ∧ (Z 44 3 = 0 → TO (Z 45) (Z 44 2) (Z 36 1) z)) ∧ (Z 7 4 = Z 36 1 → (1 : Int) = 1 → (Z 46 3 = 1 → z = -6) ∧ (Z 46 3 = 0 → TO (Z 47) (Z 46 2) (Z 36 1) z)) ∧ (Z 7 4 = Z 36 1 → (1 : Int) = 2 → (Z 48 3 = 1 → z = -6) ∧ (Z 48 3 = 0 → TO (Z 49) (Z 48 2) (Z 36 1) z)) ∧ (Z 7 4 = Z 36 1 → (1 : Int) = 3 → (Z 50 3 = 1 → z = -6) ∧ (Z 50 3 = 0 → TO (Z 51) (Z 50 2) (Z 36 1) z)) ∧ (-6) ≤ z ∧ z ≤ 384 → Post (some (xI z), h')) : mx_J (tB l D b0 ad Hb tau) mt_145 (d + 2) 0 [some (.ref 1), some (xI 1), none, none, none, none] [] h Post := by
    have a1 : 1 < n := lt83 (GI_n hG) rfl
    have s1 : S 1 = .inl (11, [2, 0, 0, 0, 2, 2, 2, 2, 2, 2, 2, 2, 2, 2, 2, 2, 2]) := GI_s hG 1 rfl
    have a7 : 7 < n := lt83 (GI_n hG) rfl
    have s7 : S 7 = .inl (0, [2, 2, 2, 2, 0, 0]) := GI_s hG 7 rfl
    have a34 : 34 < n := lt83 (GI_n hG) rfl
    have s34 : S 34 = .inr ((.object "TitheHeap$Tray"), 4, 2) := GI_s hG 34 rfl
    have a36 : 36 < n := lt83 (GI_n hG) rfl
    have s36 : S 36 = .inl (5, [2, 0, 0, 0, 0, 0]) := GI_s hG 36 rfl
    have a42 : 42 < n := lt83 (GI_n hG) rfl
    have s42 : S 42 = .inr (.int, 19, 0) := GI_s hG 42 rfl
    have a46 : 46 < n := lt83 (GI_n hG) rfl
    have s46 : S 46 = .inl (10, [2, 0, 0, 0]) := GI_s hG 46 rfl
    refine mx_J.step (sn_145 0) (fun _ _ => rfl) ?_
    refine mx_J.step (sn_145 1) (fun _ _ => rfl) ?_
    obtain ⟨z1, hc1, b1⟩ := ct_144_1_y (d := d + 1) (l := l) (D := D) (b0 := b0) (ad := ad) (Hb := Hb) (tau := tau) hx hG (show 0 ≤ 1 ∧ 1 ≤ 3 by omega)
    refine Jcv hx (show mx_Sn _ _ 2 (mx_callv 144 2 11 5) from sn_145 2) a1 s1 hc1 rfl rfl rfl ?_
    refine Jif_eq (show mx_Sn _ _ 5 (mx_if_eq 11 8) from sn_145 5) (by omega) (fun q2 => ?_) (fun q2 => ?_)
    · skip
      refine mx_J.step (sn_145 11) (fun _ _ => rfl) ?_
      refine JgetR (g := 10) (b := 34) hx (show mx_Sn _ _ 12 (mx_getf 11 10 15) from sn_145 12) a1 s1 rfl rfl (hG.prr 1 10 rfl) ?_
      refine mx_J.step (sn_145 15) (fun _ _ => rfl) ?_
      refine JaaldR (i := 1) (b := 46) hx (show mx_Sn _ _ 16 (mx_aald 17) from sn_145 16) a34 s34 (by omega) (show Z 34 1 = 46 by have hq := GI_ex hG 34 1; replace hq : ((0 : Int) ≤ 1 → (1 : Int) ≤ 3 → (Z 34 1) = 44 + 2 * 1) := hq; omega) ?_
      refine mx_J.step (ls2 := [some (.ref 1), some (xI 1), some (.ref 46), none, none, none]) (sn_145 17) (fun _ _ => rfl) ?_
      refine mx_J.step (sn_145 18) (fun _ _ => rfl) ?_
      have b5 : 0 ≤ Z 46 3 ∧ Z 46 3 ≤ 1 := hG.pr 46 3
      refine JgetI (g := 3) (z := Z 46 3) hx (show mx_Sn _ _ 19 (mx_getf 10 3 22) from sn_145 19) a46 s46 rfl rfl rfl ?_
      refine Jif_eq (show mx_Sn _ _ 22 (mx_if_eq 28 25) from sn_145 22) (by omega) (fun q6 => ?_) (fun q6 => ?_)
      · skip
        refine mx_J.step (sn_145 28) (fun _ _ => rfl) ?_
        have b8 : 0 ≤ Z 46 2 ∧ Z 46 2 ≤ 40 := hG.pr 46 2
        refine JgetI (g := 2) (z := Z 46 2) hx (show mx_Sn _ _ 29 (mx_getf 10 2 32) from sn_145 29) a46 s46 rfl rfl rfl ?_
        refine JcI (z := 1) (show mx_Sn _ _ 32 (mx_const (.int 1) 33) from sn_145 32) rfl ?_
        have c45 : (Z 46 2 < 1 ∨ 18 < Z 46 2) → mx_J (tB l D b0 ad Hb tau) mt_145 (d + 2) 45 [some (.ref 1), some (xI 1), some (.ref 46), none, none, none] [] h Post := by
          intro f9_0
          refine JcI (z := (-4)) (show mx_Sn _ _ 45 (mx_const (.int (-4)) 47) from sn_145 45) rfl ?_
          exact mx_J.ret (sn_145 47) (fun _ _ => rfl) (hP (-4) Z h hx hG fr_rf ⟨(fun q => absurd q (by decide)), (fun _ q => absurd q (by decide)), (fun _ _ => ⟨fun q => absurd q (by omega), fun _ => TO_4 (by omega) rfl⟩), (fun _ q => absurd q (by decide)), (fun _ q => absurd q (by decide)), by omega⟩)
        refine Jicmp_lt (show mx_Sn _ _ 33 (mx_icmp_lt 45 36) from sn_145 33) (by omega) (by omega) (fun q10 => ?_) (fun q10 => ?_)
        · skip
          exact c45 (by omega)
        · skip
          refine mx_J.step (sn_145 36) (fun _ _ => rfl) ?_
          refine JgetI (g := 2) (z := Z 46 2) hx (show mx_Sn _ _ 37 (mx_getf 10 2 40) from sn_145 37) a46 s46 rfl rfl rfl ?_
          refine JcI (z := 18) (show mx_Sn _ _ 40 (mx_const (.int 18) 42) from sn_145 40) rfl ?_
          refine Jicmp_le (show mx_Sn _ _ 42 (mx_icmp_le 48 45) from sn_145 42) (by omega) (by omega) (fun q12 => ?_) (fun q12 => ?_)
          · skip
            refine mx_J.step (sn_145 48) (fun _ _ => rfl) ?_
            refine JcL (z := 1) (show mx_Sn _ _ 49 (mx_const (.long 1) 50) from sn_145 49) rfl ?_
            refine JcL (z := 18) (show mx_Sn _ _ 50 (mx_const (.long 18) 53) from sn_145 50) rfl ?_
            obtain ⟨z13, hc13, b13⟩ := ct_86_46 (d := d + 1) (l := l) (D := D) (b0 := b0) (ad := ad) (Hb := Hb) (tau := tau) hx hG (show (-9223372036854775808) ≤ 1 ∧ 1 ≤ 9223372036854775807 by omega) (show (-9223372036854775808) ≤ 18 ∧ 18 ≤ 9223372036854775807 by omega)
            obtain ⟨bs13_0, b13⟩ := b13
            obtain ⟨bs13_1, b13⟩ := b13
            refine Jcv hx (show mx_Sn _ _ 53 (mx_callv 86 3 10 56) from sn_145 53) a46 s46 hc13 rfl rfl rfl ?_
            have aw0 := bs13_0
            have aw1 := bs13_1
            refine Jif_ne (show mx_Sn _ _ 56 (mx_if_ne 62 59) from sn_145 56) (by omega) (fun q14 => ?_) (fun q14 => ?_)
            · skip
              have tz := aw0 (by omega)
              have inr : INR (Z 47) (Z 46 2) := fun j p q => by have := tz j p q; omega
              refine JcI (z := 0) (show mx_Sn _ _ 62 (mx_const (.int 0) 63) from sn_145 62) rfl ?_
              refine mx_J.step (ls2 := [some (.ref 1), some (xI 1), some (.ref 46), some (xI 0), none, none]) (sn_145 63) (fun _ _ => rfl) ?_
              refine mx_J.step (sn_145 64) (fun _ _ => rfl) ?_
              refine JgetR (g := 15) (b := 42) hx (show mx_Sn _ _ 65 (mx_getf 11 15 68) from sn_145 65) a1 s1 rfl rfl (hG.prr 1 15 rfl) ?_
              refine JcI (z := 0) (show mx_Sn _ _ 68 (mx_const (.int 0) 69) from sn_145 68) rfl ?_
              obtain ⟨Z16, h16, hc16, hx16, hG16, hf16, m16_42⟩ := ct_284_42_i0 (d := d + 1) (l := l) (D := D) (b0 := b0) (ad := ad) (Hb := Hb) (tau := tau) hx hG 
              refine Jcs0 (show mx_Sn _ _ 69 (mx_calls 284 2 72) from sn_145 69) hc16 rfl rfl rfl ?_
              refine JcI (z := 0) (show mx_Sn _ _ 72 (mx_const (.int 0) 73) from sn_145 72) rfl ?_
              refine mx_J.step (ls2 := [some (.ref 1), some (xI 1), some (.ref 46), some (xI 0), some (xI 0), none]) (sn_145 73) (fun _ _ => rfl) ?_
              have c75 : ∀ (m17 : Nat) (w17_3 : Int) (w17_4 : Int) (u17_5 : Option Value) (Z18 : xZ) (h18 : mx_H), 18 - w17_4 < (m17 : Int) → 0 ≤ w17_3 ∧ w17_3 ≤ 324 → 0 ≤ w17_4 ∧ w17_4 ≤ 18 → w17_3 ≤ 18 * w17_4 → w17_4 ≤ Z 46 2 → w17_3 = lsm (pfx (Z 47) (w17_4).toNat) → TLY Z18 (Z 47) w17_4 → AB Z18 42 (19) (0) (w17_4) → XH n s S Z18 h18 → GI n S Z18 → fr' [(42, (-1))] Z16 Z18 → mx_J (tB l D b0 ad Hb tau) mt_145 (d + 2) 75 [some (.ref 1), some (xI 1), some (.ref 46), some (xI w17_3), some (xI w17_4), u17_5] [] h18 Post := by
                intro m17
                induction m17 with
                | zero => intro w17_3 w17_4 u17_5 Z18 h18 q17 f17_0 f17_1 f17_2 f17_3 f17_4 f17_5 f17_6 hx18 hG18 hf18; exact absurd q17 (by omega)
                | succ m17 ih17 =>
                  intro w17_3 w17_4 u17_5 Z18 h18 q17 f17_0 f17_1 f17_2 f17_3 f17_4 f17_5 f17_6 hx18 hG18 hf18
                  refine mx_J.step (sn_145 75) (fun _ _ => rfl) ?_
                  refine mx_J.step (sn_145 77) (fun _ _ => rfl) ?_
                  refine JgetI (g := 2) (z := Z 46 2) hx18 (show mx_Sn _ _ 78 (mx_getf 10 2 81) from sn_145 78) a46 s46 rfl rfl ((hf18 46 2 rfl).trans (hf16 46 2 rfl)) ?_
                  refine Jicmp_ge (show mx_Sn _ _ 81 (mx_icmp_ge 115 84) from sn_145 81) (by omega) (by omega) (fun q20 => ?_) (fun q20 => ?_)
                  · skip
                    refine mx_J.step (sn_145 115) (fun _ _ => rfl) ?_
                    refine mx_J.step (sn_145 116) (fun _ _ => rfl) ?_
                    refine JgetR (g := 12) (b := 36) hx18 (show mx_Sn _ _ 117 (mx_getf 11 12 120) from sn_145 117) a1 s1 rfl rfl (hG18.prr 1 12 rfl) ?_
                    have b23 : 1 ≤ Z 36 1 ∧ Z 36 1 ≤ 18 := hG.pr 36 1
                    refine JgetI (g := 1) (z := Z 36 1) hx18 (show mx_Sn _ _ 120 (mx_getf 5 1 123) from sn_145 120) a36 s36 rfl rfl ((hf18 36 1 rfl).trans (hf16 36 1 rfl)) ?_
                    have c142 : ∀ (k24_0 : Int), (-5) ≤ k24_0 ∧ k24_0 ≤ 384 → (Z 7 4 = Z 36 1 → TO (Z 47) (Z 46 2) (Z 36 1) k24_0) → mx_J (tB l D b0 ad Hb tau) mt_145 (d + 2) 142 [some (.ref 1), some (xI 1), some (.ref 46), some (xI w17_3), some (xI w17_4), u17_5] [xI k24_0] h18 Post := by
                      intro k24_0 f24_0 f24_1
                      exact mx_J.ret (sn_145 142) (fun _ _ => rfl) (hP k24_0 Z18 h18 hx18 hG18 (fr_tr (M := [(42, (-1))]) (fr_tr (M := [(42, (-1))]) fr_rf (hf16) (M1 := []) rfl rfl) (hf18) rfl rfl) ⟨(fun q => absurd q (by decide)), (fun _ q => absurd q (by decide)), (fun w _ => ⟨fun q => absurd q (by omega), fun _ => (by assumption : Z 7 4 = Z 36 1 → TO (Z 47) (Z 46 2) (Z 36 1) _) w⟩), (fun _ q => absurd q (by decide)), (fun _ q => absurd q (by decide)), by omega⟩)
                    refine Jicmp_ne (show mx_Sn _ _ 123 (mx_icmp_ne 140 126) from sn_145 123) (by omega) (by omega) (fun q25 => ?_) (fun q25 => ?_)
                    · skip
                      refine JcI (z := (-5)) (show mx_Sn _ _ 140 (mx_const (.int (-5)) 142) from sn_145 140) rfl ?_
                      exact c142 (-5) (by omega) (fun w => TO_5 (t := w17_3) (by omega) (by omega) inr (lsp_m (by assumption) (by omega)) (by omega) rfl)
                    · skip
                      refine mx_J.step (sn_145 126) (fun _ _ => rfl) ?_
                      refine JgetR (g := 5) (b := 7) hx18 (show mx_Sn _ _ 127 (mx_getf 11 5 130) from sn_145 127) a1 s1 rfl rfl (hG18.prr 1 5 rfl) ?_
                      refine mx_J.step (sn_145 130) (fun _ _ => rfl) ?_
                      refine JgetR (g := 15) (b := 42) hx18 (show mx_Sn _ _ 131 (mx_getf 11 15 134) from sn_145 131) a1 s1 rfl rfl (hG18.prr 1 15 rfl) ?_
                      obtain ⟨z28, hc28, b28⟩ := ct_9_7_42 (d := d + 0) (l := l) (D := D) (b0 := b0) (ad := ad) (Hb := Hb) (tau := tau) hx18 hG18  (ab_mono f17_6 (by omega) (by omega) (by omega))
                      obtain ⟨bs28_0, b28⟩ := b28
                      refine Jcv hx18 (show mx_Sn _ _ 134 (mx_callv 9 2 0 137) from sn_145 134) a7 s7 hc28 rfl rfl rfl ?_
                      refine mx_J.step (sn_145 137) (fun _ _ => rfl) ?_
                      exact c142 z28 (by omega) (fun w => TO_y (t := w17_3) (by omega) (by omega) inr (lsp_m (by assumption) (by omega)) (by omega) (tly_m (by assumption) (by omega)) ((bs28_0).trans (by rw [(show Z18 7 4 = Z 7 4 from ((hf18 7 4 rfl).trans (hf16 7 4 rfl))), w])))
                  · skip
                    refine mx_J.step (sn_145 84) (fun _ _ => rfl) ?_
                    refine mx_J.step (sn_145 85) (fun _ _ => rfl) ?_
                    have eq30 : Z18 47 w17_4 = Z 47 w17_4 := ((hf18 47 w17_4 rfl).trans (hf16 47 w17_4 rfl))
                    have b31 : (-9223372036854775808) ≤ Z 47 w17_4 ∧ Z 47 w17_4 ≤ 9223372036854775807 := hG.pr 47 w17_4
                    obtain ⟨z29, hc29, b29⟩ := ct_85_46 (d := d + 1) (l := l) (D := D) (b0 := b0) (ad := ad) (Hb := Hb) (tau := tau) hx18 hG18 (show (-2147483648) ≤ w17_4 ∧ w17_4 ≤ 2147483647 by omega)
                    try rw [eq30] at b29
                    refine Jcv hx18 (show mx_Sn _ _ 87 (mx_callv 85 2 10 90) from sn_145 87) a46 s46 hc29 rfl rfl rfl ?_
                    have tw := tz w17_4 (by omega) (by omega)
                    refine Jl2i (show mx_Sn _ _ 90 (mx_l2i 91) from sn_145 90) ?_
                    refine mx_J.step (ls2 := [some (.ref 1), some (xI 1), some (.ref 46), some (xI w17_3), some (xI w17_4), some (xI z29)]) (sn_145 91) (fun _ _ => rfl) ?_
                    refine mx_J.step (sn_145 93) (fun _ _ => rfl) ?_
                    refine JgetR (g := 15) (b := 42) hx18 (show mx_Sn _ _ 94 (mx_getf 11 15 97) from sn_145 94) a1 s1 rfl rfl (hG18.prr 1 15 rfl) ?_
                    refine mx_J.step (sn_145 97) (fun _ _ => rfl) ?_
                    refine mx_J.step (sn_145 99) (fun _ _ => rfl) ?_
                    have b33 : 0 ≤ Z18 42 z29 ∧ Z18 42 z29 ≤ w17_4 := f17_6 z29 (by omega) (by omega)
                    have b34 : (-2147483648) ≤ Z18 42 z29 ∧ Z18 42 z29 ≤ 2147483647 := hG18.pr 42 z29
                    refine JialdI (z := Z18 42 z29) hx18 (show mx_Sn _ _ 100 (mx_iald 101) from sn_145 100) a42 s42 (by omega) rfl ?_
                    refine JcI (z := 1) (show mx_Sn _ _ 101 (mx_const (.int 1) 102) from sn_145 101) rfl ?_
                    refine Jiadd (show mx_Sn _ _ 102 (mx_iadd 103) from sn_145 102) ?_
                    refine JiastI hx18 (show mx_Sn _ _ 103 (mx_iast 1 104) from sn_145 103) a42 s42 rfl (by omega) (fun Z35 h35 hx35 hE35 => ?_)
                    have hG35 := GI_up hG18 hE35 (show (-2147483648) ≤ (Z18 42 z29) + 1 ∧ (Z18 42 z29) + 1 ≤ 2147483647 by omega) trivial rfl
                    have m35 : AB Z35 42 19 0 (w17_4 + 1) := ab_up hE35 f17_6 (by omega) (by omega) (by omega)
                    have tl2 := tly_s (Z := Z18) (a := Z 47) (k := w17_4) (by assumption) (by omega) (by omega) hE35 rfl
                    refine mx_J.step (sn_145 104) (fun _ _ => rfl) ?_
                    refine mx_J.step (sn_145 105) (fun _ _ => rfl) ?_
                    refine Jiadd (show mx_Sn _ _ 107 (mx_iadd 108) from sn_145 107) ?_
                    refine mx_J.step (ls2 := [some (.ref 1), some (xI 1), some (.ref 46), some (xI (w17_3 + z29)), some (xI w17_4), some (xI z29)]) (sn_145 108) (fun _ _ => rfl) ?_
                    refine Jiinc (z := w17_4) (cz := 1) (ls2 := [some (.ref 1), some (xI 1), some (.ref 46), some (xI (w17_3 + z29)), some (xI (w17_4 + 1)), some (xI z29)]) (show mx_Sn _ _ 109 (mx_iinc 4 1 112) from sn_145 109) rfl rfl rfl rfl ?_
                    refine mx_J.step (sn_145 112) (fun _ _ => rfl) ?_
                    exact ih17 (w17_3 + z29) (w17_4 + 1) (some (xI z29)) Z35 h35 (by omega) (by omega) (by omega) (by omega) (by omega) (lsp_s (by assumption) (by omega) (by omega)) (tl2) (ab_mono m35 (by omega) (by omega) (by omega)) hx35 hG35 (fr_tr (M := [(42, (-1))]) (fr_tr (M := [(42, (-1))]) fr_rf (hf18) (M1 := []) rfl rfl) (fr_ua hE35) rfl rfl)
              exact c75 (Int.toNat (18 - 0) + 1) 0 0 none Z16 h16 (by omega) (by omega) (by omega) (by omega) (by omega) (lsp_0) (tly_0 (by assumption)) (ab_mono m16_42 (by omega) (by omega) (by omega)) hx16 hG16 fr_rf
            · skip
              refine JcI (z := (-3)) (show mx_Sn _ _ 59 (mx_const (.int (-3)) 61) from sn_145 59) rfl ?_
              exact mx_J.ret (sn_145 61) (fun _ _ => rfl) (hP (-3) Z h hx hG fr_rf ⟨(fun q => absurd q (by decide)), (fun _ q => absurd q (by decide)), (fun _ _ => ⟨fun q => absurd q (by omega), fun _ => TO_3 (by omega) (by omega) (fun q => by obtain ⟨j, j0, j1, j2⟩ := aw1 (by omega); have := q j j0 j1; omega) rfl⟩), (fun _ q => absurd q (by decide)), (fun _ q => absurd q (by decide)), by omega⟩)
          · skip
            exact c45 (by omega)
      · skip
        refine JcI (z := (-6)) (show mx_Sn _ _ 25 (mx_const (.int (-6)) 27) from sn_145 25) rfl ?_
        exact mx_J.ret (sn_145 27) (fun _ _ => rfl) (hP (-6) Z h hx hG fr_rf ⟨(fun q => absurd q (by decide)), (fun _ q => absurd q (by decide)), (fun _ _ => ⟨fun _ => rfl, fun q => absurd q (by omega)⟩), (fun _ q => absurd q (by decide)), (fun _ q => absurd q (by decide)), by omega⟩)
    · skip
      exfalso; omega
theorem ct_145_1_i1 {l : Launch} {D : va_G} {b0 : Nat} {ad : Nat → Nat} {Hb : Heap} {tau : Nat → Int64} {d n s : Nat} {S : Nat → xS} {Z : xZ} {h : mx_H} (hx : XH n s S Z h) (hG : GI n S Z)   : ∃ (z : Int) (Z' : xZ) (h' : mx_H), mx_Ca (tB l D b0 ad Hb tau) (d + 3) 145 [.ref 1, xI 1] h (some (xI z), h') ∧ XH n s S Z' h' ∧ GI n S Z' ∧ fr' [(42, (-1))] Z Z' ∧ ((((1 : Int) < 0 ∨ 3 < (1 : Int)) → z = -2) ∧ (Z 7 4 = Z 36 1 → (1 : Int) = 0 → (Z 44 3 = 1 → z = -6) ∧ (Z 44 3 = 0 → TO (Z 45) (Z 44 2) (Z 36 1) z)) ∧ (Z 7 4 = Z 36 1 → (1 : Int) = 1 → (Z 46 3 = 1 → z = -6) ∧ (Z 46 3 = 0 → TO (Z 47) (Z 46 2) (Z 36 1) z)) ∧ (Z 7 4 = Z 36 1 → (1 : Int) = 2 → (Z 48 3 = 1 → z = -6) ∧ (Z 48 3 = 0 → TO (Z 49) (Z 48 2) (Z 36 1) z)) ∧ (Z 7 4 = Z 36 1 → (1 : Int) = 3 → (Z 50 3 = 1 → z = -6) ∧ (Z 50 3 = 0 → TO (Z 51) (Z 50 2) (Z 36 1) z)) ∧ (-6) ≤ z ∧ z ≤ 384) := by
  obtain ⟨r, hca, z, Z', h', e, q⟩ := Jmt (B := tB l D b0 ad Hb tau) (M := mt_145) (mi := 145) (as := [.ref 1, xI 1]) (d := d + 2) (ls := [some (.ref 1), some (xI 1), none, none, none, none]) rfl rfl rfl rfl rfl rfl (cw_145_1_i1 (l := l) (D := D) (b0 := b0) (ad := ad) (Hb := Hb) (tau := tau) (d := d) (Post := fun r => ∃ (z : Int) (Z' : xZ) (h' : mx_H), r = (some (xI z), h') ∧ XH n s S Z' h' ∧ GI n S Z' ∧ fr' [(42, (-1))] Z Z' ∧ ((((1 : Int) < 0 ∨ 3 < (1 : Int)) → z = -2) ∧ (Z 7 4 = Z 36 1 → (1 : Int) = 0 → (Z 44 3 = 1 → z = -6) ∧ (Z 44 3 = 0 → TO (Z 45) (Z 44 2) (Z 36 1) z)) ∧ (Z 7 4 = Z 36 1 → (1 : Int) = 1 → (Z 46 3 = 1 → z = -6) ∧ (Z 46 3 = 0 → TO (Z 47) (Z 46 2) (Z 36 1) z)) ∧ (Z 7 4 = Z 36 1 → (1 : Int) = 2 → (Z 48 3 = 1 → z = -6) ∧ (Z 48 3 = 0 → TO (Z 49) (Z 48 2) (Z 36 1) z)) ∧ (Z 7 4 = Z 36 1 → (1 : Int) = 3 → (Z 50 3 = 1 → z = -6) ∧ (Z 50 3 = 0 → TO (Z 51) (Z 50 2) (Z 36 1) z)) ∧ (-6) ≤ z ∧ z ≤ 384)) hx hG  (fun z Z' h' q1 q2 q3 q4 => ⟨z, Z', h', rfl, q1, q2, q3, q4⟩))
  subst e; exact ⟨z, Z', h', hca, q⟩
set_option maxRecDepth 100000 in
theorem cw_145_1_i2 {l : Launch} {D : va_G} {b0 : Nat} {ad : Nat → Nat} {Hb : Heap} {tau : Nat → Int64} {d n s : Nat} {S : Nat → xS} {Z : xZ} {h : mx_H} {Post : mx_R → Prop} (hx : XH n s S Z h) (hG : GI n S Z)   (hP : ∀ (z : Int) (Z' : xZ) (h' : mx_H), XH n s S Z' h' → GI n S Z' → fr' [(42, (-1))] Z Z' → (((2 : Int) < 0 ∨ 3 < (2 : Int)) → z = -2) ∧ (Z 7 4 = Z 36 1 → (2 : Int) = 0 → (Z 44 3 = 1 → z = -6) ∧ (Z 44 3 = 0 → TO (Z 45) (Z 44 2) (Z 36 1) z)) ∧ (Z 7 4 = Z 36 1 → (2 : Int) = 1 → (Z 46 3 = 1 → z = -6) ∧ (Z 46 3 = 0 → TO (Z 47) (Z 46 2) (Z 36 1) z)) ∧ (Z 7 4 = Z 36 1 → (2 : Int) = 2 → (Z 48 3 = 1 → z = -6) ∧ (Z 48 3 = 0 → TO (Z 49) (Z 48 2) (Z 36 1) z)) ∧ (Z 7 4 = Z 36 1 → (2 : Int) = 3 → (Z 50 3 = 1 → z = -6) ∧ (Z 50 3 = 0 → TO (Z 51) (Z 50 2) (Z 36 1) z)) ∧ (-6) ≤ z ∧ z ≤ 384 → Post (some (xI z), h')) : mx_J (tB l D b0 ad Hb tau) mt_145 (d + 2) 0 [some (.ref 1), some (xI 2), none, none, none, none] [] h Post := by
    have a1 : 1 < n := lt83 (GI_n hG) rfl
    have s1 : S 1 = .inl (11, [2, 0, 0, 0, 2, 2, 2, 2, 2, 2, 2, 2, 2, 2, 2, 2, 2]) := GI_s hG 1 rfl
    have a7 : 7 < n := lt83 (GI_n hG) rfl
    have s7 : S 7 = .inl (0, [2, 2, 2, 2, 0, 0]) := GI_s hG 7 rfl
    have a34 : 34 < n := lt83 (GI_n hG) rfl
    have s34 : S 34 = .inr ((.object "TitheHeap$Tray"), 4, 2) := GI_s hG 34 rfl
    have a36 : 36 < n := lt83 (GI_n hG) rfl
    have s36 : S 36 = .inl (5, [2, 0, 0, 0, 0, 0]) := GI_s hG 36 rfl
    have a42 : 42 < n := lt83 (GI_n hG) rfl
    have s42 : S 42 = .inr (.int, 19, 0) := GI_s hG 42 rfl
    have a48 : 48 < n := lt83 (GI_n hG) rfl
    have s48 : S 48 = .inl (10, [2, 0, 0, 0]) := GI_s hG 48 rfl
    refine mx_J.step (sn_145 0) (fun _ _ => rfl) ?_
    refine mx_J.step (sn_145 1) (fun _ _ => rfl) ?_
    obtain ⟨z1, hc1, b1⟩ := ct_144_1_y (d := d + 1) (l := l) (D := D) (b0 := b0) (ad := ad) (Hb := Hb) (tau := tau) hx hG (show 0 ≤ 2 ∧ 2 ≤ 3 by omega)
    refine Jcv hx (show mx_Sn _ _ 2 (mx_callv 144 2 11 5) from sn_145 2) a1 s1 hc1 rfl rfl rfl ?_
    refine Jif_eq (show mx_Sn _ _ 5 (mx_if_eq 11 8) from sn_145 5) (by omega) (fun q2 => ?_) (fun q2 => ?_)
    · skip
      refine mx_J.step (sn_145 11) (fun _ _ => rfl) ?_
      refine JgetR (g := 10) (b := 34) hx (show mx_Sn _ _ 12 (mx_getf 11 10 15) from sn_145 12) a1 s1 rfl rfl (hG.prr 1 10 rfl) ?_
      refine mx_J.step (sn_145 15) (fun _ _ => rfl) ?_
      refine JaaldR (i := 2) (b := 48) hx (show mx_Sn _ _ 16 (mx_aald 17) from sn_145 16) a34 s34 (by omega) (show Z 34 2 = 48 by have hq := GI_ex hG 34 2; replace hq : ((0 : Int) ≤ 2 → (2 : Int) ≤ 3 → (Z 34 2) = 44 + 2 * 2) := hq; omega) ?_
      refine mx_J.step (ls2 := [some (.ref 1), some (xI 2), some (.ref 48), none, none, none]) (sn_145 17) (fun _ _ => rfl) ?_
      refine mx_J.step (sn_145 18) (fun _ _ => rfl) ?_
      have b5 : 0 ≤ Z 48 3 ∧ Z 48 3 ≤ 1 := hG.pr 48 3
      refine JgetI (g := 3) (z := Z 48 3) hx (show mx_Sn _ _ 19 (mx_getf 10 3 22) from sn_145 19) a48 s48 rfl rfl rfl ?_
      refine Jif_eq (show mx_Sn _ _ 22 (mx_if_eq 28 25) from sn_145 22) (by omega) (fun q6 => ?_) (fun q6 => ?_)
      · skip
        refine mx_J.step (sn_145 28) (fun _ _ => rfl) ?_
        have b8 : 0 ≤ Z 48 2 ∧ Z 48 2 ≤ 40 := hG.pr 48 2
        refine JgetI (g := 2) (z := Z 48 2) hx (show mx_Sn _ _ 29 (mx_getf 10 2 32) from sn_145 29) a48 s48 rfl rfl rfl ?_
        refine JcI (z := 1) (show mx_Sn _ _ 32 (mx_const (.int 1) 33) from sn_145 32) rfl ?_
        have c45 : (Z 48 2 < 1 ∨ 18 < Z 48 2) → mx_J (tB l D b0 ad Hb tau) mt_145 (d + 2) 45 [some (.ref 1), some (xI 2), some (.ref 48), none, none, none] [] h Post := by
          intro f9_0
          refine JcI (z := (-4)) (show mx_Sn _ _ 45 (mx_const (.int (-4)) 47) from sn_145 45) rfl ?_
          exact mx_J.ret (sn_145 47) (fun _ _ => rfl) (hP (-4) Z h hx hG fr_rf ⟨(fun q => absurd q (by decide)), (fun _ q => absurd q (by decide)), (fun _ q => absurd q (by decide)), (fun _ _ => ⟨fun q => absurd q (by omega), fun _ => TO_4 (by omega) rfl⟩), (fun _ q => absurd q (by decide)), by omega⟩)
        refine Jicmp_lt (show mx_Sn _ _ 33 (mx_icmp_lt 45 36) from sn_145 33) (by omega) (by omega) (fun q10 => ?_) (fun q10 => ?_)
        · skip
          exact c45 (by omega)
        · skip
          refine mx_J.step (sn_145 36) (fun _ _ => rfl) ?_
          refine JgetI (g := 2) (z := Z 48 2) hx (show mx_Sn _ _ 37 (mx_getf 10 2 40) from sn_145 37) a48 s48 rfl rfl rfl ?_
          refine JcI (z := 18) (show mx_Sn _ _ 40 (mx_const (.int 18) 42) from sn_145 40) rfl ?_
          refine Jicmp_le (show mx_Sn _ _ 42 (mx_icmp_le 48 45) from sn_145 42) (by omega) (by omega) (fun q12 => ?_) (fun q12 => ?_)
          · skip
            refine mx_J.step (sn_145 48) (fun _ _ => rfl) ?_
            refine JcL (z := 1) (show mx_Sn _ _ 49 (mx_const (.long 1) 50) from sn_145 49) rfl ?_
            refine JcL (z := 18) (show mx_Sn _ _ 50 (mx_const (.long 18) 53) from sn_145 50) rfl ?_
            obtain ⟨z13, hc13, b13⟩ := ct_86_48 (d := d + 1) (l := l) (D := D) (b0 := b0) (ad := ad) (Hb := Hb) (tau := tau) hx hG (show (-9223372036854775808) ≤ 1 ∧ 1 ≤ 9223372036854775807 by omega) (show (-9223372036854775808) ≤ 18 ∧ 18 ≤ 9223372036854775807 by omega)
            obtain ⟨bs13_0, b13⟩ := b13
            obtain ⟨bs13_1, b13⟩ := b13
            refine Jcv hx (show mx_Sn _ _ 53 (mx_callv 86 3 10 56) from sn_145 53) a48 s48 hc13 rfl rfl rfl ?_
            have aw0 := bs13_0
            have aw1 := bs13_1
            refine Jif_ne (show mx_Sn _ _ 56 (mx_if_ne 62 59) from sn_145 56) (by omega) (fun q14 => ?_) (fun q14 => ?_)
            · skip
              have tz := aw0 (by omega)
              have inr : INR (Z 49) (Z 48 2) := fun j p q => by have := tz j p q; omega
              refine JcI (z := 0) (show mx_Sn _ _ 62 (mx_const (.int 0) 63) from sn_145 62) rfl ?_
              refine mx_J.step (ls2 := [some (.ref 1), some (xI 2), some (.ref 48), some (xI 0), none, none]) (sn_145 63) (fun _ _ => rfl) ?_
              refine mx_J.step (sn_145 64) (fun _ _ => rfl) ?_
              refine JgetR (g := 15) (b := 42) hx (show mx_Sn _ _ 65 (mx_getf 11 15 68) from sn_145 65) a1 s1 rfl rfl (hG.prr 1 15 rfl) ?_
              refine JcI (z := 0) (show mx_Sn _ _ 68 (mx_const (.int 0) 69) from sn_145 68) rfl ?_
              obtain ⟨Z16, h16, hc16, hx16, hG16, hf16, m16_42⟩ := ct_284_42_i0 (d := d + 1) (l := l) (D := D) (b0 := b0) (ad := ad) (Hb := Hb) (tau := tau) hx hG 
              refine Jcs0 (show mx_Sn _ _ 69 (mx_calls 284 2 72) from sn_145 69) hc16 rfl rfl rfl ?_
              refine JcI (z := 0) (show mx_Sn _ _ 72 (mx_const (.int 0) 73) from sn_145 72) rfl ?_
              refine mx_J.step (ls2 := [some (.ref 1), some (xI 2), some (.ref 48), some (xI 0), some (xI 0), none]) (sn_145 73) (fun _ _ => rfl) ?_
              have c75 : ∀ (m17 : Nat) (w17_3 : Int) (w17_4 : Int) (u17_5 : Option Value) (Z18 : xZ) (h18 : mx_H), 18 - w17_4 < (m17 : Int) → 0 ≤ w17_3 ∧ w17_3 ≤ 324 → 0 ≤ w17_4 ∧ w17_4 ≤ 18 → w17_3 ≤ 18 * w17_4 → w17_4 ≤ Z 48 2 → w17_3 = lsm (pfx (Z 49) (w17_4).toNat) → TLY Z18 (Z 49) w17_4 → AB Z18 42 (19) (0) (w17_4) → XH n s S Z18 h18 → GI n S Z18 → fr' [(42, (-1))] Z16 Z18 → mx_J (tB l D b0 ad Hb tau) mt_145 (d + 2) 75 [some (.ref 1), some (xI 2), some (.ref 48), some (xI w17_3), some (xI w17_4), u17_5] [] h18 Post := by
                intro m17
                induction m17 with
                | zero => intro w17_3 w17_4 u17_5 Z18 h18 q17 f17_0 f17_1 f17_2 f17_3 f17_4 f17_5 f17_6 hx18 hG18 hf18; exact absurd q17 (by omega)
                | succ m17 ih17 =>
                  intro w17_3 w17_4 u17_5 Z18 h18 q17 f17_0 f17_1 f17_2 f17_3 f17_4 f17_5 f17_6 hx18 hG18 hf18
                  refine mx_J.step (sn_145 75) (fun _ _ => rfl) ?_
                  refine mx_J.step (sn_145 77) (fun _ _ => rfl) ?_
                  refine JgetI (g := 2) (z := Z 48 2) hx18 (show mx_Sn _ _ 78 (mx_getf 10 2 81) from sn_145 78) a48 s48 rfl rfl ((hf18 48 2 rfl).trans (hf16 48 2 rfl)) ?_
                  refine Jicmp_ge (show mx_Sn _ _ 81 (mx_icmp_ge 115 84) from sn_145 81) (by omega) (by omega) (fun q20 => ?_) (fun q20 => ?_)
                  · skip
                    refine mx_J.step (sn_145 115) (fun _ _ => rfl) ?_
                    refine mx_J.step (sn_145 116) (fun _ _ => rfl) ?_
                    refine JgetR (g := 12) (b := 36) hx18 (show mx_Sn _ _ 117 (mx_getf 11 12 120) from sn_145 117) a1 s1 rfl rfl (hG18.prr 1 12 rfl) ?_
                    have b23 : 1 ≤ Z 36 1 ∧ Z 36 1 ≤ 18 := hG.pr 36 1
                    refine JgetI (g := 1) (z := Z 36 1) hx18 (show mx_Sn _ _ 120 (mx_getf 5 1 123) from sn_145 120) a36 s36 rfl rfl ((hf18 36 1 rfl).trans (hf16 36 1 rfl)) ?_
                    have c142 : ∀ (k24_0 : Int), (-5) ≤ k24_0 ∧ k24_0 ≤ 384 → (Z 7 4 = Z 36 1 → TO (Z 49) (Z 48 2) (Z 36 1) k24_0) → mx_J (tB l D b0 ad Hb tau) mt_145 (d + 2) 142 [some (.ref 1), some (xI 2), some (.ref 48), some (xI w17_3), some (xI w17_4), u17_5] [xI k24_0] h18 Post := by
                      intro k24_0 f24_0 f24_1
                      exact mx_J.ret (sn_145 142) (fun _ _ => rfl) (hP k24_0 Z18 h18 hx18 hG18 (fr_tr (M := [(42, (-1))]) (fr_tr (M := [(42, (-1))]) fr_rf (hf16) (M1 := []) rfl rfl) (hf18) rfl rfl) ⟨(fun q => absurd q (by decide)), (fun _ q => absurd q (by decide)), (fun _ q => absurd q (by decide)), (fun w _ => ⟨fun q => absurd q (by omega), fun _ => (by assumption : Z 7 4 = Z 36 1 → TO (Z 49) (Z 48 2) (Z 36 1) _) w⟩), (fun _ q => absurd q (by decide)), by omega⟩)
                    refine Jicmp_ne (show mx_Sn _ _ 123 (mx_icmp_ne 140 126) from sn_145 123) (by omega) (by omega) (fun q25 => ?_) (fun q25 => ?_)
                    · skip
                      refine JcI (z := (-5)) (show mx_Sn _ _ 140 (mx_const (.int (-5)) 142) from sn_145 140) rfl ?_
                      exact c142 (-5) (by omega) (fun w => TO_5 (t := w17_3) (by omega) (by omega) inr (lsp_m (by assumption) (by omega)) (by omega) rfl)
                    · skip
                      refine mx_J.step (sn_145 126) (fun _ _ => rfl) ?_
                      refine JgetR (g := 5) (b := 7) hx18 (show mx_Sn _ _ 127 (mx_getf 11 5 130) from sn_145 127) a1 s1 rfl rfl (hG18.prr 1 5 rfl) ?_
                      refine mx_J.step (sn_145 130) (fun _ _ => rfl) ?_
                      refine JgetR (g := 15) (b := 42) hx18 (show mx_Sn _ _ 131 (mx_getf 11 15 134) from sn_145 131) a1 s1 rfl rfl (hG18.prr 1 15 rfl) ?_
                      obtain ⟨z28, hc28, b28⟩ := ct_9_7_42 (d := d + 0) (l := l) (D := D) (b0 := b0) (ad := ad) (Hb := Hb) (tau := tau) hx18 hG18  (ab_mono f17_6 (by omega) (by omega) (by omega))
                      obtain ⟨bs28_0, b28⟩ := b28
                      refine Jcv hx18 (show mx_Sn _ _ 134 (mx_callv 9 2 0 137) from sn_145 134) a7 s7 hc28 rfl rfl rfl ?_
                      refine mx_J.step (sn_145 137) (fun _ _ => rfl) ?_
                      exact c142 z28 (by omega) (fun w => TO_y (t := w17_3) (by omega) (by omega) inr (lsp_m (by assumption) (by omega)) (by omega) (tly_m (by assumption) (by omega)) ((bs28_0).trans (by rw [(show Z18 7 4 = Z 7 4 from ((hf18 7 4 rfl).trans (hf16 7 4 rfl))), w])))
                  · skip
                    refine mx_J.step (sn_145 84) (fun _ _ => rfl) ?_
                    refine mx_J.step (sn_145 85) (fun _ _ => rfl) ?_
                    have eq30 : Z18 49 w17_4 = Z 49 w17_4 := ((hf18 49 w17_4 rfl).trans (hf16 49 w17_4 rfl))
                    have b31 : (-9223372036854775808) ≤ Z 49 w17_4 ∧ Z 49 w17_4 ≤ 9223372036854775807 := hG.pr 49 w17_4
                    obtain ⟨z29, hc29, b29⟩ := ct_85_48 (d := d + 1) (l := l) (D := D) (b0 := b0) (ad := ad) (Hb := Hb) (tau := tau) hx18 hG18 (show (-2147483648) ≤ w17_4 ∧ w17_4 ≤ 2147483647 by omega)
                    try rw [eq30] at b29
                    refine Jcv hx18 (show mx_Sn _ _ 87 (mx_callv 85 2 10 90) from sn_145 87) a48 s48 hc29 rfl rfl rfl ?_
                    have tw := tz w17_4 (by omega) (by omega)
                    refine Jl2i (show mx_Sn _ _ 90 (mx_l2i 91) from sn_145 90) ?_
                    refine mx_J.step (ls2 := [some (.ref 1), some (xI 2), some (.ref 48), some (xI w17_3), some (xI w17_4), some (xI z29)]) (sn_145 91) (fun _ _ => rfl) ?_
                    refine mx_J.step (sn_145 93) (fun _ _ => rfl) ?_
                    refine JgetR (g := 15) (b := 42) hx18 (show mx_Sn _ _ 94 (mx_getf 11 15 97) from sn_145 94) a1 s1 rfl rfl (hG18.prr 1 15 rfl) ?_
                    refine mx_J.step (sn_145 97) (fun _ _ => rfl) ?_
                    refine mx_J.step (sn_145 99) (fun _ _ => rfl) ?_
                    have b33 : 0 ≤ Z18 42 z29 ∧ Z18 42 z29 ≤ w17_4 := f17_6 z29 (by omega) (by omega)
                    have b34 : (-2147483648) ≤ Z18 42 z29 ∧ Z18 42 z29 ≤ 2147483647 := hG18.pr 42 z29
                    refine JialdI (z := Z18 42 z29) hx18 (show mx_Sn _ _ 100 (mx_iald 101) from sn_145 100) a42 s42 (by omega) rfl ?_
                    refine JcI (z := 1) (show mx_Sn _ _ 101 (mx_const (.int 1) 102) from sn_145 101) rfl ?_
                    refine Jiadd (show mx_Sn _ _ 102 (mx_iadd 103) from sn_145 102) ?_
                    refine JiastI hx18 (show mx_Sn _ _ 103 (mx_iast 1 104) from sn_145 103) a42 s42 rfl (by omega) (fun Z35 h35 hx35 hE35 => ?_)
                    have hG35 := GI_up hG18 hE35 (show (-2147483648) ≤ (Z18 42 z29) + 1 ∧ (Z18 42 z29) + 1 ≤ 2147483647 by omega) trivial rfl
                    have m35 : AB Z35 42 19 0 (w17_4 + 1) := ab_up hE35 f17_6 (by omega) (by omega) (by omega)
                    have tl2 := tly_s (Z := Z18) (a := Z 49) (k := w17_4) (by assumption) (by omega) (by omega) hE35 rfl
                    refine mx_J.step (sn_145 104) (fun _ _ => rfl) ?_
                    refine mx_J.step (sn_145 105) (fun _ _ => rfl) ?_
                    refine Jiadd (show mx_Sn _ _ 107 (mx_iadd 108) from sn_145 107) ?_
                    refine mx_J.step (ls2 := [some (.ref 1), some (xI 2), some (.ref 48), some (xI (w17_3 + z29)), some (xI w17_4), some (xI z29)]) (sn_145 108) (fun _ _ => rfl) ?_
                    refine Jiinc (z := w17_4) (cz := 1) (ls2 := [some (.ref 1), some (xI 2), some (.ref 48), some (xI (w17_3 + z29)), some (xI (w17_4 + 1)), some (xI z29)]) (show mx_Sn _ _ 109 (mx_iinc 4 1 112) from sn_145 109) rfl rfl rfl rfl ?_
                    refine mx_J.step (sn_145 112) (fun _ _ => rfl) ?_
                    exact ih17 (w17_3 + z29) (w17_4 + 1) (some (xI z29)) Z35 h35 (by omega) (by omega) (by omega) (by omega) (by omega) (lsp_s (by assumption) (by omega) (by omega)) (tl2) (ab_mono m35 (by omega) (by omega) (by omega)) hx35 hG35 (fr_tr (M := [(42, (-1))]) (fr_tr (M := [(42, (-1))]) fr_rf (hf18) (M1 := []) rfl rfl) (fr_ua hE35) rfl rfl)
              exact c75 (Int.toNat (18 - 0) + 1) 0 0 none Z16 h16 (by omega) (by omega) (by omega) (by omega) (by omega) (lsp_0) (tly_0 (by assumption)) (ab_mono m16_42 (by omega) (by omega) (by omega)) hx16 hG16 fr_rf
            · skip
              refine JcI (z := (-3)) (show mx_Sn _ _ 59 (mx_const (.int (-3)) 61) from sn_145 59) rfl ?_
              exact mx_J.ret (sn_145 61) (fun _ _ => rfl) (hP (-3) Z h hx hG fr_rf ⟨(fun q => absurd q (by decide)), (fun _ q => absurd q (by decide)), (fun _ q => absurd q (by decide)), (fun _ _ => ⟨fun q => absurd q (by omega), fun _ => TO_3 (by omega) (by omega) (fun q => by obtain ⟨j, j0, j1, j2⟩ := aw1 (by omega); have := q j j0 j1; omega) rfl⟩), (fun _ q => absurd q (by decide)), by omega⟩)
          · skip
            exact c45 (by omega)
      · skip
        refine JcI (z := (-6)) (show mx_Sn _ _ 25 (mx_const (.int (-6)) 27) from sn_145 25) rfl ?_
        exact mx_J.ret (sn_145 27) (fun _ _ => rfl) (hP (-6) Z h hx hG fr_rf ⟨(fun q => absurd q (by decide)), (fun _ q => absurd q (by decide)), (fun _ q => absurd q (by decide)), (fun _ _ => ⟨fun _ => rfl, fun q => absurd q (by omega)⟩), (fun _ q => absurd q (by decide)), by omega⟩)
    · skip
      exfalso; omega
theorem ct_145_1_i2 {l : Launch} {D : va_G} {b0 : Nat} {ad : Nat → Nat} {Hb : Heap} {tau : Nat → Int64} {d n s : Nat} {S : Nat → xS} {Z : xZ} {h : mx_H} (hx : XH n s S Z h) (hG : GI n S Z)   : ∃ (z : Int) (Z' : xZ) (h' : mx_H), mx_Ca (tB l D b0 ad Hb tau) (d + 3) 145 [.ref 1, xI 2] h (some (xI z), h') ∧ XH n s S Z' h' ∧ GI n S Z' ∧ fr' [(42, (-1))] Z Z' ∧ ((((2 : Int) < 0 ∨ 3 < (2 : Int)) → z = -2) ∧ (Z 7 4 = Z 36 1 → (2 : Int) = 0 → (Z 44 3 = 1 → z = -6) ∧ (Z 44 3 = 0 → TO (Z 45) (Z 44 2) (Z 36 1) z)) ∧ (Z 7 4 = Z 36 1 → (2 : Int) = 1 → (Z 46 3 = 1 → z = -6) ∧ (Z 46 3 = 0 → TO (Z 47) (Z 46 2) (Z 36 1) z)) ∧ (Z 7 4 = Z 36 1 → (2 : Int) = 2 → (Z 48 3 = 1 → z = -6) ∧ (Z 48 3 = 0 → TO (Z 49) (Z 48 2) (Z 36 1) z)) ∧ (Z 7 4 = Z 36 1 → (2 : Int) = 3 → (Z 50 3 = 1 → z = -6) ∧ (Z 50 3 = 0 → TO (Z 51) (Z 50 2) (Z 36 1) z)) ∧ (-6) ≤ z ∧ z ≤ 384) := by
  obtain ⟨r, hca, z, Z', h', e, q⟩ := Jmt (B := tB l D b0 ad Hb tau) (M := mt_145) (mi := 145) (as := [.ref 1, xI 2]) (d := d + 2) (ls := [some (.ref 1), some (xI 2), none, none, none, none]) rfl rfl rfl rfl rfl rfl (cw_145_1_i2 (l := l) (D := D) (b0 := b0) (ad := ad) (Hb := Hb) (tau := tau) (d := d) (Post := fun r => ∃ (z : Int) (Z' : xZ) (h' : mx_H), r = (some (xI z), h') ∧ XH n s S Z' h' ∧ GI n S Z' ∧ fr' [(42, (-1))] Z Z' ∧ ((((2 : Int) < 0 ∨ 3 < (2 : Int)) → z = -2) ∧ (Z 7 4 = Z 36 1 → (2 : Int) = 0 → (Z 44 3 = 1 → z = -6) ∧ (Z 44 3 = 0 → TO (Z 45) (Z 44 2) (Z 36 1) z)) ∧ (Z 7 4 = Z 36 1 → (2 : Int) = 1 → (Z 46 3 = 1 → z = -6) ∧ (Z 46 3 = 0 → TO (Z 47) (Z 46 2) (Z 36 1) z)) ∧ (Z 7 4 = Z 36 1 → (2 : Int) = 2 → (Z 48 3 = 1 → z = -6) ∧ (Z 48 3 = 0 → TO (Z 49) (Z 48 2) (Z 36 1) z)) ∧ (Z 7 4 = Z 36 1 → (2 : Int) = 3 → (Z 50 3 = 1 → z = -6) ∧ (Z 50 3 = 0 → TO (Z 51) (Z 50 2) (Z 36 1) z)) ∧ (-6) ≤ z ∧ z ≤ 384)) hx hG  (fun z Z' h' q1 q2 q3 q4 => ⟨z, Z', h', rfl, q1, q2, q3, q4⟩))
  subst e; exact ⟨z, Z', h', hca, q⟩
set_option maxRecDepth 100000 in
theorem cw_145_1_i3 {l : Launch} {D : va_G} {b0 : Nat} {ad : Nat → Nat} {Hb : Heap} {tau : Nat → Int64} {d n s : Nat} {S : Nat → xS} {Z : xZ} {h : mx_H} {Post : mx_R → Prop} (hx : XH n s S Z h) (hG : GI n S Z)   (hP : ∀ (z : Int) (Z' : xZ) (h' : mx_H), XH n s S Z' h' → GI n S Z' → fr' [(42, (-1))] Z Z' → (((3 : Int) < 0 ∨ 3 < (3 : Int)) → z = -2) ∧ (Z 7 4 = Z 36 1 → (3 : Int) = 0 → (Z 44 3 = 1 → z = -6) ∧ (Z 44 3 = 0 → TO (Z 45) (Z 44 2) (Z 36 1) z)) ∧ (Z 7 4 = Z 36 1 → (3 : Int) = 1 → (Z 46 3 = 1 → z = -6) ∧ (Z 46 3 = 0 → TO (Z 47) (Z 46 2) (Z 36 1) z)) ∧ (Z 7 4 = Z 36 1 → (3 : Int) = 2 → (Z 48 3 = 1 → z = -6) ∧ (Z 48 3 = 0 → TO (Z 49) (Z 48 2) (Z 36 1) z)) ∧ (Z 7 4 = Z 36 1 → (3 : Int) = 3 → (Z 50 3 = 1 → z = -6) ∧ (Z 50 3 = 0 → TO (Z 51) (Z 50 2) (Z 36 1) z)) ∧ (-6) ≤ z ∧ z ≤ 384 → Post (some (xI z), h')) : mx_J (tB l D b0 ad Hb tau) mt_145 (d + 2) 0 [some (.ref 1), some (xI 3), none, none, none, none] [] h Post := by
    have a1 : 1 < n := lt83 (GI_n hG) rfl
    have s1 : S 1 = .inl (11, [2, 0, 0, 0, 2, 2, 2, 2, 2, 2, 2, 2, 2, 2, 2, 2, 2]) := GI_s hG 1 rfl
    have a7 : 7 < n := lt83 (GI_n hG) rfl
    have s7 : S 7 = .inl (0, [2, 2, 2, 2, 0, 0]) := GI_s hG 7 rfl
    have a34 : 34 < n := lt83 (GI_n hG) rfl
    have s34 : S 34 = .inr ((.object "TitheHeap$Tray"), 4, 2) := GI_s hG 34 rfl
    have a36 : 36 < n := lt83 (GI_n hG) rfl
    have s36 : S 36 = .inl (5, [2, 0, 0, 0, 0, 0]) := GI_s hG 36 rfl
    have a42 : 42 < n := lt83 (GI_n hG) rfl
    have s42 : S 42 = .inr (.int, 19, 0) := GI_s hG 42 rfl
    have a50 : 50 < n := lt83 (GI_n hG) rfl
    have s50 : S 50 = .inl (10, [2, 0, 0, 0]) := GI_s hG 50 rfl
    refine mx_J.step (sn_145 0) (fun _ _ => rfl) ?_
    refine mx_J.step (sn_145 1) (fun _ _ => rfl) ?_
    obtain ⟨z1, hc1, b1⟩ := ct_144_1_y (d := d + 1) (l := l) (D := D) (b0 := b0) (ad := ad) (Hb := Hb) (tau := tau) hx hG (show 0 ≤ 3 ∧ 3 ≤ 3 by omega)
    refine Jcv hx (show mx_Sn _ _ 2 (mx_callv 144 2 11 5) from sn_145 2) a1 s1 hc1 rfl rfl rfl ?_
    refine Jif_eq (show mx_Sn _ _ 5 (mx_if_eq 11 8) from sn_145 5) (by omega) (fun q2 => ?_) (fun q2 => ?_)
    · skip
      refine mx_J.step (sn_145 11) (fun _ _ => rfl) ?_
      refine JgetR (g := 10) (b := 34) hx (show mx_Sn _ _ 12 (mx_getf 11 10 15) from sn_145 12) a1 s1 rfl rfl (hG.prr 1 10 rfl) ?_
      refine mx_J.step (sn_145 15) (fun _ _ => rfl) ?_
      refine JaaldR (i := 3) (b := 50) hx (show mx_Sn _ _ 16 (mx_aald 17) from sn_145 16) a34 s34 (by omega) (show Z 34 3 = 50 by have hq := GI_ex hG 34 3; replace hq : ((0 : Int) ≤ 3 → (3 : Int) ≤ 3 → (Z 34 3) = 44 + 2 * 3) := hq; omega) ?_
      refine mx_J.step (ls2 := [some (.ref 1), some (xI 3), some (.ref 50), none, none, none]) (sn_145 17) (fun _ _ => rfl) ?_
      refine mx_J.step (sn_145 18) (fun _ _ => rfl) ?_
      have b5 : 0 ≤ Z 50 3 ∧ Z 50 3 ≤ 1 := hG.pr 50 3
      refine JgetI (g := 3) (z := Z 50 3) hx (show mx_Sn _ _ 19 (mx_getf 10 3 22) from sn_145 19) a50 s50 rfl rfl rfl ?_
      refine Jif_eq (show mx_Sn _ _ 22 (mx_if_eq 28 25) from sn_145 22) (by omega) (fun q6 => ?_) (fun q6 => ?_)
      · skip
        refine mx_J.step (sn_145 28) (fun _ _ => rfl) ?_
        have b8 : 0 ≤ Z 50 2 ∧ Z 50 2 ≤ 40 := hG.pr 50 2
        refine JgetI (g := 2) (z := Z 50 2) hx (show mx_Sn _ _ 29 (mx_getf 10 2 32) from sn_145 29) a50 s50 rfl rfl rfl ?_
        refine JcI (z := 1) (show mx_Sn _ _ 32 (mx_const (.int 1) 33) from sn_145 32) rfl ?_
        have c45 : (Z 50 2 < 1 ∨ 18 < Z 50 2) → mx_J (tB l D b0 ad Hb tau) mt_145 (d + 2) 45 [some (.ref 1), some (xI 3), some (.ref 50), none, none, none] [] h Post := by
          intro f9_0
          refine JcI (z := (-4)) (show mx_Sn _ _ 45 (mx_const (.int (-4)) 47) from sn_145 45) rfl ?_
          exact mx_J.ret (sn_145 47) (fun _ _ => rfl) (hP (-4) Z h hx hG fr_rf ⟨(fun q => absurd q (by decide)), (fun _ q => absurd q (by decide)), (fun _ q => absurd q (by decide)), (fun _ q => absurd q (by decide)), (fun _ _ => ⟨fun q => absurd q (by omega), fun _ => TO_4 (by omega) rfl⟩), by omega⟩)
        refine Jicmp_lt (show mx_Sn _ _ 33 (mx_icmp_lt 45 36) from sn_145 33) (by omega) (by omega) (fun q10 => ?_) (fun q10 => ?_)
        · skip
          exact c45 (by omega)
        · skip
          refine mx_J.step (sn_145 36) (fun _ _ => rfl) ?_
          refine JgetI (g := 2) (z := Z 50 2) hx (show mx_Sn _ _ 37 (mx_getf 10 2 40) from sn_145 37) a50 s50 rfl rfl rfl ?_
          refine JcI (z := 18) (show mx_Sn _ _ 40 (mx_const (.int 18) 42) from sn_145 40) rfl ?_
          refine Jicmp_le (show mx_Sn _ _ 42 (mx_icmp_le 48 45) from sn_145 42) (by omega) (by omega) (fun q12 => ?_) (fun q12 => ?_)
          · skip
            refine mx_J.step (sn_145 48) (fun _ _ => rfl) ?_
            refine JcL (z := 1) (show mx_Sn _ _ 49 (mx_const (.long 1) 50) from sn_145 49) rfl ?_
            refine JcL (z := 18) (show mx_Sn _ _ 50 (mx_const (.long 18) 53) from sn_145 50) rfl ?_
            obtain ⟨z13, hc13, b13⟩ := ct_86_50 (d := d + 1) (l := l) (D := D) (b0 := b0) (ad := ad) (Hb := Hb) (tau := tau) hx hG (show (-9223372036854775808) ≤ 1 ∧ 1 ≤ 9223372036854775807 by omega) (show (-9223372036854775808) ≤ 18 ∧ 18 ≤ 9223372036854775807 by omega)
            obtain ⟨bs13_0, b13⟩ := b13
            obtain ⟨bs13_1, b13⟩ := b13
            refine Jcv hx (show mx_Sn _ _ 53 (mx_callv 86 3 10 56) from sn_145 53) a50 s50 hc13 rfl rfl rfl ?_
            have aw0 := bs13_0
            have aw1 := bs13_1
            refine Jif_ne (show mx_Sn _ _ 56 (mx_if_ne 62 59) from sn_145 56) (by omega) (fun q14 => ?_) (fun q14 => ?_)
            · skip
              have tz := aw0 (by omega)
              have inr : INR (Z 51) (Z 50 2) := fun j p q => by have := tz j p q; omega
              refine JcI (z := 0) (show mx_Sn _ _ 62 (mx_const (.int 0) 63) from sn_145 62) rfl ?_
              refine mx_J.step (ls2 := [some (.ref 1), some (xI 3), some (.ref 50), some (xI 0), none, none]) (sn_145 63) (fun _ _ => rfl) ?_
              refine mx_J.step (sn_145 64) (fun _ _ => rfl) ?_
              refine JgetR (g := 15) (b := 42) hx (show mx_Sn _ _ 65 (mx_getf 11 15 68) from sn_145 65) a1 s1 rfl rfl (hG.prr 1 15 rfl) ?_
              refine JcI (z := 0) (show mx_Sn _ _ 68 (mx_const (.int 0) 69) from sn_145 68) rfl ?_
              obtain ⟨Z16, h16, hc16, hx16, hG16, hf16, m16_42⟩ := ct_284_42_i0 (d := d + 1) (l := l) (D := D) (b0 := b0) (ad := ad) (Hb := Hb) (tau := tau) hx hG 
              refine Jcs0 (show mx_Sn _ _ 69 (mx_calls 284 2 72) from sn_145 69) hc16 rfl rfl rfl ?_
              refine JcI (z := 0) (show mx_Sn _ _ 72 (mx_const (.int 0) 73) from sn_145 72) rfl ?_
              refine mx_J.step (ls2 := [some (.ref 1), some (xI 3), some (.ref 50), some (xI 0), some (xI 0), none]) (sn_145 73) (fun _ _ => rfl) ?_
              have c75 : ∀ (m17 : Nat) (w17_3 : Int) (w17_4 : Int) (u17_5 : Option Value) (Z18 : xZ) (h18 : mx_H), 18 - w17_4 < (m17 : Int) → 0 ≤ w17_3 ∧ w17_3 ≤ 324 → 0 ≤ w17_4 ∧ w17_4 ≤ 18 → w17_3 ≤ 18 * w17_4 → w17_4 ≤ Z 50 2 → w17_3 = lsm (pfx (Z 51) (w17_4).toNat) → TLY Z18 (Z 51) w17_4 → AB Z18 42 (19) (0) (w17_4) → XH n s S Z18 h18 → GI n S Z18 → fr' [(42, (-1))] Z16 Z18 → mx_J (tB l D b0 ad Hb tau) mt_145 (d + 2) 75 [some (.ref 1), some (xI 3), some (.ref 50), some (xI w17_3), some (xI w17_4), u17_5] [] h18 Post := by
                intro m17
                induction m17 with
                | zero => intro w17_3 w17_4 u17_5 Z18 h18 q17 f17_0 f17_1 f17_2 f17_3 f17_4 f17_5 f17_6 hx18 hG18 hf18; exact absurd q17 (by omega)
                | succ m17 ih17 =>
                  intro w17_3 w17_4 u17_5 Z18 h18 q17 f17_0 f17_1 f17_2 f17_3 f17_4 f17_5 f17_6 hx18 hG18 hf18
                  refine mx_J.step (sn_145 75) (fun _ _ => rfl) ?_
                  refine mx_J.step (sn_145 77) (fun _ _ => rfl) ?_
                  refine JgetI (g := 2) (z := Z 50 2) hx18 (show mx_Sn _ _ 78 (mx_getf 10 2 81) from sn_145 78) a50 s50 rfl rfl ((hf18 50 2 rfl).trans (hf16 50 2 rfl)) ?_
                  refine Jicmp_ge (show mx_Sn _ _ 81 (mx_icmp_ge 115 84) from sn_145 81) (by omega) (by omega) (fun q20 => ?_) (fun q20 => ?_)
                  · skip
                    refine mx_J.step (sn_145 115) (fun _ _ => rfl) ?_
                    refine mx_J.step (sn_145 116) (fun _ _ => rfl) ?_
                    refine JgetR (g := 12) (b := 36) hx18 (show mx_Sn _ _ 117 (mx_getf 11 12 120) from sn_145 117) a1 s1 rfl rfl (hG18.prr 1 12 rfl) ?_
                    have b23 : 1 ≤ Z 36 1 ∧ Z 36 1 ≤ 18 := hG.pr 36 1
                    refine JgetI (g := 1) (z := Z 36 1) hx18 (show mx_Sn _ _ 120 (mx_getf 5 1 123) from sn_145 120) a36 s36 rfl rfl ((hf18 36 1 rfl).trans (hf16 36 1 rfl)) ?_
                    have c142 : ∀ (k24_0 : Int), (-5) ≤ k24_0 ∧ k24_0 ≤ 384 → (Z 7 4 = Z 36 1 → TO (Z 51) (Z 50 2) (Z 36 1) k24_0) → mx_J (tB l D b0 ad Hb tau) mt_145 (d + 2) 142 [some (.ref 1), some (xI 3), some (.ref 50), some (xI w17_3), some (xI w17_4), u17_5] [xI k24_0] h18 Post := by
                      intro k24_0 f24_0 f24_1
                      exact mx_J.ret (sn_145 142) (fun _ _ => rfl) (hP k24_0 Z18 h18 hx18 hG18 (fr_tr (M := [(42, (-1))]) (fr_tr (M := [(42, (-1))]) fr_rf (hf16) (M1 := []) rfl rfl) (hf18) rfl rfl) ⟨(fun q => absurd q (by decide)), (fun _ q => absurd q (by decide)), (fun _ q => absurd q (by decide)), (fun _ q => absurd q (by decide)), (fun w _ => ⟨fun q => absurd q (by omega), fun _ => (by assumption : Z 7 4 = Z 36 1 → TO (Z 51) (Z 50 2) (Z 36 1) _) w⟩), by omega⟩)
                    refine Jicmp_ne (show mx_Sn _ _ 123 (mx_icmp_ne 140 126) from sn_145 123) (by omega) (by omega) (fun q25 => ?_) (fun q25 => ?_)
                    · skip
                      refine JcI (z := (-5)) (show mx_Sn _ _ 140 (mx_const (.int (-5)) 142) from sn_145 140) rfl ?_
                      exact c142 (-5) (by omega) (fun w => TO_5 (t := w17_3) (by omega) (by omega) inr (lsp_m (by assumption) (by omega)) (by omega) rfl)
                    · skip
                      refine mx_J.step (sn_145 126) (fun _ _ => rfl) ?_
                      refine JgetR (g := 5) (b := 7) hx18 (show mx_Sn _ _ 127 (mx_getf 11 5 130) from sn_145 127) a1 s1 rfl rfl (hG18.prr 1 5 rfl) ?_
                      refine mx_J.step (sn_145 130) (fun _ _ => rfl) ?_
                      refine JgetR (g := 15) (b := 42) hx18 (show mx_Sn _ _ 131 (mx_getf 11 15 134) from sn_145 131) a1 s1 rfl rfl (hG18.prr 1 15 rfl) ?_
                      obtain ⟨z28, hc28, b28⟩ := ct_9_7_42 (d := d + 0) (l := l) (D := D) (b0 := b0) (ad := ad) (Hb := Hb) (tau := tau) hx18 hG18  (ab_mono f17_6 (by omega) (by omega) (by omega))
                      obtain ⟨bs28_0, b28⟩ := b28
                      refine Jcv hx18 (show mx_Sn _ _ 134 (mx_callv 9 2 0 137) from sn_145 134) a7 s7 hc28 rfl rfl rfl ?_
                      refine mx_J.step (sn_145 137) (fun _ _ => rfl) ?_
                      exact c142 z28 (by omega) (fun w => TO_y (t := w17_3) (by omega) (by omega) inr (lsp_m (by assumption) (by omega)) (by omega) (tly_m (by assumption) (by omega)) ((bs28_0).trans (by rw [(show Z18 7 4 = Z 7 4 from ((hf18 7 4 rfl).trans (hf16 7 4 rfl))), w])))
                  · skip
                    refine mx_J.step (sn_145 84) (fun _ _ => rfl) ?_
                    refine mx_J.step (sn_145 85) (fun _ _ => rfl) ?_
                    have eq30 : Z18 51 w17_4 = Z 51 w17_4 := ((hf18 51 w17_4 rfl).trans (hf16 51 w17_4 rfl))
                    have b31 : (-9223372036854775808) ≤ Z 51 w17_4 ∧ Z 51 w17_4 ≤ 9223372036854775807 := hG.pr 51 w17_4
                    obtain ⟨z29, hc29, b29⟩ := ct_85_50 (d := d + 1) (l := l) (D := D) (b0 := b0) (ad := ad) (Hb := Hb) (tau := tau) hx18 hG18 (show (-2147483648) ≤ w17_4 ∧ w17_4 ≤ 2147483647 by omega)
                    try rw [eq30] at b29
                    refine Jcv hx18 (show mx_Sn _ _ 87 (mx_callv 85 2 10 90) from sn_145 87) a50 s50 hc29 rfl rfl rfl ?_
                    have tw := tz w17_4 (by omega) (by omega)
                    refine Jl2i (show mx_Sn _ _ 90 (mx_l2i 91) from sn_145 90) ?_
                    refine mx_J.step (ls2 := [some (.ref 1), some (xI 3), some (.ref 50), some (xI w17_3), some (xI w17_4), some (xI z29)]) (sn_145 91) (fun _ _ => rfl) ?_
                    refine mx_J.step (sn_145 93) (fun _ _ => rfl) ?_
                    refine JgetR (g := 15) (b := 42) hx18 (show mx_Sn _ _ 94 (mx_getf 11 15 97) from sn_145 94) a1 s1 rfl rfl (hG18.prr 1 15 rfl) ?_
                    refine mx_J.step (sn_145 97) (fun _ _ => rfl) ?_
                    refine mx_J.step (sn_145 99) (fun _ _ => rfl) ?_
                    have b33 : 0 ≤ Z18 42 z29 ∧ Z18 42 z29 ≤ w17_4 := f17_6 z29 (by omega) (by omega)
                    have b34 : (-2147483648) ≤ Z18 42 z29 ∧ Z18 42 z29 ≤ 2147483647 := hG18.pr 42 z29
                    refine JialdI (z := Z18 42 z29) hx18 (show mx_Sn _ _ 100 (mx_iald 101) from sn_145 100) a42 s42 (by omega) rfl ?_
                    refine JcI (z := 1) (show mx_Sn _ _ 101 (mx_const (.int 1) 102) from sn_145 101) rfl ?_
                    refine Jiadd (show mx_Sn _ _ 102 (mx_iadd 103) from sn_145 102) ?_
                    refine JiastI hx18 (show mx_Sn _ _ 103 (mx_iast 1 104) from sn_145 103) a42 s42 rfl (by omega) (fun Z35 h35 hx35 hE35 => ?_)
                    have hG35 := GI_up hG18 hE35 (show (-2147483648) ≤ (Z18 42 z29) + 1 ∧ (Z18 42 z29) + 1 ≤ 2147483647 by omega) trivial rfl
                    have m35 : AB Z35 42 19 0 (w17_4 + 1) := ab_up hE35 f17_6 (by omega) (by omega) (by omega)
                    have tl2 := tly_s (Z := Z18) (a := Z 51) (k := w17_4) (by assumption) (by omega) (by omega) hE35 rfl
                    refine mx_J.step (sn_145 104) (fun _ _ => rfl) ?_
                    refine mx_J.step (sn_145 105) (fun _ _ => rfl) ?_
                    refine Jiadd (show mx_Sn _ _ 107 (mx_iadd 108) from sn_145 107) ?_
                    refine mx_J.step (ls2 := [some (.ref 1), some (xI 3), some (.ref 50), some (xI (w17_3 + z29)), some (xI w17_4), some (xI z29)]) (sn_145 108) (fun _ _ => rfl) ?_
                    refine Jiinc (z := w17_4) (cz := 1) (ls2 := [some (.ref 1), some (xI 3), some (.ref 50), some (xI (w17_3 + z29)), some (xI (w17_4 + 1)), some (xI z29)]) (show mx_Sn _ _ 109 (mx_iinc 4 1 112) from sn_145 109) rfl rfl rfl rfl ?_
                    refine mx_J.step (sn_145 112) (fun _ _ => rfl) ?_
                    exact ih17 (w17_3 + z29) (w17_4 + 1) (some (xI z29)) Z35 h35 (by omega) (by omega) (by omega) (by omega) (by omega) (lsp_s (by assumption) (by omega) (by omega)) (tl2) (ab_mono m35 (by omega) (by omega) (by omega)) hx35 hG35 (fr_tr (M := [(42, (-1))]) (fr_tr (M := [(42, (-1))]) fr_rf (hf18) (M1 := []) rfl rfl) (fr_ua hE35) rfl rfl)
              exact c75 (Int.toNat (18 - 0) + 1) 0 0 none Z16 h16 (by omega) (by omega) (by omega) (by omega) (by omega) (lsp_0) (tly_0 (by assumption)) (ab_mono m16_42 (by omega) (by omega) (by omega)) hx16 hG16 fr_rf
            · skip
              refine JcI (z := (-3)) (show mx_Sn _ _ 59 (mx_const (.int (-3)) 61) from sn_145 59) rfl ?_
              exact mx_J.ret (sn_145 61) (fun _ _ => rfl) (hP (-3) Z h hx hG fr_rf ⟨(fun q => absurd q (by decide)), (fun _ q => absurd q (by decide)), (fun _ q => absurd q (by decide)), (fun _ q => absurd q (by decide)), (fun _ _ => ⟨fun q => absurd q (by omega), fun _ => TO_3 (by omega) (by omega) (fun q => by obtain ⟨j, j0, j1, j2⟩ := aw1 (by omega); have := q j j0 j1; omega) rfl⟩), by omega⟩)
          · skip
            exact c45 (by omega)
      · skip
        refine JcI (z := (-6)) (show mx_Sn _ _ 25 (mx_const (.int (-6)) 27) from sn_145 25) rfl ?_
        exact mx_J.ret (sn_145 27) (fun _ _ => rfl) (hP (-6) Z h hx hG fr_rf ⟨(fun q => absurd q (by decide)), (fun _ q => absurd q (by decide)), (fun _ q => absurd q (by decide)), (fun _ q => absurd q (by decide)), (fun _ _ => ⟨fun _ => rfl, fun q => absurd q (by omega)⟩), by omega⟩)
    · skip
      exfalso; omega
theorem ct_145_1_i3 {l : Launch} {D : va_G} {b0 : Nat} {ad : Nat → Nat} {Hb : Heap} {tau : Nat → Int64} {d n s : Nat} {S : Nat → xS} {Z : xZ} {h : mx_H} (hx : XH n s S Z h) (hG : GI n S Z)   : ∃ (z : Int) (Z' : xZ) (h' : mx_H), mx_Ca (tB l D b0 ad Hb tau) (d + 3) 145 [.ref 1, xI 3] h (some (xI z), h') ∧ XH n s S Z' h' ∧ GI n S Z' ∧ fr' [(42, (-1))] Z Z' ∧ ((((3 : Int) < 0 ∨ 3 < (3 : Int)) → z = -2) ∧ (Z 7 4 = Z 36 1 → (3 : Int) = 0 → (Z 44 3 = 1 → z = -6) ∧ (Z 44 3 = 0 → TO (Z 45) (Z 44 2) (Z 36 1) z)) ∧ (Z 7 4 = Z 36 1 → (3 : Int) = 1 → (Z 46 3 = 1 → z = -6) ∧ (Z 46 3 = 0 → TO (Z 47) (Z 46 2) (Z 36 1) z)) ∧ (Z 7 4 = Z 36 1 → (3 : Int) = 2 → (Z 48 3 = 1 → z = -6) ∧ (Z 48 3 = 0 → TO (Z 49) (Z 48 2) (Z 36 1) z)) ∧ (Z 7 4 = Z 36 1 → (3 : Int) = 3 → (Z 50 3 = 1 → z = -6) ∧ (Z 50 3 = 0 → TO (Z 51) (Z 50 2) (Z 36 1) z)) ∧ (-6) ≤ z ∧ z ≤ 384) := by
  obtain ⟨r, hca, z, Z', h', e, q⟩ := Jmt (B := tB l D b0 ad Hb tau) (M := mt_145) (mi := 145) (as := [.ref 1, xI 3]) (d := d + 2) (ls := [some (.ref 1), some (xI 3), none, none, none, none]) rfl rfl rfl rfl rfl rfl (cw_145_1_i3 (l := l) (D := D) (b0 := b0) (ad := ad) (Hb := Hb) (tau := tau) (d := d) (Post := fun r => ∃ (z : Int) (Z' : xZ) (h' : mx_H), r = (some (xI z), h') ∧ XH n s S Z' h' ∧ GI n S Z' ∧ fr' [(42, (-1))] Z Z' ∧ ((((3 : Int) < 0 ∨ 3 < (3 : Int)) → z = -2) ∧ (Z 7 4 = Z 36 1 → (3 : Int) = 0 → (Z 44 3 = 1 → z = -6) ∧ (Z 44 3 = 0 → TO (Z 45) (Z 44 2) (Z 36 1) z)) ∧ (Z 7 4 = Z 36 1 → (3 : Int) = 1 → (Z 46 3 = 1 → z = -6) ∧ (Z 46 3 = 0 → TO (Z 47) (Z 46 2) (Z 36 1) z)) ∧ (Z 7 4 = Z 36 1 → (3 : Int) = 2 → (Z 48 3 = 1 → z = -6) ∧ (Z 48 3 = 0 → TO (Z 49) (Z 48 2) (Z 36 1) z)) ∧ (Z 7 4 = Z 36 1 → (3 : Int) = 3 → (Z 50 3 = 1 → z = -6) ∧ (Z 50 3 = 0 → TO (Z 51) (Z 50 2) (Z 36 1) z)) ∧ (-6) ≤ z ∧ z ≤ 384)) hx hG  (fun z Z' h' q1 q2 q3 q4 => ⟨z, Z', h', rfl, q1, q2, q3, q4⟩))
  subst e; exact ⟨z, Z', h', hca, q⟩
set_option maxRecDepth 100000 in
theorem cw_145_1_n {l : Launch} {D : va_G} {b0 : Nat} {ad : Nat → Nat} {Hb : Heap} {tau : Nat → Int64} {d n s : Nat} {S : Nat → xS} {Z : xZ} {h : mx_H} {Post : mx_R → Prop} (hx : XH n s S Z h) (hG : GI n S Z)  {x0 : Int} (p0 : (-2147483648) ≤ x0 ∧ x0 ≤ (-1)) (hP : ∀ z : Int, ((x0 < 0 ∨ 3 < x0) → z = -2) ∧ (Z 7 4 = Z 36 1 → x0 = 0 → (Z 44 3 = 1 → z = -6) ∧ (Z 44 3 = 0 → TO (Z 45) (Z 44 2) (Z 36 1) z)) ∧ (Z 7 4 = Z 36 1 → x0 = 1 → (Z 46 3 = 1 → z = -6) ∧ (Z 46 3 = 0 → TO (Z 47) (Z 46 2) (Z 36 1) z)) ∧ (Z 7 4 = Z 36 1 → x0 = 2 → (Z 48 3 = 1 → z = -6) ∧ (Z 48 3 = 0 → TO (Z 49) (Z 48 2) (Z 36 1) z)) ∧ (Z 7 4 = Z 36 1 → x0 = 3 → (Z 50 3 = 1 → z = -6) ∧ (Z 50 3 = 0 → TO (Z 51) (Z 50 2) (Z 36 1) z)) ∧ (-2) ≤ z ∧ z ≤ (-2) → Post (some (xI z), h)) : mx_J (tB l D b0 ad Hb tau) mt_145 (d + 1) 0 [some (.ref 1), some (xI x0), none, none, none, none] [] h Post := by
    have a1 : 1 < n := lt83 (GI_n hG) rfl
    have s1 : S 1 = .inl (11, [2, 0, 0, 0, 2, 2, 2, 2, 2, 2, 2, 2, 2, 2, 2, 2, 2]) := GI_s hG 1 rfl
    refine mx_J.step (sn_145 0) (fun _ _ => rfl) ?_
    refine mx_J.step (sn_145 1) (fun _ _ => rfl) ?_
    obtain ⟨z1, hc1, b1⟩ := ct_144_1_n (d := d + 0) (l := l) (D := D) (b0 := b0) (ad := ad) (Hb := Hb) (tau := tau) hx hG (show (-2147483648) ≤ x0 ∧ x0 ≤ (-1) by omega)
    refine Jcv hx (show mx_Sn _ _ 2 (mx_callv 144 2 11 5) from sn_145 2) a1 s1 hc1 rfl rfl rfl ?_
    refine Jif_eq (show mx_Sn _ _ 5 (mx_if_eq 11 8) from sn_145 5) (by omega) (fun q2 => ?_) (fun q2 => ?_)
    · skip
      exfalso; omega
    · skip
      refine JcI (z := (-2)) (show mx_Sn _ _ 8 (mx_const (.int (-2)) 10) from sn_145 8) rfl ?_
      exact mx_J.ret (sn_145 10) (fun _ _ => rfl) (hP (-2) ⟨(fun _ => rfl), (fun _ q => absurd q (by omega)), (fun _ q => absurd q (by omega)), (fun _ q => absurd q (by omega)), (fun _ q => absurd q (by omega)), by omega⟩)
theorem ct_145_1_n {l : Launch} {D : va_G} {b0 : Nat} {ad : Nat → Nat} {Hb : Heap} {tau : Nat → Int64} {d n s : Nat} {S : Nat → xS} {Z : xZ} {h : mx_H} (hx : XH n s S Z h) (hG : GI n S Z)  {x0 : Int} (p0 : (-2147483648) ≤ x0 ∧ x0 ≤ (-1)) : ∃ z : Int, mx_Ca (tB l D b0 ad Hb tau) (d + 2) 145 [.ref 1, xI x0] h (some (xI z), h) ∧ (((x0 < 0 ∨ 3 < x0) → z = -2) ∧ (Z 7 4 = Z 36 1 → x0 = 0 → (Z 44 3 = 1 → z = -6) ∧ (Z 44 3 = 0 → TO (Z 45) (Z 44 2) (Z 36 1) z)) ∧ (Z 7 4 = Z 36 1 → x0 = 1 → (Z 46 3 = 1 → z = -6) ∧ (Z 46 3 = 0 → TO (Z 47) (Z 46 2) (Z 36 1) z)) ∧ (Z 7 4 = Z 36 1 → x0 = 2 → (Z 48 3 = 1 → z = -6) ∧ (Z 48 3 = 0 → TO (Z 49) (Z 48 2) (Z 36 1) z)) ∧ (Z 7 4 = Z 36 1 → x0 = 3 → (Z 50 3 = 1 → z = -6) ∧ (Z 50 3 = 0 → TO (Z 51) (Z 50 2) (Z 36 1) z)) ∧ (-2) ≤ z ∧ z ≤ (-2)) := by
  obtain ⟨r, hca, z, e, hp⟩ := Jmt (B := tB l D b0 ad Hb tau) (M := mt_145) (mi := 145) (as := [.ref 1, xI x0]) (d := d + 1) (ls := [some (.ref 1), some (xI x0), none, none, none, none]) rfl rfl rfl rfl rfl rfl (cw_145_1_n (l := l) (D := D) (b0 := b0) (ad := ad) (Hb := Hb) (tau := tau) (d := d) (Post := fun r => ∃ z : Int, r = (some (xI z), h) ∧ (((x0 < 0 ∨ 3 < x0) → z = -2) ∧ (Z 7 4 = Z 36 1 → x0 = 0 → (Z 44 3 = 1 → z = -6) ∧ (Z 44 3 = 0 → TO (Z 45) (Z 44 2) (Z 36 1) z)) ∧ (Z 7 4 = Z 36 1 → x0 = 1 → (Z 46 3 = 1 → z = -6) ∧ (Z 46 3 = 0 → TO (Z 47) (Z 46 2) (Z 36 1) z)) ∧ (Z 7 4 = Z 36 1 → x0 = 2 → (Z 48 3 = 1 → z = -6) ∧ (Z 48 3 = 0 → TO (Z 49) (Z 48 2) (Z 36 1) z)) ∧ (Z 7 4 = Z 36 1 → x0 = 3 → (Z 50 3 = 1 → z = -6) ∧ (Z 50 3 = 0 → TO (Z 51) (Z 50 2) (Z 36 1) z)) ∧ (-2) ≤ z ∧ z ≤ (-2))) hx hG p0 (fun z hz => ⟨z, rfl, hz⟩))
  subst e; exact ⟨z, hca, hp⟩
set_option maxRecDepth 100000 in
theorem cw_145_1_p {l : Launch} {D : va_G} {b0 : Nat} {ad : Nat → Nat} {Hb : Heap} {tau : Nat → Int64} {d n s : Nat} {S : Nat → xS} {Z : xZ} {h : mx_H} {Post : mx_R → Prop} (hx : XH n s S Z h) (hG : GI n S Z)  {x0 : Int} (p0 : 4 ≤ x0 ∧ x0 ≤ 2147483647) (hP : ∀ z : Int, ((x0 < 0 ∨ 3 < x0) → z = -2) ∧ (Z 7 4 = Z 36 1 → x0 = 0 → (Z 44 3 = 1 → z = -6) ∧ (Z 44 3 = 0 → TO (Z 45) (Z 44 2) (Z 36 1) z)) ∧ (Z 7 4 = Z 36 1 → x0 = 1 → (Z 46 3 = 1 → z = -6) ∧ (Z 46 3 = 0 → TO (Z 47) (Z 46 2) (Z 36 1) z)) ∧ (Z 7 4 = Z 36 1 → x0 = 2 → (Z 48 3 = 1 → z = -6) ∧ (Z 48 3 = 0 → TO (Z 49) (Z 48 2) (Z 36 1) z)) ∧ (Z 7 4 = Z 36 1 → x0 = 3 → (Z 50 3 = 1 → z = -6) ∧ (Z 50 3 = 0 → TO (Z 51) (Z 50 2) (Z 36 1) z)) ∧ (-2) ≤ z ∧ z ≤ (-2) → Post (some (xI z), h)) : mx_J (tB l D b0 ad Hb tau) mt_145 (d + 1) 0 [some (.ref 1), some (xI x0), none, none, none, none] [] h Post := by
    have a1 : 1 < n := lt83 (GI_n hG) rfl
    have s1 : S 1 = .inl (11, [2, 0, 0, 0, 2, 2, 2, 2, 2, 2, 2, 2, 2, 2, 2, 2, 2]) := GI_s hG 1 rfl
    refine mx_J.step (sn_145 0) (fun _ _ => rfl) ?_
    refine mx_J.step (sn_145 1) (fun _ _ => rfl) ?_
    obtain ⟨z1, hc1, b1⟩ := ct_144_1_p (d := d + 0) (l := l) (D := D) (b0 := b0) (ad := ad) (Hb := Hb) (tau := tau) hx hG (show 4 ≤ x0 ∧ x0 ≤ 2147483647 by omega)
    refine Jcv hx (show mx_Sn _ _ 2 (mx_callv 144 2 11 5) from sn_145 2) a1 s1 hc1 rfl rfl rfl ?_
    refine Jif_eq (show mx_Sn _ _ 5 (mx_if_eq 11 8) from sn_145 5) (by omega) (fun q2 => ?_) (fun q2 => ?_)
    · skip
      exfalso; omega
    · skip
      refine JcI (z := (-2)) (show mx_Sn _ _ 8 (mx_const (.int (-2)) 10) from sn_145 8) rfl ?_
      exact mx_J.ret (sn_145 10) (fun _ _ => rfl) (hP (-2) ⟨(fun _ => rfl), (fun _ q => absurd q (by omega)), (fun _ q => absurd q (by omega)), (fun _ q => absurd q (by omega)), (fun _ q => absurd q (by omega)), by omega⟩)
theorem ct_145_1_p {l : Launch} {D : va_G} {b0 : Nat} {ad : Nat → Nat} {Hb : Heap} {tau : Nat → Int64} {d n s : Nat} {S : Nat → xS} {Z : xZ} {h : mx_H} (hx : XH n s S Z h) (hG : GI n S Z)  {x0 : Int} (p0 : 4 ≤ x0 ∧ x0 ≤ 2147483647) : ∃ z : Int, mx_Ca (tB l D b0 ad Hb tau) (d + 2) 145 [.ref 1, xI x0] h (some (xI z), h) ∧ (((x0 < 0 ∨ 3 < x0) → z = -2) ∧ (Z 7 4 = Z 36 1 → x0 = 0 → (Z 44 3 = 1 → z = -6) ∧ (Z 44 3 = 0 → TO (Z 45) (Z 44 2) (Z 36 1) z)) ∧ (Z 7 4 = Z 36 1 → x0 = 1 → (Z 46 3 = 1 → z = -6) ∧ (Z 46 3 = 0 → TO (Z 47) (Z 46 2) (Z 36 1) z)) ∧ (Z 7 4 = Z 36 1 → x0 = 2 → (Z 48 3 = 1 → z = -6) ∧ (Z 48 3 = 0 → TO (Z 49) (Z 48 2) (Z 36 1) z)) ∧ (Z 7 4 = Z 36 1 → x0 = 3 → (Z 50 3 = 1 → z = -6) ∧ (Z 50 3 = 0 → TO (Z 51) (Z 50 2) (Z 36 1) z)) ∧ (-2) ≤ z ∧ z ≤ (-2)) := by
  obtain ⟨r, hca, z, e, hp⟩ := Jmt (B := tB l D b0 ad Hb tau) (M := mt_145) (mi := 145) (as := [.ref 1, xI x0]) (d := d + 1) (ls := [some (.ref 1), some (xI x0), none, none, none, none]) rfl rfl rfl rfl rfl rfl (cw_145_1_p (l := l) (D := D) (b0 := b0) (ad := ad) (Hb := Hb) (tau := tau) (d := d) (Post := fun r => ∃ z : Int, r = (some (xI z), h) ∧ (((x0 < 0 ∨ 3 < x0) → z = -2) ∧ (Z 7 4 = Z 36 1 → x0 = 0 → (Z 44 3 = 1 → z = -6) ∧ (Z 44 3 = 0 → TO (Z 45) (Z 44 2) (Z 36 1) z)) ∧ (Z 7 4 = Z 36 1 → x0 = 1 → (Z 46 3 = 1 → z = -6) ∧ (Z 46 3 = 0 → TO (Z 47) (Z 46 2) (Z 36 1) z)) ∧ (Z 7 4 = Z 36 1 → x0 = 2 → (Z 48 3 = 1 → z = -6) ∧ (Z 48 3 = 0 → TO (Z 49) (Z 48 2) (Z 36 1) z)) ∧ (Z 7 4 = Z 36 1 → x0 = 3 → (Z 50 3 = 1 → z = -6) ∧ (Z 50 3 = 0 → TO (Z 51) (Z 50 2) (Z 36 1) z)) ∧ (-2) ≤ z ∧ z ≤ (-2))) hx hG p0 (fun z hz => ⟨z, rfl, hz⟩))
  subst e; exact ⟨z, hca, hp⟩
theorem ct_145_1 {l : Launch} {D : va_G} {b0 : Nat} {ad : Nat → Nat} {Hb : Heap} {tau : Nat → Int64} {d n s : Nat} {S : Nat → xS} {Z : xZ} {h : mx_H} (hx : XH n s S Z h) (hG : GI n S Z) {x0 : Int} (p0 : (-2147483648) ≤ x0 ∧ x0 ≤ 2147483647) : ∃ (z : Int) (Z' : xZ) (h' : mx_H), mx_Ca (tB l D b0 ad Hb tau) (d + 3) 145 [.ref 1, xI x0] h (some (xI z), h') ∧ XH n s S Z' h' ∧ GI n S Z' ∧ fr' [(42, (-1))] Z Z' ∧ (((x0 < 0 ∨ 3 < x0) → z = -2) ∧ (Z 7 4 = Z 36 1 → x0 = 0 → (Z 44 3 = 1 → z = -6) ∧ (Z 44 3 = 0 → TO (Z 45) (Z 44 2) (Z 36 1) z)) ∧ (Z 7 4 = Z 36 1 → x0 = 1 → (Z 46 3 = 1 → z = -6) ∧ (Z 46 3 = 0 → TO (Z 47) (Z 46 2) (Z 36 1) z)) ∧ (Z 7 4 = Z 36 1 → x0 = 2 → (Z 48 3 = 1 → z = -6) ∧ (Z 48 3 = 0 → TO (Z 49) (Z 48 2) (Z 36 1) z)) ∧ (Z 7 4 = Z 36 1 → x0 = 3 → (Z 50 3 = 1 → z = -6) ∧ (Z 50 3 = 0 → TO (Z 51) (Z 50 2) (Z 36 1) z)) ∧ (-6) ≤ z ∧ z ≤ 384) := by
  have hc : x0 = 0 ∨ x0 = 1 ∨ x0 = 2 ∨ x0 = 3 ∨ ((-2147483648) ≤ x0 ∧ x0 ≤ (-1)) ∨ (4 ≤ x0 ∧ x0 ≤ 2147483647) := by omega
  rcases hc with hc | hc | hc | hc | hc | hc
  · subst hc
    obtain ⟨z, Z', h', hca, q1, q2, q3, b⟩ := ct_145_1_i0 (d := d + 0) (l := l) (D := D) (b0 := b0) (ad := ad) (Hb := Hb) (tau := tau) hx hG 
    exact ⟨z, Z', h', hca, q1, q2, fr_tr (M1 := []) fr_rf q3 rfl rfl, ⟨b.1, b.2.1, b.2.2.1, b.2.2.2.1, b.2.2.2.2.1, Int.le_trans (by decide) b.2.2.2.2.2.1, Int.le_trans b.2.2.2.2.2.2 (by decide)⟩⟩
  · subst hc
    obtain ⟨z, Z', h', hca, q1, q2, q3, b⟩ := ct_145_1_i1 (d := d + 0) (l := l) (D := D) (b0 := b0) (ad := ad) (Hb := Hb) (tau := tau) hx hG 
    exact ⟨z, Z', h', hca, q1, q2, fr_tr (M1 := []) fr_rf q3 rfl rfl, ⟨b.1, b.2.1, b.2.2.1, b.2.2.2.1, b.2.2.2.2.1, Int.le_trans (by decide) b.2.2.2.2.2.1, Int.le_trans b.2.2.2.2.2.2 (by decide)⟩⟩
  · subst hc
    obtain ⟨z, Z', h', hca, q1, q2, q3, b⟩ := ct_145_1_i2 (d := d + 0) (l := l) (D := D) (b0 := b0) (ad := ad) (Hb := Hb) (tau := tau) hx hG 
    exact ⟨z, Z', h', hca, q1, q2, fr_tr (M1 := []) fr_rf q3 rfl rfl, ⟨b.1, b.2.1, b.2.2.1, b.2.2.2.1, b.2.2.2.2.1, Int.le_trans (by decide) b.2.2.2.2.2.1, Int.le_trans b.2.2.2.2.2.2 (by decide)⟩⟩
  · subst hc
    obtain ⟨z, Z', h', hca, q1, q2, q3, b⟩ := ct_145_1_i3 (d := d + 0) (l := l) (D := D) (b0 := b0) (ad := ad) (Hb := Hb) (tau := tau) hx hG 
    exact ⟨z, Z', h', hca, q1, q2, fr_tr (M1 := []) fr_rf q3 rfl rfl, ⟨b.1, b.2.1, b.2.2.1, b.2.2.2.1, b.2.2.2.2.1, Int.le_trans (by decide) b.2.2.2.2.2.1, Int.le_trans b.2.2.2.2.2.2 (by decide)⟩⟩
  · skip
    obtain ⟨z, hca, b⟩ := ct_145_1_n (d := d + 1) (l := l) (D := D) (b0 := b0) (ad := ad) (Hb := Hb) (tau := tau) hx hG hc
    exact ⟨z, Z, h, hca, hx, hG, fr_rf, ⟨b.1, b.2.1, b.2.2.1, b.2.2.2.1, b.2.2.2.2.1, Int.le_trans (by decide) b.2.2.2.2.2.1, Int.le_trans b.2.2.2.2.2.2 (by decide)⟩⟩
  · skip
    obtain ⟨z, hca, b⟩ := ct_145_1_p (d := d + 1) (l := l) (D := D) (b0 := b0) (ad := ad) (Hb := Hb) (tau := tau) hx hG hc
    exact ⟨z, Z, h, hca, hx, hG, fr_rf, ⟨b.1, b.2.1, b.2.2.1, b.2.2.2.1, b.2.2.2.2.1, Int.le_trans (by decide) b.2.2.2.2.2.1, Int.le_trans b.2.2.2.2.2.2 (by decide)⟩⟩
set_option maxRecDepth 100000 in
theorem cw_146_1_i0 {l : Launch} {D : va_G} {b0 : Nat} {ad : Nat → Nat} {Hb : Heap} {tau : Nat → Int64} {d n s : Nat} {S : Nat → xS} {Z : xZ} {h : mx_H} {Post : mx_R → Prop} (hx : XH n s S Z h) (hG : GI n S Z)  {x1 x2 : Int} (p1 : (-1) ≤ x1 ∧ x1 ≤ 1) (p2 : (-2147483648) ≤ x2 ∧ x2 ≤ 2147483647) (hP : ∀ z : Int, (-6) ≤ z ∧ z ≤ 0 ∧ (z = 0 → (1 ≤ Z 44 2 ∧ Z 44 2 ≤ 8 ∧ 0 ≤ x2)) → Post (some (xI z), h)) : mx_J (tB l D b0 ad Hb tau) mt_146 (d + 1) 0 [some (.ref 1), some (xI 0), some (xI x1), some (xI x2), none] [] h Post := by
    have a1 : 1 < n := lt83 (GI_n hG) rfl
    have s1 : S 1 = .inl (11, [2, 0, 0, 0, 2, 2, 2, 2, 2, 2, 2, 2, 2, 2, 2, 2, 2]) := GI_s hG 1 rfl
    have a34 : 34 < n := lt83 (GI_n hG) rfl
    have s34 : S 34 = .inr ((.object "TitheHeap$Tray"), 4, 2) := GI_s hG 34 rfl
    have a44 : 44 < n := lt83 (GI_n hG) rfl
    have s44 : S 44 = .inl (10, [2, 0, 0, 0]) := GI_s hG 44 rfl
    refine mx_J.step (sn_146 0) (fun _ _ => rfl) ?_
    refine mx_J.step (sn_146 1) (fun _ _ => rfl) ?_
    obtain ⟨z1, hc1, b1⟩ := ct_144_1_y (d := d + 0) (l := l) (D := D) (b0 := b0) (ad := ad) (Hb := Hb) (tau := tau) hx hG (show 0 ≤ 0 ∧ 0 ≤ 3 by omega)
    refine Jcv hx (show mx_Sn _ _ 2 (mx_callv 144 2 11 5) from sn_146 2) a1 s1 hc1 rfl rfl rfl ?_
    refine Jif_eq (show mx_Sn _ _ 5 (mx_if_eq 11 8) from sn_146 5) (by omega) (fun q2 => ?_) (fun q2 => ?_)
    · skip
      refine mx_J.step (sn_146 11) (fun _ _ => rfl) ?_
      refine JgetR (g := 10) (b := 34) hx (show mx_Sn _ _ 12 (mx_getf 11 10 15) from sn_146 12) a1 s1 rfl rfl (hG.prr 1 10 rfl) ?_
      refine mx_J.step (sn_146 15) (fun _ _ => rfl) ?_
      refine JaaldR (i := 0) (b := 44) hx (show mx_Sn _ _ 16 (mx_aald 17) from sn_146 16) a34 s34 (by omega) (show Z 34 0 = 44 by have hq := GI_ex hG 34 0; replace hq : ((0 : Int) ≤ 0 → (0 : Int) ≤ 3 → (Z 34 0) = 44 + 2 * 0) := hq; omega) ?_
      refine mx_J.step (ls2 := [some (.ref 1), some (xI 0), some (xI x1), some (xI x2), some (.ref 44)]) (sn_146 17) (fun _ _ => rfl) ?_
      refine mx_J.step (sn_146 19) (fun _ _ => rfl) ?_
      have b5 : 0 ≤ Z 44 3 ∧ Z 44 3 ≤ 1 := hG.pr 44 3
      refine JgetI (g := 3) (z := Z 44 3) hx (show mx_Sn _ _ 21 (mx_getf 10 3 24) from sn_146 21) a44 s44 rfl rfl rfl ?_
      refine Jif_eq (show mx_Sn _ _ 24 (mx_if_eq 30 27) from sn_146 24) (by omega) (fun q6 => ?_) (fun q6 => ?_)
      · skip
        refine mx_J.step (sn_146 30) (fun _ _ => rfl) ?_
        have b8 : 0 ≤ Z 44 2 ∧ Z 44 2 ≤ 40 := hG.pr 44 2
        refine JgetI (g := 2) (z := Z 44 2) hx (show mx_Sn _ _ 32 (mx_getf 10 2 35) from sn_146 32) a44 s44 rfl rfl rfl ?_
        refine JcI (z := 1) (show mx_Sn _ _ 35 (mx_const (.int 1) 36) from sn_146 35) rfl ?_
        have c49 : mx_J (tB l D b0 ad Hb tau) mt_146 (d + 1) 49 [some (.ref 1), some (xI 0), some (xI x1), some (xI x2), some (.ref 44)] [] h Post := by
          refine JcI (z := (-4)) (show mx_Sn _ _ 49 (mx_const (.int (-4)) 51) from sn_146 49) rfl ?_
          exact mx_J.ret (sn_146 51) (fun _ _ => rfl) (hP (-4) (by omega))
        refine Jicmp_lt (show mx_Sn _ _ 36 (mx_icmp_lt 49 39) from sn_146 36) (by omega) (by omega) (fun q10 => ?_) (fun q10 => ?_)
        · skip
          exact c49 
        · skip
          refine mx_J.step (sn_146 39) (fun _ _ => rfl) ?_
          refine JgetI (g := 2) (z := Z 44 2) hx (show mx_Sn _ _ 41 (mx_getf 10 2 44) from sn_146 41) a44 s44 rfl rfl rfl ?_
          refine JcI (z := 8) (show mx_Sn _ _ 44 (mx_const (.int 8) 46) from sn_146 44) rfl ?_
          refine Jicmp_le (show mx_Sn _ _ 46 (mx_icmp_le 52 49) from sn_146 46) (by omega) (by omega) (fun q12 => ?_) (fun q12 => ?_)
          · skip
            refine mx_J.step (sn_146 52) (fun _ _ => rfl) ?_
            have c78 : mx_J (tB l D b0 ad Hb tau) mt_146 (d + 1) 78 [some (.ref 1), some (xI 0), some (xI x1), some (xI x2), some (.ref 44)] [] h Post := by
              refine JcI (z := (-3)) (show mx_Sn _ _ 78 (mx_const (.int (-3)) 80) from sn_146 78) rfl ?_
              exact mx_J.ret (sn_146 80) (fun _ _ => rfl) (hP (-3) (by omega))
            refine Jif_lt (show mx_Sn _ _ 53 (mx_if_lt 78 56) from sn_146 53) (by omega) (fun q14 => ?_) (fun q14 => ?_)
            · skip
              exact c78 
            · skip
              refine mx_J.step (sn_146 56) (fun _ _ => rfl) ?_
              refine mx_J.step (sn_146 58) (fun _ _ => rfl) ?_
              refine Ji2l (show mx_Sn _ _ 59 (mx_i2l 60) from sn_146 59) (by omega) ?_
              refine JcL (z := 18) (show mx_Sn _ _ 60 (mx_const (.long 18) 63) from sn_146 60) rfl ?_
              obtain ⟨z15, hc15, b15⟩ := ct_86_44 (d := d + 0) (l := l) (D := D) (b0 := b0) (ad := ad) (Hb := Hb) (tau := tau) hx hG (show (-9223372036854775808) ≤ x1 ∧ x1 ≤ 9223372036854775807 by omega) (show (-9223372036854775808) ≤ 18 ∧ 18 ≤ 9223372036854775807 by omega)
              obtain ⟨bs15_0, b15⟩ := b15
              obtain ⟨bs15_1, b15⟩ := b15
              refine Jcv hx (show mx_Sn _ _ 63 (mx_callv 86 3 10 66) from sn_146 63) a44 s44 hc15 rfl rfl rfl ?_
              refine Jif_eq (show mx_Sn _ _ 66 (mx_if_eq 78 69) from sn_146 66) (by omega) (fun q16 => ?_) (fun q16 => ?_)
              · skip
                exact c78 
              · skip
                refine mx_J.step (sn_146 69) (fun _ _ => rfl) ?_
                refine JcL (z := 0) (show mx_Sn _ _ 71 (mx_const (.long 0) 72) from sn_146 71) rfl ?_
                obtain ⟨z17, hc17, b17⟩ := ct_87_44 (d := d + 0) (l := l) (D := D) (b0 := b0) (ad := ad) (Hb := Hb) (tau := tau) hx hG (show (-9223372036854775808) ≤ 0 ∧ 0 ≤ 9223372036854775807 by omega)
                refine Jcv hx (show mx_Sn _ _ 72 (mx_callv 87 2 10 75) from sn_146 72) a44 s44 hc17 rfl rfl rfl ?_
                refine Jif_eq (show mx_Sn _ _ 75 (mx_if_eq 81 78) from sn_146 75) (by omega) (fun q18 => ?_) (fun q18 => ?_)
                · skip
                  refine JcI (z := 0) (show mx_Sn _ _ 81 (mx_const (.int 0) 82) from sn_146 81) rfl ?_
                  exact mx_J.ret (sn_146 82) (fun _ _ => rfl) (hP 0 (by omega))
                · skip
                  exact c78 
          · skip
            exact c49 
      · skip
        refine JcI (z := (-6)) (show mx_Sn _ _ 27 (mx_const (.int (-6)) 29) from sn_146 27) rfl ?_
        exact mx_J.ret (sn_146 29) (fun _ _ => rfl) (hP (-6) (by omega))
    · skip
      exfalso; omega
theorem ct_146_1_i0 {l : Launch} {D : va_G} {b0 : Nat} {ad : Nat → Nat} {Hb : Heap} {tau : Nat → Int64} {d n s : Nat} {S : Nat → xS} {Z : xZ} {h : mx_H} (hx : XH n s S Z h) (hG : GI n S Z)  {x1 x2 : Int} (p1 : (-1) ≤ x1 ∧ x1 ≤ 1) (p2 : (-2147483648) ≤ x2 ∧ x2 ≤ 2147483647) : ∃ z : Int, mx_Ca (tB l D b0 ad Hb tau) (d + 2) 146 [.ref 1, xI 0, xI x1, xI x2] h (some (xI z), h) ∧ ((-6) ≤ z ∧ z ≤ 0 ∧ (z = 0 → (1 ≤ Z 44 2 ∧ Z 44 2 ≤ 8 ∧ 0 ≤ x2))) := by
  obtain ⟨r, hca, z, e, hp⟩ := Jmt (B := tB l D b0 ad Hb tau) (M := mt_146) (mi := 146) (as := [.ref 1, xI 0, xI x1, xI x2]) (d := d + 1) (ls := [some (.ref 1), some (xI 0), some (xI x1), some (xI x2), none]) rfl rfl rfl rfl rfl rfl (cw_146_1_i0 (l := l) (D := D) (b0 := b0) (ad := ad) (Hb := Hb) (tau := tau) (d := d) (Post := fun r => ∃ z : Int, r = (some (xI z), h) ∧ ((-6) ≤ z ∧ z ≤ 0 ∧ (z = 0 → (1 ≤ Z 44 2 ∧ Z 44 2 ≤ 8 ∧ 0 ≤ x2)))) hx hG p1 p2 (fun z hz => ⟨z, rfl, hz⟩))
  subst e; exact ⟨z, hca, hp⟩
set_option maxRecDepth 100000 in
theorem cw_146_1_i1 {l : Launch} {D : va_G} {b0 : Nat} {ad : Nat → Nat} {Hb : Heap} {tau : Nat → Int64} {d n s : Nat} {S : Nat → xS} {Z : xZ} {h : mx_H} {Post : mx_R → Prop} (hx : XH n s S Z h) (hG : GI n S Z)  {x1 x2 : Int} (p1 : (-1) ≤ x1 ∧ x1 ≤ 1) (p2 : (-2147483648) ≤ x2 ∧ x2 ≤ 2147483647) (hP : ∀ z : Int, (-6) ≤ z ∧ z ≤ 0 ∧ (z = 0 → (1 ≤ Z 46 2 ∧ Z 46 2 ≤ 8 ∧ 0 ≤ x2)) → Post (some (xI z), h)) : mx_J (tB l D b0 ad Hb tau) mt_146 (d + 1) 0 [some (.ref 1), some (xI 1), some (xI x1), some (xI x2), none] [] h Post := by
    have a1 : 1 < n := lt83 (GI_n hG) rfl
    have s1 : S 1 = .inl (11, [2, 0, 0, 0, 2, 2, 2, 2, 2, 2, 2, 2, 2, 2, 2, 2, 2]) := GI_s hG 1 rfl
    have a34 : 34 < n := lt83 (GI_n hG) rfl
    have s34 : S 34 = .inr ((.object "TitheHeap$Tray"), 4, 2) := GI_s hG 34 rfl
    have a46 : 46 < n := lt83 (GI_n hG) rfl
    have s46 : S 46 = .inl (10, [2, 0, 0, 0]) := GI_s hG 46 rfl
    refine mx_J.step (sn_146 0) (fun _ _ => rfl) ?_
    refine mx_J.step (sn_146 1) (fun _ _ => rfl) ?_
    obtain ⟨z1, hc1, b1⟩ := ct_144_1_y (d := d + 0) (l := l) (D := D) (b0 := b0) (ad := ad) (Hb := Hb) (tau := tau) hx hG (show 0 ≤ 1 ∧ 1 ≤ 3 by omega)
    refine Jcv hx (show mx_Sn _ _ 2 (mx_callv 144 2 11 5) from sn_146 2) a1 s1 hc1 rfl rfl rfl ?_
    refine Jif_eq (show mx_Sn _ _ 5 (mx_if_eq 11 8) from sn_146 5) (by omega) (fun q2 => ?_) (fun q2 => ?_)
    · skip
      refine mx_J.step (sn_146 11) (fun _ _ => rfl) ?_
      refine JgetR (g := 10) (b := 34) hx (show mx_Sn _ _ 12 (mx_getf 11 10 15) from sn_146 12) a1 s1 rfl rfl (hG.prr 1 10 rfl) ?_
      refine mx_J.step (sn_146 15) (fun _ _ => rfl) ?_
      refine JaaldR (i := 1) (b := 46) hx (show mx_Sn _ _ 16 (mx_aald 17) from sn_146 16) a34 s34 (by omega) (show Z 34 1 = 46 by have hq := GI_ex hG 34 1; replace hq : ((0 : Int) ≤ 1 → (1 : Int) ≤ 3 → (Z 34 1) = 44 + 2 * 1) := hq; omega) ?_
      refine mx_J.step (ls2 := [some (.ref 1), some (xI 1), some (xI x1), some (xI x2), some (.ref 46)]) (sn_146 17) (fun _ _ => rfl) ?_
      refine mx_J.step (sn_146 19) (fun _ _ => rfl) ?_
      have b5 : 0 ≤ Z 46 3 ∧ Z 46 3 ≤ 1 := hG.pr 46 3
      refine JgetI (g := 3) (z := Z 46 3) hx (show mx_Sn _ _ 21 (mx_getf 10 3 24) from sn_146 21) a46 s46 rfl rfl rfl ?_
      refine Jif_eq (show mx_Sn _ _ 24 (mx_if_eq 30 27) from sn_146 24) (by omega) (fun q6 => ?_) (fun q6 => ?_)
      · skip
        refine mx_J.step (sn_146 30) (fun _ _ => rfl) ?_
        have b8 : 0 ≤ Z 46 2 ∧ Z 46 2 ≤ 40 := hG.pr 46 2
        refine JgetI (g := 2) (z := Z 46 2) hx (show mx_Sn _ _ 32 (mx_getf 10 2 35) from sn_146 32) a46 s46 rfl rfl rfl ?_
        refine JcI (z := 1) (show mx_Sn _ _ 35 (mx_const (.int 1) 36) from sn_146 35) rfl ?_
        have c49 : mx_J (tB l D b0 ad Hb tau) mt_146 (d + 1) 49 [some (.ref 1), some (xI 1), some (xI x1), some (xI x2), some (.ref 46)] [] h Post := by
          refine JcI (z := (-4)) (show mx_Sn _ _ 49 (mx_const (.int (-4)) 51) from sn_146 49) rfl ?_
          exact mx_J.ret (sn_146 51) (fun _ _ => rfl) (hP (-4) (by omega))
        refine Jicmp_lt (show mx_Sn _ _ 36 (mx_icmp_lt 49 39) from sn_146 36) (by omega) (by omega) (fun q10 => ?_) (fun q10 => ?_)
        · skip
          exact c49 
        · skip
          refine mx_J.step (sn_146 39) (fun _ _ => rfl) ?_
          refine JgetI (g := 2) (z := Z 46 2) hx (show mx_Sn _ _ 41 (mx_getf 10 2 44) from sn_146 41) a46 s46 rfl rfl rfl ?_
          refine JcI (z := 8) (show mx_Sn _ _ 44 (mx_const (.int 8) 46) from sn_146 44) rfl ?_
          refine Jicmp_le (show mx_Sn _ _ 46 (mx_icmp_le 52 49) from sn_146 46) (by omega) (by omega) (fun q12 => ?_) (fun q12 => ?_)
          · skip
            refine mx_J.step (sn_146 52) (fun _ _ => rfl) ?_
            have c78 : mx_J (tB l D b0 ad Hb tau) mt_146 (d + 1) 78 [some (.ref 1), some (xI 1), some (xI x1), some (xI x2), some (.ref 46)] [] h Post := by
              refine JcI (z := (-3)) (show mx_Sn _ _ 78 (mx_const (.int (-3)) 80) from sn_146 78) rfl ?_
              exact mx_J.ret (sn_146 80) (fun _ _ => rfl) (hP (-3) (by omega))
            refine Jif_lt (show mx_Sn _ _ 53 (mx_if_lt 78 56) from sn_146 53) (by omega) (fun q14 => ?_) (fun q14 => ?_)
            · skip
              exact c78 
            · skip
              refine mx_J.step (sn_146 56) (fun _ _ => rfl) ?_
              refine mx_J.step (sn_146 58) (fun _ _ => rfl) ?_
              refine Ji2l (show mx_Sn _ _ 59 (mx_i2l 60) from sn_146 59) (by omega) ?_
              refine JcL (z := 18) (show mx_Sn _ _ 60 (mx_const (.long 18) 63) from sn_146 60) rfl ?_
              obtain ⟨z15, hc15, b15⟩ := ct_86_46 (d := d + 0) (l := l) (D := D) (b0 := b0) (ad := ad) (Hb := Hb) (tau := tau) hx hG (show (-9223372036854775808) ≤ x1 ∧ x1 ≤ 9223372036854775807 by omega) (show (-9223372036854775808) ≤ 18 ∧ 18 ≤ 9223372036854775807 by omega)
              obtain ⟨bs15_0, b15⟩ := b15
              obtain ⟨bs15_1, b15⟩ := b15
              refine Jcv hx (show mx_Sn _ _ 63 (mx_callv 86 3 10 66) from sn_146 63) a46 s46 hc15 rfl rfl rfl ?_
              refine Jif_eq (show mx_Sn _ _ 66 (mx_if_eq 78 69) from sn_146 66) (by omega) (fun q16 => ?_) (fun q16 => ?_)
              · skip
                exact c78 
              · skip
                refine mx_J.step (sn_146 69) (fun _ _ => rfl) ?_
                refine JcL (z := 0) (show mx_Sn _ _ 71 (mx_const (.long 0) 72) from sn_146 71) rfl ?_
                obtain ⟨z17, hc17, b17⟩ := ct_87_46 (d := d + 0) (l := l) (D := D) (b0 := b0) (ad := ad) (Hb := Hb) (tau := tau) hx hG (show (-9223372036854775808) ≤ 0 ∧ 0 ≤ 9223372036854775807 by omega)
                refine Jcv hx (show mx_Sn _ _ 72 (mx_callv 87 2 10 75) from sn_146 72) a46 s46 hc17 rfl rfl rfl ?_
                refine Jif_eq (show mx_Sn _ _ 75 (mx_if_eq 81 78) from sn_146 75) (by omega) (fun q18 => ?_) (fun q18 => ?_)
                · skip
                  refine JcI (z := 0) (show mx_Sn _ _ 81 (mx_const (.int 0) 82) from sn_146 81) rfl ?_
                  exact mx_J.ret (sn_146 82) (fun _ _ => rfl) (hP 0 (by omega))
                · skip
                  exact c78 
          · skip
            exact c49 
      · skip
        refine JcI (z := (-6)) (show mx_Sn _ _ 27 (mx_const (.int (-6)) 29) from sn_146 27) rfl ?_
        exact mx_J.ret (sn_146 29) (fun _ _ => rfl) (hP (-6) (by omega))
    · skip
      exfalso; omega
theorem ct_146_1_i1 {l : Launch} {D : va_G} {b0 : Nat} {ad : Nat → Nat} {Hb : Heap} {tau : Nat → Int64} {d n s : Nat} {S : Nat → xS} {Z : xZ} {h : mx_H} (hx : XH n s S Z h) (hG : GI n S Z)  {x1 x2 : Int} (p1 : (-1) ≤ x1 ∧ x1 ≤ 1) (p2 : (-2147483648) ≤ x2 ∧ x2 ≤ 2147483647) : ∃ z : Int, mx_Ca (tB l D b0 ad Hb tau) (d + 2) 146 [.ref 1, xI 1, xI x1, xI x2] h (some (xI z), h) ∧ ((-6) ≤ z ∧ z ≤ 0 ∧ (z = 0 → (1 ≤ Z 46 2 ∧ Z 46 2 ≤ 8 ∧ 0 ≤ x2))) := by
  obtain ⟨r, hca, z, e, hp⟩ := Jmt (B := tB l D b0 ad Hb tau) (M := mt_146) (mi := 146) (as := [.ref 1, xI 1, xI x1, xI x2]) (d := d + 1) (ls := [some (.ref 1), some (xI 1), some (xI x1), some (xI x2), none]) rfl rfl rfl rfl rfl rfl (cw_146_1_i1 (l := l) (D := D) (b0 := b0) (ad := ad) (Hb := Hb) (tau := tau) (d := d) (Post := fun r => ∃ z : Int, r = (some (xI z), h) ∧ ((-6) ≤ z ∧ z ≤ 0 ∧ (z = 0 → (1 ≤ Z 46 2 ∧ Z 46 2 ≤ 8 ∧ 0 ≤ x2)))) hx hG p1 p2 (fun z hz => ⟨z, rfl, hz⟩))
  subst e; exact ⟨z, hca, hp⟩
set_option maxRecDepth 100000 in
theorem cw_146_1_i2 {l : Launch} {D : va_G} {b0 : Nat} {ad : Nat → Nat} {Hb : Heap} {tau : Nat → Int64} {d n s : Nat} {S : Nat → xS} {Z : xZ} {h : mx_H} {Post : mx_R → Prop} (hx : XH n s S Z h) (hG : GI n S Z)  {x1 x2 : Int} (p1 : (-1) ≤ x1 ∧ x1 ≤ 1) (p2 : (-2147483648) ≤ x2 ∧ x2 ≤ 2147483647) (hP : ∀ z : Int, (-6) ≤ z ∧ z ≤ 0 ∧ (z = 0 → (1 ≤ Z 48 2 ∧ Z 48 2 ≤ 8 ∧ 0 ≤ x2)) → Post (some (xI z), h)) : mx_J (tB l D b0 ad Hb tau) mt_146 (d + 1) 0 [some (.ref 1), some (xI 2), some (xI x1), some (xI x2), none] [] h Post := by
    have a1 : 1 < n := lt83 (GI_n hG) rfl
    have s1 : S 1 = .inl (11, [2, 0, 0, 0, 2, 2, 2, 2, 2, 2, 2, 2, 2, 2, 2, 2, 2]) := GI_s hG 1 rfl
    have a34 : 34 < n := lt83 (GI_n hG) rfl
    have s34 : S 34 = .inr ((.object "TitheHeap$Tray"), 4, 2) := GI_s hG 34 rfl
    have a48 : 48 < n := lt83 (GI_n hG) rfl
    have s48 : S 48 = .inl (10, [2, 0, 0, 0]) := GI_s hG 48 rfl
    refine mx_J.step (sn_146 0) (fun _ _ => rfl) ?_
    refine mx_J.step (sn_146 1) (fun _ _ => rfl) ?_
    obtain ⟨z1, hc1, b1⟩ := ct_144_1_y (d := d + 0) (l := l) (D := D) (b0 := b0) (ad := ad) (Hb := Hb) (tau := tau) hx hG (show 0 ≤ 2 ∧ 2 ≤ 3 by omega)
    refine Jcv hx (show mx_Sn _ _ 2 (mx_callv 144 2 11 5) from sn_146 2) a1 s1 hc1 rfl rfl rfl ?_
    refine Jif_eq (show mx_Sn _ _ 5 (mx_if_eq 11 8) from sn_146 5) (by omega) (fun q2 => ?_) (fun q2 => ?_)
    · skip
      refine mx_J.step (sn_146 11) (fun _ _ => rfl) ?_
      refine JgetR (g := 10) (b := 34) hx (show mx_Sn _ _ 12 (mx_getf 11 10 15) from sn_146 12) a1 s1 rfl rfl (hG.prr 1 10 rfl) ?_
      refine mx_J.step (sn_146 15) (fun _ _ => rfl) ?_
      refine JaaldR (i := 2) (b := 48) hx (show mx_Sn _ _ 16 (mx_aald 17) from sn_146 16) a34 s34 (by omega) (show Z 34 2 = 48 by have hq := GI_ex hG 34 2; replace hq : ((0 : Int) ≤ 2 → (2 : Int) ≤ 3 → (Z 34 2) = 44 + 2 * 2) := hq; omega) ?_
      refine mx_J.step (ls2 := [some (.ref 1), some (xI 2), some (xI x1), some (xI x2), some (.ref 48)]) (sn_146 17) (fun _ _ => rfl) ?_
      refine mx_J.step (sn_146 19) (fun _ _ => rfl) ?_
      have b5 : 0 ≤ Z 48 3 ∧ Z 48 3 ≤ 1 := hG.pr 48 3
      refine JgetI (g := 3) (z := Z 48 3) hx (show mx_Sn _ _ 21 (mx_getf 10 3 24) from sn_146 21) a48 s48 rfl rfl rfl ?_
      refine Jif_eq (show mx_Sn _ _ 24 (mx_if_eq 30 27) from sn_146 24) (by omega) (fun q6 => ?_) (fun q6 => ?_)
      · skip
        refine mx_J.step (sn_146 30) (fun _ _ => rfl) ?_
        have b8 : 0 ≤ Z 48 2 ∧ Z 48 2 ≤ 40 := hG.pr 48 2
        refine JgetI (g := 2) (z := Z 48 2) hx (show mx_Sn _ _ 32 (mx_getf 10 2 35) from sn_146 32) a48 s48 rfl rfl rfl ?_
        refine JcI (z := 1) (show mx_Sn _ _ 35 (mx_const (.int 1) 36) from sn_146 35) rfl ?_
        have c49 : mx_J (tB l D b0 ad Hb tau) mt_146 (d + 1) 49 [some (.ref 1), some (xI 2), some (xI x1), some (xI x2), some (.ref 48)] [] h Post := by
          refine JcI (z := (-4)) (show mx_Sn _ _ 49 (mx_const (.int (-4)) 51) from sn_146 49) rfl ?_
          exact mx_J.ret (sn_146 51) (fun _ _ => rfl) (hP (-4) (by omega))
        refine Jicmp_lt (show mx_Sn _ _ 36 (mx_icmp_lt 49 39) from sn_146 36) (by omega) (by omega) (fun q10 => ?_) (fun q10 => ?_)
        · skip
          exact c49 
        · skip
          refine mx_J.step (sn_146 39) (fun _ _ => rfl) ?_
          refine JgetI (g := 2) (z := Z 48 2) hx (show mx_Sn _ _ 41 (mx_getf 10 2 44) from sn_146 41) a48 s48 rfl rfl rfl ?_
          refine JcI (z := 8) (show mx_Sn _ _ 44 (mx_const (.int 8) 46) from sn_146 44) rfl ?_
          refine Jicmp_le (show mx_Sn _ _ 46 (mx_icmp_le 52 49) from sn_146 46) (by omega) (by omega) (fun q12 => ?_) (fun q12 => ?_)
          · skip
            refine mx_J.step (sn_146 52) (fun _ _ => rfl) ?_
            have c78 : mx_J (tB l D b0 ad Hb tau) mt_146 (d + 1) 78 [some (.ref 1), some (xI 2), some (xI x1), some (xI x2), some (.ref 48)] [] h Post := by
              refine JcI (z := (-3)) (show mx_Sn _ _ 78 (mx_const (.int (-3)) 80) from sn_146 78) rfl ?_
              exact mx_J.ret (sn_146 80) (fun _ _ => rfl) (hP (-3) (by omega))
            refine Jif_lt (show mx_Sn _ _ 53 (mx_if_lt 78 56) from sn_146 53) (by omega) (fun q14 => ?_) (fun q14 => ?_)
            · skip
              exact c78 
            · skip
              refine mx_J.step (sn_146 56) (fun _ _ => rfl) ?_
              refine mx_J.step (sn_146 58) (fun _ _ => rfl) ?_
              refine Ji2l (show mx_Sn _ _ 59 (mx_i2l 60) from sn_146 59) (by omega) ?_
              refine JcL (z := 18) (show mx_Sn _ _ 60 (mx_const (.long 18) 63) from sn_146 60) rfl ?_
              obtain ⟨z15, hc15, b15⟩ := ct_86_48 (d := d + 0) (l := l) (D := D) (b0 := b0) (ad := ad) (Hb := Hb) (tau := tau) hx hG (show (-9223372036854775808) ≤ x1 ∧ x1 ≤ 9223372036854775807 by omega) (show (-9223372036854775808) ≤ 18 ∧ 18 ≤ 9223372036854775807 by omega)
              obtain ⟨bs15_0, b15⟩ := b15
              obtain ⟨bs15_1, b15⟩ := b15
              refine Jcv hx (show mx_Sn _ _ 63 (mx_callv 86 3 10 66) from sn_146 63) a48 s48 hc15 rfl rfl rfl ?_
              refine Jif_eq (show mx_Sn _ _ 66 (mx_if_eq 78 69) from sn_146 66) (by omega) (fun q16 => ?_) (fun q16 => ?_)
              · skip
                exact c78 
              · skip
                refine mx_J.step (sn_146 69) (fun _ _ => rfl) ?_
                refine JcL (z := 0) (show mx_Sn _ _ 71 (mx_const (.long 0) 72) from sn_146 71) rfl ?_
                obtain ⟨z17, hc17, b17⟩ := ct_87_48 (d := d + 0) (l := l) (D := D) (b0 := b0) (ad := ad) (Hb := Hb) (tau := tau) hx hG (show (-9223372036854775808) ≤ 0 ∧ 0 ≤ 9223372036854775807 by omega)
                refine Jcv hx (show mx_Sn _ _ 72 (mx_callv 87 2 10 75) from sn_146 72) a48 s48 hc17 rfl rfl rfl ?_
                refine Jif_eq (show mx_Sn _ _ 75 (mx_if_eq 81 78) from sn_146 75) (by omega) (fun q18 => ?_) (fun q18 => ?_)
                · skip
                  refine JcI (z := 0) (show mx_Sn _ _ 81 (mx_const (.int 0) 82) from sn_146 81) rfl ?_
                  exact mx_J.ret (sn_146 82) (fun _ _ => rfl) (hP 0 (by omega))
                · skip
                  exact c78 
          · skip
            exact c49 
      · skip
        refine JcI (z := (-6)) (show mx_Sn _ _ 27 (mx_const (.int (-6)) 29) from sn_146 27) rfl ?_
        exact mx_J.ret (sn_146 29) (fun _ _ => rfl) (hP (-6) (by omega))
    · skip
      exfalso; omega
theorem ct_146_1_i2 {l : Launch} {D : va_G} {b0 : Nat} {ad : Nat → Nat} {Hb : Heap} {tau : Nat → Int64} {d n s : Nat} {S : Nat → xS} {Z : xZ} {h : mx_H} (hx : XH n s S Z h) (hG : GI n S Z)  {x1 x2 : Int} (p1 : (-1) ≤ x1 ∧ x1 ≤ 1) (p2 : (-2147483648) ≤ x2 ∧ x2 ≤ 2147483647) : ∃ z : Int, mx_Ca (tB l D b0 ad Hb tau) (d + 2) 146 [.ref 1, xI 2, xI x1, xI x2] h (some (xI z), h) ∧ ((-6) ≤ z ∧ z ≤ 0 ∧ (z = 0 → (1 ≤ Z 48 2 ∧ Z 48 2 ≤ 8 ∧ 0 ≤ x2))) := by
  obtain ⟨r, hca, z, e, hp⟩ := Jmt (B := tB l D b0 ad Hb tau) (M := mt_146) (mi := 146) (as := [.ref 1, xI 2, xI x1, xI x2]) (d := d + 1) (ls := [some (.ref 1), some (xI 2), some (xI x1), some (xI x2), none]) rfl rfl rfl rfl rfl rfl (cw_146_1_i2 (l := l) (D := D) (b0 := b0) (ad := ad) (Hb := Hb) (tau := tau) (d := d) (Post := fun r => ∃ z : Int, r = (some (xI z), h) ∧ ((-6) ≤ z ∧ z ≤ 0 ∧ (z = 0 → (1 ≤ Z 48 2 ∧ Z 48 2 ≤ 8 ∧ 0 ≤ x2)))) hx hG p1 p2 (fun z hz => ⟨z, rfl, hz⟩))
  subst e; exact ⟨z, hca, hp⟩
set_option maxRecDepth 100000 in
theorem cw_146_1_i3 {l : Launch} {D : va_G} {b0 : Nat} {ad : Nat → Nat} {Hb : Heap} {tau : Nat → Int64} {d n s : Nat} {S : Nat → xS} {Z : xZ} {h : mx_H} {Post : mx_R → Prop} (hx : XH n s S Z h) (hG : GI n S Z)  {x1 x2 : Int} (p1 : (-1) ≤ x1 ∧ x1 ≤ 1) (p2 : (-2147483648) ≤ x2 ∧ x2 ≤ 2147483647) (hP : ∀ z : Int, (-6) ≤ z ∧ z ≤ 0 ∧ (z = 0 → (1 ≤ Z 50 2 ∧ Z 50 2 ≤ 8 ∧ 0 ≤ x2)) → Post (some (xI z), h)) : mx_J (tB l D b0 ad Hb tau) mt_146 (d + 1) 0 [some (.ref 1), some (xI 3), some (xI x1), some (xI x2), none] [] h Post := by
    have a1 : 1 < n := lt83 (GI_n hG) rfl
    have s1 : S 1 = .inl (11, [2, 0, 0, 0, 2, 2, 2, 2, 2, 2, 2, 2, 2, 2, 2, 2, 2]) := GI_s hG 1 rfl
    have a34 : 34 < n := lt83 (GI_n hG) rfl
    have s34 : S 34 = .inr ((.object "TitheHeap$Tray"), 4, 2) := GI_s hG 34 rfl
    have a50 : 50 < n := lt83 (GI_n hG) rfl
    have s50 : S 50 = .inl (10, [2, 0, 0, 0]) := GI_s hG 50 rfl
    refine mx_J.step (sn_146 0) (fun _ _ => rfl) ?_
    refine mx_J.step (sn_146 1) (fun _ _ => rfl) ?_
    obtain ⟨z1, hc1, b1⟩ := ct_144_1_y (d := d + 0) (l := l) (D := D) (b0 := b0) (ad := ad) (Hb := Hb) (tau := tau) hx hG (show 0 ≤ 3 ∧ 3 ≤ 3 by omega)
    refine Jcv hx (show mx_Sn _ _ 2 (mx_callv 144 2 11 5) from sn_146 2) a1 s1 hc1 rfl rfl rfl ?_
    refine Jif_eq (show mx_Sn _ _ 5 (mx_if_eq 11 8) from sn_146 5) (by omega) (fun q2 => ?_) (fun q2 => ?_)
    · skip
      refine mx_J.step (sn_146 11) (fun _ _ => rfl) ?_
      refine JgetR (g := 10) (b := 34) hx (show mx_Sn _ _ 12 (mx_getf 11 10 15) from sn_146 12) a1 s1 rfl rfl (hG.prr 1 10 rfl) ?_
      refine mx_J.step (sn_146 15) (fun _ _ => rfl) ?_
      refine JaaldR (i := 3) (b := 50) hx (show mx_Sn _ _ 16 (mx_aald 17) from sn_146 16) a34 s34 (by omega) (show Z 34 3 = 50 by have hq := GI_ex hG 34 3; replace hq : ((0 : Int) ≤ 3 → (3 : Int) ≤ 3 → (Z 34 3) = 44 + 2 * 3) := hq; omega) ?_
      refine mx_J.step (ls2 := [some (.ref 1), some (xI 3), some (xI x1), some (xI x2), some (.ref 50)]) (sn_146 17) (fun _ _ => rfl) ?_
      refine mx_J.step (sn_146 19) (fun _ _ => rfl) ?_
      have b5 : 0 ≤ Z 50 3 ∧ Z 50 3 ≤ 1 := hG.pr 50 3
      refine JgetI (g := 3) (z := Z 50 3) hx (show mx_Sn _ _ 21 (mx_getf 10 3 24) from sn_146 21) a50 s50 rfl rfl rfl ?_
      refine Jif_eq (show mx_Sn _ _ 24 (mx_if_eq 30 27) from sn_146 24) (by omega) (fun q6 => ?_) (fun q6 => ?_)
      · skip
        refine mx_J.step (sn_146 30) (fun _ _ => rfl) ?_
        have b8 : 0 ≤ Z 50 2 ∧ Z 50 2 ≤ 40 := hG.pr 50 2
        refine JgetI (g := 2) (z := Z 50 2) hx (show mx_Sn _ _ 32 (mx_getf 10 2 35) from sn_146 32) a50 s50 rfl rfl rfl ?_
        refine JcI (z := 1) (show mx_Sn _ _ 35 (mx_const (.int 1) 36) from sn_146 35) rfl ?_
        have c49 : mx_J (tB l D b0 ad Hb tau) mt_146 (d + 1) 49 [some (.ref 1), some (xI 3), some (xI x1), some (xI x2), some (.ref 50)] [] h Post := by
          refine JcI (z := (-4)) (show mx_Sn _ _ 49 (mx_const (.int (-4)) 51) from sn_146 49) rfl ?_
          exact mx_J.ret (sn_146 51) (fun _ _ => rfl) (hP (-4) (by omega))
        refine Jicmp_lt (show mx_Sn _ _ 36 (mx_icmp_lt 49 39) from sn_146 36) (by omega) (by omega) (fun q10 => ?_) (fun q10 => ?_)
        · skip
          exact c49 
        · skip
          refine mx_J.step (sn_146 39) (fun _ _ => rfl) ?_
          refine JgetI (g := 2) (z := Z 50 2) hx (show mx_Sn _ _ 41 (mx_getf 10 2 44) from sn_146 41) a50 s50 rfl rfl rfl ?_
          refine JcI (z := 8) (show mx_Sn _ _ 44 (mx_const (.int 8) 46) from sn_146 44) rfl ?_
          refine Jicmp_le (show mx_Sn _ _ 46 (mx_icmp_le 52 49) from sn_146 46) (by omega) (by omega) (fun q12 => ?_) (fun q12 => ?_)
          · skip
            refine mx_J.step (sn_146 52) (fun _ _ => rfl) ?_
            have c78 : mx_J (tB l D b0 ad Hb tau) mt_146 (d + 1) 78 [some (.ref 1), some (xI 3), some (xI x1), some (xI x2), some (.ref 50)] [] h Post := by
              refine JcI (z := (-3)) (show mx_Sn _ _ 78 (mx_const (.int (-3)) 80) from sn_146 78) rfl ?_
              exact mx_J.ret (sn_146 80) (fun _ _ => rfl) (hP (-3) (by omega))
            refine Jif_lt (show mx_Sn _ _ 53 (mx_if_lt 78 56) from sn_146 53) (by omega) (fun q14 => ?_) (fun q14 => ?_)
            · skip
              exact c78 
            · skip
              refine mx_J.step (sn_146 56) (fun _ _ => rfl) ?_
              refine mx_J.step (sn_146 58) (fun _ _ => rfl) ?_
              refine Ji2l (show mx_Sn _ _ 59 (mx_i2l 60) from sn_146 59) (by omega) ?_
              refine JcL (z := 18) (show mx_Sn _ _ 60 (mx_const (.long 18) 63) from sn_146 60) rfl ?_
              obtain ⟨z15, hc15, b15⟩ := ct_86_50 (d := d + 0) (l := l) (D := D) (b0 := b0) (ad := ad) (Hb := Hb) (tau := tau) hx hG (show (-9223372036854775808) ≤ x1 ∧ x1 ≤ 9223372036854775807 by omega) (show (-9223372036854775808) ≤ 18 ∧ 18 ≤ 9223372036854775807 by omega)
              obtain ⟨bs15_0, b15⟩ := b15
              obtain ⟨bs15_1, b15⟩ := b15
              refine Jcv hx (show mx_Sn _ _ 63 (mx_callv 86 3 10 66) from sn_146 63) a50 s50 hc15 rfl rfl rfl ?_
              refine Jif_eq (show mx_Sn _ _ 66 (mx_if_eq 78 69) from sn_146 66) (by omega) (fun q16 => ?_) (fun q16 => ?_)
              · skip
                exact c78 
              · skip
                refine mx_J.step (sn_146 69) (fun _ _ => rfl) ?_
                refine JcL (z := 0) (show mx_Sn _ _ 71 (mx_const (.long 0) 72) from sn_146 71) rfl ?_
                obtain ⟨z17, hc17, b17⟩ := ct_87_50 (d := d + 0) (l := l) (D := D) (b0 := b0) (ad := ad) (Hb := Hb) (tau := tau) hx hG (show (-9223372036854775808) ≤ 0 ∧ 0 ≤ 9223372036854775807 by omega)
                refine Jcv hx (show mx_Sn _ _ 72 (mx_callv 87 2 10 75) from sn_146 72) a50 s50 hc17 rfl rfl rfl ?_
                refine Jif_eq (show mx_Sn _ _ 75 (mx_if_eq 81 78) from sn_146 75) (by omega) (fun q18 => ?_) (fun q18 => ?_)
                · skip
                  refine JcI (z := 0) (show mx_Sn _ _ 81 (mx_const (.int 0) 82) from sn_146 81) rfl ?_
                  exact mx_J.ret (sn_146 82) (fun _ _ => rfl) (hP 0 (by omega))
                · skip
                  exact c78 
          · skip
            exact c49 
      · skip
        refine JcI (z := (-6)) (show mx_Sn _ _ 27 (mx_const (.int (-6)) 29) from sn_146 27) rfl ?_
        exact mx_J.ret (sn_146 29) (fun _ _ => rfl) (hP (-6) (by omega))
    · skip
      exfalso; omega
theorem ct_146_1_i3 {l : Launch} {D : va_G} {b0 : Nat} {ad : Nat → Nat} {Hb : Heap} {tau : Nat → Int64} {d n s : Nat} {S : Nat → xS} {Z : xZ} {h : mx_H} (hx : XH n s S Z h) (hG : GI n S Z)  {x1 x2 : Int} (p1 : (-1) ≤ x1 ∧ x1 ≤ 1) (p2 : (-2147483648) ≤ x2 ∧ x2 ≤ 2147483647) : ∃ z : Int, mx_Ca (tB l D b0 ad Hb tau) (d + 2) 146 [.ref 1, xI 3, xI x1, xI x2] h (some (xI z), h) ∧ ((-6) ≤ z ∧ z ≤ 0 ∧ (z = 0 → (1 ≤ Z 50 2 ∧ Z 50 2 ≤ 8 ∧ 0 ≤ x2))) := by
  obtain ⟨r, hca, z, e, hp⟩ := Jmt (B := tB l D b0 ad Hb tau) (M := mt_146) (mi := 146) (as := [.ref 1, xI 3, xI x1, xI x2]) (d := d + 1) (ls := [some (.ref 1), some (xI 3), some (xI x1), some (xI x2), none]) rfl rfl rfl rfl rfl rfl (cw_146_1_i3 (l := l) (D := D) (b0 := b0) (ad := ad) (Hb := Hb) (tau := tau) (d := d) (Post := fun r => ∃ z : Int, r = (some (xI z), h) ∧ ((-6) ≤ z ∧ z ≤ 0 ∧ (z = 0 → (1 ≤ Z 50 2 ∧ Z 50 2 ≤ 8 ∧ 0 ≤ x2)))) hx hG p1 p2 (fun z hz => ⟨z, rfl, hz⟩))
  subst e; exact ⟨z, hca, hp⟩
set_option maxRecDepth 100000 in
theorem cw_146_1_n {l : Launch} {D : va_G} {b0 : Nat} {ad : Nat → Nat} {Hb : Heap} {tau : Nat → Int64} {d n s : Nat} {S : Nat → xS} {Z : xZ} {h : mx_H} {Post : mx_R → Prop} (hx : XH n s S Z h) (hG : GI n S Z)  {x0 x1 x2 : Int} (p0 : (-2147483648) ≤ x0 ∧ x0 ≤ (-1)) (p1 : (-1) ≤ x1 ∧ x1 ≤ 1) (p2 : (-2147483648) ≤ x2 ∧ x2 ≤ 2147483647) (hP : ∀ z : Int, (-2) ≤ z ∧ z ≤ (-2) → Post (some (xI z), h)) : mx_J (tB l D b0 ad Hb tau) mt_146 (d + 1) 0 [some (.ref 1), some (xI x0), some (xI x1), some (xI x2), none] [] h Post := by
    have a1 : 1 < n := lt83 (GI_n hG) rfl
    have s1 : S 1 = .inl (11, [2, 0, 0, 0, 2, 2, 2, 2, 2, 2, 2, 2, 2, 2, 2, 2, 2]) := GI_s hG 1 rfl
    refine mx_J.step (sn_146 0) (fun _ _ => rfl) ?_
    refine mx_J.step (sn_146 1) (fun _ _ => rfl) ?_
    obtain ⟨z1, hc1, b1⟩ := ct_144_1_n (d := d + 0) (l := l) (D := D) (b0 := b0) (ad := ad) (Hb := Hb) (tau := tau) hx hG (show (-2147483648) ≤ x0 ∧ x0 ≤ (-1) by omega)
    refine Jcv hx (show mx_Sn _ _ 2 (mx_callv 144 2 11 5) from sn_146 2) a1 s1 hc1 rfl rfl rfl ?_
    refine Jif_eq (show mx_Sn _ _ 5 (mx_if_eq 11 8) from sn_146 5) (by omega) (fun q2 => ?_) (fun q2 => ?_)
    · skip
      exfalso; omega
    · skip
      refine JcI (z := (-2)) (show mx_Sn _ _ 8 (mx_const (.int (-2)) 10) from sn_146 8) rfl ?_
      exact mx_J.ret (sn_146 10) (fun _ _ => rfl) (hP (-2) (by omega))
theorem ct_146_1_n {l : Launch} {D : va_G} {b0 : Nat} {ad : Nat → Nat} {Hb : Heap} {tau : Nat → Int64} {d n s : Nat} {S : Nat → xS} {Z : xZ} {h : mx_H} (hx : XH n s S Z h) (hG : GI n S Z)  {x0 x1 x2 : Int} (p0 : (-2147483648) ≤ x0 ∧ x0 ≤ (-1)) (p1 : (-1) ≤ x1 ∧ x1 ≤ 1) (p2 : (-2147483648) ≤ x2 ∧ x2 ≤ 2147483647) : ∃ z : Int, mx_Ca (tB l D b0 ad Hb tau) (d + 2) 146 [.ref 1, xI x0, xI x1, xI x2] h (some (xI z), h) ∧ ((-2) ≤ z ∧ z ≤ (-2)) := by
  obtain ⟨r, hca, z, e, hp⟩ := Jmt (B := tB l D b0 ad Hb tau) (M := mt_146) (mi := 146) (as := [.ref 1, xI x0, xI x1, xI x2]) (d := d + 1) (ls := [some (.ref 1), some (xI x0), some (xI x1), some (xI x2), none]) rfl rfl rfl rfl rfl rfl (cw_146_1_n (l := l) (D := D) (b0 := b0) (ad := ad) (Hb := Hb) (tau := tau) (d := d) (Post := fun r => ∃ z : Int, r = (some (xI z), h) ∧ ((-2) ≤ z ∧ z ≤ (-2))) hx hG p0 p1 p2 (fun z hz => ⟨z, rfl, hz⟩))
  subst e; exact ⟨z, hca, hp⟩
set_option maxRecDepth 100000 in
theorem cw_146_1_p {l : Launch} {D : va_G} {b0 : Nat} {ad : Nat → Nat} {Hb : Heap} {tau : Nat → Int64} {d n s : Nat} {S : Nat → xS} {Z : xZ} {h : mx_H} {Post : mx_R → Prop} (hx : XH n s S Z h) (hG : GI n S Z)  {x0 x1 x2 : Int} (p0 : 4 ≤ x0 ∧ x0 ≤ 2147483647) (p1 : (-1) ≤ x1 ∧ x1 ≤ 1) (p2 : (-2147483648) ≤ x2 ∧ x2 ≤ 2147483647) (hP : ∀ z : Int, (-2) ≤ z ∧ z ≤ (-2) → Post (some (xI z), h)) : mx_J (tB l D b0 ad Hb tau) mt_146 (d + 1) 0 [some (.ref 1), some (xI x0), some (xI x1), some (xI x2), none] [] h Post := by
    have a1 : 1 < n := lt83 (GI_n hG) rfl
    have s1 : S 1 = .inl (11, [2, 0, 0, 0, 2, 2, 2, 2, 2, 2, 2, 2, 2, 2, 2, 2, 2]) := GI_s hG 1 rfl
    refine mx_J.step (sn_146 0) (fun _ _ => rfl) ?_
    refine mx_J.step (sn_146 1) (fun _ _ => rfl) ?_
    obtain ⟨z1, hc1, b1⟩ := ct_144_1_p (d := d + 0) (l := l) (D := D) (b0 := b0) (ad := ad) (Hb := Hb) (tau := tau) hx hG (show 4 ≤ x0 ∧ x0 ≤ 2147483647 by omega)
    refine Jcv hx (show mx_Sn _ _ 2 (mx_callv 144 2 11 5) from sn_146 2) a1 s1 hc1 rfl rfl rfl ?_
    refine Jif_eq (show mx_Sn _ _ 5 (mx_if_eq 11 8) from sn_146 5) (by omega) (fun q2 => ?_) (fun q2 => ?_)
    · skip
      exfalso; omega
    · skip
      refine JcI (z := (-2)) (show mx_Sn _ _ 8 (mx_const (.int (-2)) 10) from sn_146 8) rfl ?_
      exact mx_J.ret (sn_146 10) (fun _ _ => rfl) (hP (-2) (by omega))
theorem ct_146_1_p {l : Launch} {D : va_G} {b0 : Nat} {ad : Nat → Nat} {Hb : Heap} {tau : Nat → Int64} {d n s : Nat} {S : Nat → xS} {Z : xZ} {h : mx_H} (hx : XH n s S Z h) (hG : GI n S Z)  {x0 x1 x2 : Int} (p0 : 4 ≤ x0 ∧ x0 ≤ 2147483647) (p1 : (-1) ≤ x1 ∧ x1 ≤ 1) (p2 : (-2147483648) ≤ x2 ∧ x2 ≤ 2147483647) : ∃ z : Int, mx_Ca (tB l D b0 ad Hb tau) (d + 2) 146 [.ref 1, xI x0, xI x1, xI x2] h (some (xI z), h) ∧ ((-2) ≤ z ∧ z ≤ (-2)) := by
  obtain ⟨r, hca, z, e, hp⟩ := Jmt (B := tB l D b0 ad Hb tau) (M := mt_146) (mi := 146) (as := [.ref 1, xI x0, xI x1, xI x2]) (d := d + 1) (ls := [some (.ref 1), some (xI x0), some (xI x1), some (xI x2), none]) rfl rfl rfl rfl rfl rfl (cw_146_1_p (l := l) (D := D) (b0 := b0) (ad := ad) (Hb := Hb) (tau := tau) (d := d) (Post := fun r => ∃ z : Int, r = (some (xI z), h) ∧ ((-2) ≤ z ∧ z ≤ (-2))) hx hG p0 p1 p2 (fun z hz => ⟨z, rfl, hz⟩))
  subst e; exact ⟨z, hca, hp⟩
set_option maxRecDepth 100000 in
theorem cw_147_1_44 {l : Launch} {D : va_G} {b0 : Nat} {ad : Nat → Nat} {Hb : Heap} {tau : Nat → Int64} {d n s : Nat} {S : Nat → xS} {Z : xZ} {h : mx_H} {Post : mx_R → Prop} (hx : XH n s S Z h) (hG : GI n S Z)   (hP : ∀ (Z' : xZ) (h' : mx_H), XH n s S Z' h' → GI n S Z' → fr' [(14, (-1)), (16, (-1)), (17, (-1)), (18, (-1)), (19, (-1)), (33, (-1))] Z Z' → Post (none, h')) : mx_J (tB l D b0 ad Hb tau) mt_147 (d + 5) 0 [some (.ref 1), some (.ref 44), none] [] h Post := by
    have a1 : 1 < n := lt83 (GI_n hG) rfl
    have s1 : S 1 = .inl (11, [2, 0, 0, 0, 2, 2, 2, 2, 2, 2, 2, 2, 2, 2, 2, 2, 2]) := GI_s hG 1 rfl
    have a32 : 32 < n := lt83 (GI_n hG) rfl
    have s32 : S 32 = .inl (9, [2, 2, 2]) := GI_s hG 32 rfl
    have a36 : 36 < n := lt83 (GI_n hG) rfl
    have s36 : S 36 = .inl (5, [2, 0, 0, 0, 0, 0]) := GI_s hG 36 rfl
    have a44 : 44 < n := lt83 (GI_n hG) rfl
    have s44 : S 44 = .inl (10, [2, 0, 0, 0]) := GI_s hG 44 rfl
    refine mx_J.step (sn_147 0) (fun _ _ => rfl) ?_
    refine JgetR (g := 9) (b := 32) hx (show mx_Sn _ _ 1 (mx_getf 11 9 4) from sn_147 1) a1 s1 rfl rfl (hG.prr 1 9 rfl) ?_
    refine mx_J.step (sn_147 4) (fun _ _ => rfl) ?_
    refine JgetR (g := 12) (b := 36) hx (show mx_Sn _ _ 5 (mx_getf 11 12 8) from sn_147 5) a1 s1 rfl rfl (hG.prr 1 12 rfl) ?_
    have b4 : 0 ≤ Z 36 2 ∧ Z 36 2 ≤ 384 := hG.pr 36 2
    refine JgetI (g := 2) (z := Z 36 2) hx (show mx_Sn _ _ 8 (mx_getf 5 2 11) from sn_147 8) a36 s36 rfl rfl rfl ?_
    obtain ⟨Z5, h5, hc5, hx5, hG5, hf5⟩ := ct_71_32 (d := d + 3) (l := l) (D := D) (b0 := b0) (ad := ad) (Hb := Hb) (tau := tau) hx hG (show (-2147483648) ≤ Z 36 2 ∧ Z 36 2 ≤ 2147483647 by omega)
    refine Jcv0 hx (show mx_Sn _ _ 11 (mx_callv 71 2 9 14) from sn_147 11) a32 s32 hc5 rfl rfl rfl ?_
    refine JcI (z := 0) (show mx_Sn _ _ 14 (mx_const (.int 0) 15) from sn_147 14) rfl ?_
    refine mx_J.step (ls2 := [some (.ref 1), some (.ref 44), some (xI 0)]) (sn_147 15) (fun _ _ => rfl) ?_
    have c16 : ∀ (m6 : Nat) (w6_2 : Int) (Z7 : xZ) (h7 : mx_H), 40 - w6_2 < (m6 : Int) → 0 ≤ w6_2 ∧ w6_2 ≤ 40 → XH n s S Z7 h7 → GI n S Z7 → fr' [(14, (-1)), (16, (-1)), (17, (-1)), (18, (-1)), (19, (-1)), (33, (-1))] Z5 Z7 → mx_J (tB l D b0 ad Hb tau) mt_147 (d + 5) 16 [some (.ref 1), some (.ref 44), some (xI w6_2)] [] h7 Post := by
      intro m6
      induction m6 with
      | zero => intro w6_2 Z7 h7 q6 f6_0 hx7 hG7 hf7; exact absurd q6 (by omega)
      | succ m6 ih6 =>
        intro w6_2 Z7 h7 q6 f6_0 hx7 hG7 hf7
        refine mx_J.step (sn_147 16) (fun _ _ => rfl) ?_
        refine mx_J.step (sn_147 17) (fun _ _ => rfl) ?_
        have b9 : 0 ≤ Z 44 2 ∧ Z 44 2 ≤ 40 := hG.pr 44 2
        refine JgetI (g := 2) (z := Z 44 2) hx7 (show mx_Sn _ _ 18 (mx_getf 10 2 21) from sn_147 18) a44 s44 rfl rfl ((hf7 44 2 rfl).trans (hf5 44 2 rfl)) ?_
        refine Jicmp_ge (show mx_Sn _ _ 21 (mx_icmp_ge 44 24) from sn_147 21) (by omega) (by omega) (fun q10 => ?_) (fun q10 => ?_)
        · skip
          exact mx_J.ret (sn_147 44) (fun _ _ => rfl) (hP Z7 h7 hx7 hG7 (fr_tr (M := [(14, (-1)), (16, (-1)), (17, (-1)), (18, (-1)), (19, (-1)), (33, (-1))]) (fr_tr (M := [(14, (-1)), (16, (-1)), (17, (-1)), (18, (-1)), (19, (-1)), (33, (-1))]) fr_rf (hf5) (M1 := []) rfl rfl) (hf7) rfl rfl))
        · skip
          refine mx_J.step (sn_147 24) (fun _ _ => rfl) ?_
          refine JgetR (g := 9) (b := 32) hx7 (show mx_Sn _ _ 25 (mx_getf 11 9 28) from sn_147 25) a1 s1 rfl rfl (hG7.prr 1 9 rfl) ?_
          refine mx_J.step (sn_147 28) (fun _ _ => rfl) ?_
          refine mx_J.step (sn_147 29) (fun _ _ => rfl) ?_
          refine mx_J.step (sn_147 30) (fun _ _ => rfl) ?_
          have eq13 : Z7 45 w6_2 = Z 45 w6_2 := ((hf7 45 w6_2 rfl).trans (hf5 45 w6_2 rfl))
          have b14 : (-9223372036854775808) ≤ Z 45 w6_2 ∧ Z 45 w6_2 ≤ 9223372036854775807 := hG.pr 45 w6_2
          obtain ⟨z12, hc12, b12⟩ := ct_85_44 (d := d + 4) (l := l) (D := D) (b0 := b0) (ad := ad) (Hb := Hb) (tau := tau) hx7 hG7 (show (-2147483648) ≤ w6_2 ∧ w6_2 ≤ 2147483647 by omega)
          try rw [eq13] at b12
          refine Jcv hx7 (show mx_Sn _ _ 31 (mx_callv 85 2 10 34) from sn_147 31) a44 s44 hc12 rfl rfl rfl ?_
          refine Jl2i (show mx_Sn _ _ 34 (mx_l2i 35) from sn_147 34) (Jnorm fun y15 hy15 hq15 => ?_)
          obtain ⟨Z16, h16, hc16, hx16, hG16, hf16⟩ := ct_73_32 (d := d + 0) (l := l) (D := D) (b0 := b0) (ad := ad) (Hb := Hb) (tau := tau) hx7 hG7 (show 0 ≤ w6_2 ∧ w6_2 ≤ 39 by omega) (show (-2147483648) ≤ y15 ∧ y15 ≤ 2147483647 by omega)
          refine Jcv0 hx7 (show mx_Sn _ _ 35 (mx_callv 73 3 9 38) from sn_147 35) a32 s32 hc16 rfl rfl rfl ?_
          refine Jiinc (z := w6_2) (cz := 1) (ls2 := [some (.ref 1), some (.ref 44), some (xI (w6_2 + 1))]) (show mx_Sn _ _ 38 (mx_iinc 2 1 41) from sn_147 38) rfl rfl rfl rfl ?_
          refine mx_J.step (sn_147 41) (fun _ _ => rfl) ?_
          exact ih6 (w6_2 + 1) Z16 h16 (by omega) (by omega) hx16 hG16 (fr_tr (M := [(14, (-1)), (16, (-1)), (17, (-1)), (18, (-1)), (19, (-1)), (33, (-1))]) (fr_tr (M := [(14, (-1)), (16, (-1)), (17, (-1)), (18, (-1)), (19, (-1)), (33, (-1))]) fr_rf (hf7) (M1 := []) rfl rfl) (hf16) rfl rfl)
    exact c16 (Int.toNat (40 - 0) + 1) 0 Z5 h5 (by omega) (by omega) hx5 hG5 fr_rf
theorem ct_147_1_44 {l : Launch} {D : va_G} {b0 : Nat} {ad : Nat → Nat} {Hb : Heap} {tau : Nat → Int64} {d n s : Nat} {S : Nat → xS} {Z : xZ} {h : mx_H} (hx : XH n s S Z h) (hG : GI n S Z)   : ∃ (Z' : xZ) (h' : mx_H), mx_Ca (tB l D b0 ad Hb tau) (d + 6) 147 [.ref 1, .ref 44] h (none, h') ∧ XH n s S Z' h' ∧ GI n S Z' ∧ fr' [(14, (-1)), (16, (-1)), (17, (-1)), (18, (-1)), (19, (-1)), (33, (-1))] Z Z' := by
  obtain ⟨r, hca, Z', h', e, q⟩ := Jmt (B := tB l D b0 ad Hb tau) (M := mt_147) (mi := 147) (as := [.ref 1, .ref 44]) (d := d + 5) (ls := [some (.ref 1), some (.ref 44), none]) rfl rfl rfl rfl rfl rfl (cw_147_1_44 (l := l) (D := D) (b0 := b0) (ad := ad) (Hb := Hb) (tau := tau) (d := d) (Post := fun r => ∃ (Z' : xZ) (h' : mx_H), r = (none, h') ∧ XH n s S Z' h' ∧ GI n S Z' ∧ fr' [(14, (-1)), (16, (-1)), (17, (-1)), (18, (-1)), (19, (-1)), (33, (-1))] Z Z') hx hG  (fun Z' h' q1 q2 q3 => ⟨Z', h', rfl, q1, q2, q3⟩))
  subst e; exact ⟨Z', h', hca, q⟩
set_option maxRecDepth 100000 in
theorem cw_150_1_44 {l : Launch} {D : va_G} {b0 : Nat} {ad : Nat → Nat} {Hb : Heap} {tau : Nat → Int64} {d n s : Nat} {S : Nat → xS} {Z : xZ} {h : mx_H} {Post : mx_R → Prop} (hx : XH n s S Z h) (hG : GI n S Z)   (hP : ∀ (z : Int) (Z' : xZ) (h' : mx_H), XH n s S Z' h' → GI n S Z' → fr' [(14, (-1)), (16, (-1)), (17, (-1)), (18, (-1)), (19, (-1))] Z Z' → (-1) ≤ z ∧ z ≤ 384 → Post (some (xI z), h')) : mx_J (tB l D b0 ad Hb tau) mt_150 (d + 4) 0 [some (.ref 1), some (.ref 44), none, none] [] h Post := by
    have a1 : 1 < n := lt83 (GI_n hG) rfl
    have s1 : S 1 = .inl (11, [2, 0, 0, 0, 2, 2, 2, 2, 2, 2, 2, 2, 2, 2, 2, 2, 2]) := GI_s hG 1 rfl
    have a7 : 7 < n := lt83 (GI_n hG) rfl
    have s7 : S 7 = .inl (0, [2, 2, 2, 2, 0, 0]) := GI_s hG 7 rfl
    have a12 : 12 < n := lt83 (GI_n hG) rfl
    have s12 : S 12 = .inl (4, [2, 2, 0, 2, 2, 2, 2, 2, 2]) := GI_s hG 12 rfl
    have a36 : 36 < n := lt83 (GI_n hG) rfl
    have s36 : S 36 = .inl (5, [2, 0, 0, 0, 0, 0]) := GI_s hG 36 rfl
    have a44 : 44 < n := lt83 (GI_n hG) rfl
    have s44 : S 44 = .inl (10, [2, 0, 0, 0]) := GI_s hG 44 rfl
    refine mx_J.step (sn_150 0) (fun _ _ => rfl) ?_
    refine JgetR (g := 12) (b := 36) hx (show mx_Sn _ _ 1 (mx_getf 11 12 4) from sn_150 1) a1 s1 rfl rfl (hG.prr 1 12 rfl) ?_
    have b3 : 0 ≤ Z 36 2 ∧ Z 36 2 ≤ 384 := hG.pr 36 2
    refine JgetI (g := 2) (z := Z 36 2) hx (show mx_Sn _ _ 4 (mx_getf 5 2 7) from sn_150 4) a36 s36 rfl rfl rfl ?_
    refine mx_J.step (ls2 := [some (.ref 1), some (.ref 44), some (xI (Z 36 2)), none]) (sn_150 7) (fun _ _ => rfl) ?_
    refine JcI (z := 0) (show mx_Sn _ _ 8 (mx_const (.int 0) 9) from sn_150 8) rfl ?_
    refine mx_J.step (ls2 := [some (.ref 1), some (.ref 44), some (xI (Z 36 2)), some (xI 0)]) (sn_150 9) (fun _ _ => rfl) ?_
    have c10 : ∀ (m4 : Nat) (w4_2 : Int) (w4_3 : Int) (Z5 : xZ) (h5 : mx_H), 40 - w4_3 < (m4 : Int) → (-1) ≤ w4_2 ∧ w4_2 ≤ 384 → 0 ≤ w4_3 ∧ w4_3 ≤ 40 → XH n s S Z5 h5 → GI n S Z5 → fr' [(14, (-1)), (16, (-1)), (17, (-1)), (18, (-1)), (19, (-1))] Z Z5 → mx_J (tB l D b0 ad Hb tau) mt_150 (d + 4) 10 [some (.ref 1), some (.ref 44), some (xI w4_2), some (xI w4_3)] [] h5 Post := by
      intro m4
      induction m4 with
      | zero => intro w4_2 w4_3 Z5 h5 q4 f4_0 f4_1 hx5 hG5 hf5; exact absurd q4 (by omega)
      | succ m4 ih4 =>
        intro w4_2 w4_3 Z5 h5 q4 f4_0 f4_1 hx5 hG5 hf5
        refine mx_J.step (sn_150 10) (fun _ _ => rfl) ?_
        refine mx_J.step (sn_150 11) (fun _ _ => rfl) ?_
        have b7 : 0 ≤ Z 44 2 ∧ Z 44 2 ≤ 40 := hG.pr 44 2
        refine JgetI (g := 2) (z := Z 44 2) hx5 (show mx_Sn _ _ 12 (mx_getf 10 2 15) from sn_150 12) a44 s44 rfl rfl (hf5 44 2 rfl) ?_
        refine Jicmp_ge (show mx_Sn _ _ 15 (mx_icmp_ge 54 18) from sn_150 15) (by omega) (by omega) (fun q8 => ?_) (fun q8 => ?_)
        · skip
          refine mx_J.step (sn_150 54) (fun _ _ => rfl) ?_
          exact mx_J.ret (sn_150 55) (fun _ _ => rfl) (hP w4_2 Z5 h5 hx5 hG5 (fr_tr (M := [(14, (-1)), (16, (-1)), (17, (-1)), (18, (-1)), (19, (-1))]) fr_rf (hf5) (M1 := []) rfl rfl) (by omega))
        · skip
          refine mx_J.step (sn_150 18) (fun _ _ => rfl) ?_
          refine JgetR (g := 6) (b := 12) hx5 (show mx_Sn _ _ 19 (mx_getf 11 6 22) from sn_150 19) a1 s1 rfl rfl (hG5.prr 1 6 rfl) ?_
          refine mx_J.step (sn_150 22) (fun _ _ => rfl) ?_
          refine JcI (z := 0) (show mx_Sn _ _ 23 (mx_const (.int 0) 24) from sn_150 23) rfl ?_
          obtain ⟨z10, Z10, h10, hc10, hx10, hG10, hf10, b10⟩ := ct_26_12 (d := d + 0) (l := l) (D := D) (b0 := b0) (ad := ad) (Hb := Hb) (tau := tau) hx5 hG5 (show (-2147483648) ≤ w4_2 ∧ w4_2 ≤ 2147483647 by omega) (show (-2147483648) ≤ 0 ∧ 0 ≤ 2147483647 by omega)
          refine Jcv hx5 (show mx_Sn _ _ 24 (mx_callv 26 3 4 27) from sn_150 24) a12 s12 hc10 rfl rfl rfl ?_
          refine mx_J.step (ls2 := [some (.ref 1), some (.ref 44), some (xI z10), some (xI w4_3)]) (sn_150 27) (fun _ _ => rfl) ?_
          refine mx_J.step (sn_150 28) (fun _ _ => rfl) ?_
          refine JgetR (g := 5) (b := 7) hx10 (show mx_Sn _ _ 29 (mx_getf 11 5 32) from sn_150 29) a1 s1 rfl rfl (hG10.prr 1 5 rfl) ?_
          refine mx_J.step (sn_150 32) (fun _ _ => rfl) ?_
          have eq13 : Z10 7 5 = Z 7 5 := ((hf10 7 5 rfl).trans (hf5 7 5 rfl))
          have b14 : 0 ≤ Z 7 5 ∧ Z 7 5 ≤ 385 := hG.pr 7 5
          have eq15 : Z10 10 z10 = Z 10 z10 := ((hf10 10 z10 rfl).trans (hf5 10 z10 rfl))
          have b16 : 0 ≤ Z 10 z10 ∧ Z 10 z10 ≤ 18 := hG.pr 10 z10
          obtain ⟨z12, hc12, b12⟩ := ct_5_7 (d := d + 3) (l := l) (D := D) (b0 := b0) (ad := ad) (Hb := Hb) (tau := tau) hx10 hG10 (show (-2147483648) ≤ z10 ∧ z10 ≤ 2147483647 by omega)
          try rw [eq13] at b12
          try rw [eq15] at b12
          refine Jcv hx10 (show mx_Sn _ _ 33 (mx_callv 5 2 0 36) from sn_150 33) a7 s7 hc12 rfl rfl rfl ?_
          refine Ji2l (show mx_Sn _ _ 36 (mx_i2l 37) from sn_150 36) (by omega) ?_
          refine mx_J.step (sn_150 37) (fun _ _ => rfl) ?_
          refine mx_J.step (sn_150 38) (fun _ _ => rfl) ?_
          have eq18 : Z10 45 w4_3 = Z 45 w4_3 := ((hf10 45 w4_3 rfl).trans (hf5 45 w4_3 rfl))
          have b19 : (-9223372036854775808) ≤ Z 45 w4_3 ∧ Z 45 w4_3 ≤ 9223372036854775807 := hG.pr 45 w4_3
          obtain ⟨z17, hc17, b17⟩ := ct_85_44 (d := d + 3) (l := l) (D := D) (b0 := b0) (ad := ad) (Hb := Hb) (tau := tau) hx10 hG10 (show (-2147483648) ≤ w4_3 ∧ w4_3 ≤ 2147483647 by omega)
          try rw [eq18] at b17
          refine Jcv hx10 (show mx_Sn _ _ 39 (mx_callv 85 2 10 42) from sn_150 39) a44 s44 hc17 rfl rfl rfl ?_
          refine Jlif_eq (show mx_Sn _ _ 42 (mx_lif_eq 48 46) from sn_150 42) (by omega) (by omega) (fun q20 => ?_) (fun q20 => ?_)
          · skip
            refine Jiinc (z := w4_3) (cz := 1) (ls2 := [some (.ref 1), some (.ref 44), some (xI z10), some (xI (w4_3 + 1))]) (show mx_Sn _ _ 48 (mx_iinc 3 1 51) from sn_150 48) rfl rfl rfl rfl ?_
            refine mx_J.step (sn_150 51) (fun _ _ => rfl) ?_
            exact ih4 z10 (w4_3 + 1) Z10 h10 (by omega) (by omega) (by omega) hx10 hG10 (fr_tr (M := [(14, (-1)), (16, (-1)), (17, (-1)), (18, (-1)), (19, (-1))]) (fr_tr (M := [(14, (-1)), (16, (-1)), (17, (-1)), (18, (-1)), (19, (-1))]) fr_rf (hf5) (M1 := []) rfl rfl) (hf10) rfl rfl)
          · skip
            refine JcI (z := (-1)) (show mx_Sn _ _ 46 (mx_const (.int (-1)) 47) from sn_150 46) rfl ?_
            exact mx_J.ret (sn_150 47) (fun _ _ => rfl) (hP (-1) Z10 h10 hx10 hG10 (fr_tr (M := [(14, (-1)), (16, (-1)), (17, (-1)), (18, (-1)), (19, (-1))]) (fr_tr (M := [(14, (-1)), (16, (-1)), (17, (-1)), (18, (-1)), (19, (-1))]) fr_rf (hf5) (M1 := []) rfl rfl) (hf10) rfl rfl) (by omega))
    exact c10 (Int.toNat (40 - 0) + 1) (Z 36 2) 0 Z h (by omega) (by omega) (by omega) hx hG fr_rf
theorem ct_150_1_44 {l : Launch} {D : va_G} {b0 : Nat} {ad : Nat → Nat} {Hb : Heap} {tau : Nat → Int64} {d n s : Nat} {S : Nat → xS} {Z : xZ} {h : mx_H} (hx : XH n s S Z h) (hG : GI n S Z)   : ∃ (z : Int) (Z' : xZ) (h' : mx_H), mx_Ca (tB l D b0 ad Hb tau) (d + 5) 150 [.ref 1, .ref 44] h (some (xI z), h') ∧ XH n s S Z' h' ∧ GI n S Z' ∧ fr' [(14, (-1)), (16, (-1)), (17, (-1)), (18, (-1)), (19, (-1))] Z Z' ∧ ((-1) ≤ z ∧ z ≤ 384) := by
  obtain ⟨r, hca, z, Z', h', e, q⟩ := Jmt (B := tB l D b0 ad Hb tau) (M := mt_150) (mi := 150) (as := [.ref 1, .ref 44]) (d := d + 4) (ls := [some (.ref 1), some (.ref 44), none, none]) rfl rfl rfl rfl rfl rfl (cw_150_1_44 (l := l) (D := D) (b0 := b0) (ad := ad) (Hb := Hb) (tau := tau) (d := d) (Post := fun r => ∃ (z : Int) (Z' : xZ) (h' : mx_H), r = (some (xI z), h') ∧ XH n s S Z' h' ∧ GI n S Z' ∧ fr' [(14, (-1)), (16, (-1)), (17, (-1)), (18, (-1)), (19, (-1))] Z Z' ∧ ((-1) ≤ z ∧ z ≤ 384)) hx hG  (fun z Z' h' q1 q2 q3 q4 => ⟨z, Z', h', rfl, q1, q2, q3, q4⟩))
  subst e; exact ⟨z, Z', h', hca, q⟩
set_option maxRecDepth 100000 in
theorem cw_147_1_46 {l : Launch} {D : va_G} {b0 : Nat} {ad : Nat → Nat} {Hb : Heap} {tau : Nat → Int64} {d n s : Nat} {S : Nat → xS} {Z : xZ} {h : mx_H} {Post : mx_R → Prop} (hx : XH n s S Z h) (hG : GI n S Z)   (hP : ∀ (Z' : xZ) (h' : mx_H), XH n s S Z' h' → GI n S Z' → fr' [(14, (-1)), (16, (-1)), (17, (-1)), (18, (-1)), (19, (-1)), (33, (-1))] Z Z' → Post (none, h')) : mx_J (tB l D b0 ad Hb tau) mt_147 (d + 5) 0 [some (.ref 1), some (.ref 46), none] [] h Post := by
    have a1 : 1 < n := lt83 (GI_n hG) rfl
    have s1 : S 1 = .inl (11, [2, 0, 0, 0, 2, 2, 2, 2, 2, 2, 2, 2, 2, 2, 2, 2, 2]) := GI_s hG 1 rfl
    have a32 : 32 < n := lt83 (GI_n hG) rfl
    have s32 : S 32 = .inl (9, [2, 2, 2]) := GI_s hG 32 rfl
    have a36 : 36 < n := lt83 (GI_n hG) rfl
    have s36 : S 36 = .inl (5, [2, 0, 0, 0, 0, 0]) := GI_s hG 36 rfl
    have a46 : 46 < n := lt83 (GI_n hG) rfl
    have s46 : S 46 = .inl (10, [2, 0, 0, 0]) := GI_s hG 46 rfl
    refine mx_J.step (sn_147 0) (fun _ _ => rfl) ?_
    refine JgetR (g := 9) (b := 32) hx (show mx_Sn _ _ 1 (mx_getf 11 9 4) from sn_147 1) a1 s1 rfl rfl (hG.prr 1 9 rfl) ?_
    refine mx_J.step (sn_147 4) (fun _ _ => rfl) ?_
    refine JgetR (g := 12) (b := 36) hx (show mx_Sn _ _ 5 (mx_getf 11 12 8) from sn_147 5) a1 s1 rfl rfl (hG.prr 1 12 rfl) ?_
    have b4 : 0 ≤ Z 36 2 ∧ Z 36 2 ≤ 384 := hG.pr 36 2
    refine JgetI (g := 2) (z := Z 36 2) hx (show mx_Sn _ _ 8 (mx_getf 5 2 11) from sn_147 8) a36 s36 rfl rfl rfl ?_
    obtain ⟨Z5, h5, hc5, hx5, hG5, hf5⟩ := ct_71_32 (d := d + 3) (l := l) (D := D) (b0 := b0) (ad := ad) (Hb := Hb) (tau := tau) hx hG (show (-2147483648) ≤ Z 36 2 ∧ Z 36 2 ≤ 2147483647 by omega)
    refine Jcv0 hx (show mx_Sn _ _ 11 (mx_callv 71 2 9 14) from sn_147 11) a32 s32 hc5 rfl rfl rfl ?_
    refine JcI (z := 0) (show mx_Sn _ _ 14 (mx_const (.int 0) 15) from sn_147 14) rfl ?_
    refine mx_J.step (ls2 := [some (.ref 1), some (.ref 46), some (xI 0)]) (sn_147 15) (fun _ _ => rfl) ?_
    have c16 : ∀ (m6 : Nat) (w6_2 : Int) (Z7 : xZ) (h7 : mx_H), 40 - w6_2 < (m6 : Int) → 0 ≤ w6_2 ∧ w6_2 ≤ 40 → XH n s S Z7 h7 → GI n S Z7 → fr' [(14, (-1)), (16, (-1)), (17, (-1)), (18, (-1)), (19, (-1)), (33, (-1))] Z5 Z7 → mx_J (tB l D b0 ad Hb tau) mt_147 (d + 5) 16 [some (.ref 1), some (.ref 46), some (xI w6_2)] [] h7 Post := by
      intro m6
      induction m6 with
      | zero => intro w6_2 Z7 h7 q6 f6_0 hx7 hG7 hf7; exact absurd q6 (by omega)
      | succ m6 ih6 =>
        intro w6_2 Z7 h7 q6 f6_0 hx7 hG7 hf7
        refine mx_J.step (sn_147 16) (fun _ _ => rfl) ?_
        refine mx_J.step (sn_147 17) (fun _ _ => rfl) ?_
        have b9 : 0 ≤ Z 46 2 ∧ Z 46 2 ≤ 40 := hG.pr 46 2
        refine JgetI (g := 2) (z := Z 46 2) hx7 (show mx_Sn _ _ 18 (mx_getf 10 2 21) from sn_147 18) a46 s46 rfl rfl ((hf7 46 2 rfl).trans (hf5 46 2 rfl)) ?_
        refine Jicmp_ge (show mx_Sn _ _ 21 (mx_icmp_ge 44 24) from sn_147 21) (by omega) (by omega) (fun q10 => ?_) (fun q10 => ?_)
        · skip
          exact mx_J.ret (sn_147 44) (fun _ _ => rfl) (hP Z7 h7 hx7 hG7 (fr_tr (M := [(14, (-1)), (16, (-1)), (17, (-1)), (18, (-1)), (19, (-1)), (33, (-1))]) (fr_tr (M := [(14, (-1)), (16, (-1)), (17, (-1)), (18, (-1)), (19, (-1)), (33, (-1))]) fr_rf (hf5) (M1 := []) rfl rfl) (hf7) rfl rfl))
        · skip
          refine mx_J.step (sn_147 24) (fun _ _ => rfl) ?_
          refine JgetR (g := 9) (b := 32) hx7 (show mx_Sn _ _ 25 (mx_getf 11 9 28) from sn_147 25) a1 s1 rfl rfl (hG7.prr 1 9 rfl) ?_
          refine mx_J.step (sn_147 28) (fun _ _ => rfl) ?_
          refine mx_J.step (sn_147 29) (fun _ _ => rfl) ?_
          refine mx_J.step (sn_147 30) (fun _ _ => rfl) ?_
          have eq13 : Z7 47 w6_2 = Z 47 w6_2 := ((hf7 47 w6_2 rfl).trans (hf5 47 w6_2 rfl))
          have b14 : (-9223372036854775808) ≤ Z 47 w6_2 ∧ Z 47 w6_2 ≤ 9223372036854775807 := hG.pr 47 w6_2
          obtain ⟨z12, hc12, b12⟩ := ct_85_46 (d := d + 4) (l := l) (D := D) (b0 := b0) (ad := ad) (Hb := Hb) (tau := tau) hx7 hG7 (show (-2147483648) ≤ w6_2 ∧ w6_2 ≤ 2147483647 by omega)
          try rw [eq13] at b12
          refine Jcv hx7 (show mx_Sn _ _ 31 (mx_callv 85 2 10 34) from sn_147 31) a46 s46 hc12 rfl rfl rfl ?_
          refine Jl2i (show mx_Sn _ _ 34 (mx_l2i 35) from sn_147 34) (Jnorm fun y15 hy15 hq15 => ?_)
          obtain ⟨Z16, h16, hc16, hx16, hG16, hf16⟩ := ct_73_32 (d := d + 0) (l := l) (D := D) (b0 := b0) (ad := ad) (Hb := Hb) (tau := tau) hx7 hG7 (show 0 ≤ w6_2 ∧ w6_2 ≤ 39 by omega) (show (-2147483648) ≤ y15 ∧ y15 ≤ 2147483647 by omega)
          refine Jcv0 hx7 (show mx_Sn _ _ 35 (mx_callv 73 3 9 38) from sn_147 35) a32 s32 hc16 rfl rfl rfl ?_
          refine Jiinc (z := w6_2) (cz := 1) (ls2 := [some (.ref 1), some (.ref 46), some (xI (w6_2 + 1))]) (show mx_Sn _ _ 38 (mx_iinc 2 1 41) from sn_147 38) rfl rfl rfl rfl ?_
          refine mx_J.step (sn_147 41) (fun _ _ => rfl) ?_
          exact ih6 (w6_2 + 1) Z16 h16 (by omega) (by omega) hx16 hG16 (fr_tr (M := [(14, (-1)), (16, (-1)), (17, (-1)), (18, (-1)), (19, (-1)), (33, (-1))]) (fr_tr (M := [(14, (-1)), (16, (-1)), (17, (-1)), (18, (-1)), (19, (-1)), (33, (-1))]) fr_rf (hf7) (M1 := []) rfl rfl) (hf16) rfl rfl)
    exact c16 (Int.toNat (40 - 0) + 1) 0 Z5 h5 (by omega) (by omega) hx5 hG5 fr_rf
theorem ct_147_1_46 {l : Launch} {D : va_G} {b0 : Nat} {ad : Nat → Nat} {Hb : Heap} {tau : Nat → Int64} {d n s : Nat} {S : Nat → xS} {Z : xZ} {h : mx_H} (hx : XH n s S Z h) (hG : GI n S Z)   : ∃ (Z' : xZ) (h' : mx_H), mx_Ca (tB l D b0 ad Hb tau) (d + 6) 147 [.ref 1, .ref 46] h (none, h') ∧ XH n s S Z' h' ∧ GI n S Z' ∧ fr' [(14, (-1)), (16, (-1)), (17, (-1)), (18, (-1)), (19, (-1)), (33, (-1))] Z Z' := by
  obtain ⟨r, hca, Z', h', e, q⟩ := Jmt (B := tB l D b0 ad Hb tau) (M := mt_147) (mi := 147) (as := [.ref 1, .ref 46]) (d := d + 5) (ls := [some (.ref 1), some (.ref 46), none]) rfl rfl rfl rfl rfl rfl (cw_147_1_46 (l := l) (D := D) (b0 := b0) (ad := ad) (Hb := Hb) (tau := tau) (d := d) (Post := fun r => ∃ (Z' : xZ) (h' : mx_H), r = (none, h') ∧ XH n s S Z' h' ∧ GI n S Z' ∧ fr' [(14, (-1)), (16, (-1)), (17, (-1)), (18, (-1)), (19, (-1)), (33, (-1))] Z Z') hx hG  (fun Z' h' q1 q2 q3 => ⟨Z', h', rfl, q1, q2, q3⟩))
  subst e; exact ⟨Z', h', hca, q⟩
set_option maxRecDepth 100000 in
theorem cw_150_1_46 {l : Launch} {D : va_G} {b0 : Nat} {ad : Nat → Nat} {Hb : Heap} {tau : Nat → Int64} {d n s : Nat} {S : Nat → xS} {Z : xZ} {h : mx_H} {Post : mx_R → Prop} (hx : XH n s S Z h) (hG : GI n S Z)   (hP : ∀ (z : Int) (Z' : xZ) (h' : mx_H), XH n s S Z' h' → GI n S Z' → fr' [(14, (-1)), (16, (-1)), (17, (-1)), (18, (-1)), (19, (-1))] Z Z' → (-1) ≤ z ∧ z ≤ 384 → Post (some (xI z), h')) : mx_J (tB l D b0 ad Hb tau) mt_150 (d + 4) 0 [some (.ref 1), some (.ref 46), none, none] [] h Post := by
    have a1 : 1 < n := lt83 (GI_n hG) rfl
    have s1 : S 1 = .inl (11, [2, 0, 0, 0, 2, 2, 2, 2, 2, 2, 2, 2, 2, 2, 2, 2, 2]) := GI_s hG 1 rfl
    have a7 : 7 < n := lt83 (GI_n hG) rfl
    have s7 : S 7 = .inl (0, [2, 2, 2, 2, 0, 0]) := GI_s hG 7 rfl
    have a12 : 12 < n := lt83 (GI_n hG) rfl
    have s12 : S 12 = .inl (4, [2, 2, 0, 2, 2, 2, 2, 2, 2]) := GI_s hG 12 rfl
    have a36 : 36 < n := lt83 (GI_n hG) rfl
    have s36 : S 36 = .inl (5, [2, 0, 0, 0, 0, 0]) := GI_s hG 36 rfl
    have a46 : 46 < n := lt83 (GI_n hG) rfl
    have s46 : S 46 = .inl (10, [2, 0, 0, 0]) := GI_s hG 46 rfl
    refine mx_J.step (sn_150 0) (fun _ _ => rfl) ?_
    refine JgetR (g := 12) (b := 36) hx (show mx_Sn _ _ 1 (mx_getf 11 12 4) from sn_150 1) a1 s1 rfl rfl (hG.prr 1 12 rfl) ?_
    have b3 : 0 ≤ Z 36 2 ∧ Z 36 2 ≤ 384 := hG.pr 36 2
    refine JgetI (g := 2) (z := Z 36 2) hx (show mx_Sn _ _ 4 (mx_getf 5 2 7) from sn_150 4) a36 s36 rfl rfl rfl ?_
    refine mx_J.step (ls2 := [some (.ref 1), some (.ref 46), some (xI (Z 36 2)), none]) (sn_150 7) (fun _ _ => rfl) ?_
    refine JcI (z := 0) (show mx_Sn _ _ 8 (mx_const (.int 0) 9) from sn_150 8) rfl ?_
    refine mx_J.step (ls2 := [some (.ref 1), some (.ref 46), some (xI (Z 36 2)), some (xI 0)]) (sn_150 9) (fun _ _ => rfl) ?_
    have c10 : ∀ (m4 : Nat) (w4_2 : Int) (w4_3 : Int) (Z5 : xZ) (h5 : mx_H), 40 - w4_3 < (m4 : Int) → (-1) ≤ w4_2 ∧ w4_2 ≤ 384 → 0 ≤ w4_3 ∧ w4_3 ≤ 40 → XH n s S Z5 h5 → GI n S Z5 → fr' [(14, (-1)), (16, (-1)), (17, (-1)), (18, (-1)), (19, (-1))] Z Z5 → mx_J (tB l D b0 ad Hb tau) mt_150 (d + 4) 10 [some (.ref 1), some (.ref 46), some (xI w4_2), some (xI w4_3)] [] h5 Post := by
      intro m4
      induction m4 with
      | zero => intro w4_2 w4_3 Z5 h5 q4 f4_0 f4_1 hx5 hG5 hf5; exact absurd q4 (by omega)
      | succ m4 ih4 =>
        intro w4_2 w4_3 Z5 h5 q4 f4_0 f4_1 hx5 hG5 hf5
        refine mx_J.step (sn_150 10) (fun _ _ => rfl) ?_
        refine mx_J.step (sn_150 11) (fun _ _ => rfl) ?_
        have b7 : 0 ≤ Z 46 2 ∧ Z 46 2 ≤ 40 := hG.pr 46 2
        refine JgetI (g := 2) (z := Z 46 2) hx5 (show mx_Sn _ _ 12 (mx_getf 10 2 15) from sn_150 12) a46 s46 rfl rfl (hf5 46 2 rfl) ?_
        refine Jicmp_ge (show mx_Sn _ _ 15 (mx_icmp_ge 54 18) from sn_150 15) (by omega) (by omega) (fun q8 => ?_) (fun q8 => ?_)
        · skip
          refine mx_J.step (sn_150 54) (fun _ _ => rfl) ?_
          exact mx_J.ret (sn_150 55) (fun _ _ => rfl) (hP w4_2 Z5 h5 hx5 hG5 (fr_tr (M := [(14, (-1)), (16, (-1)), (17, (-1)), (18, (-1)), (19, (-1))]) fr_rf (hf5) (M1 := []) rfl rfl) (by omega))
        · skip
          refine mx_J.step (sn_150 18) (fun _ _ => rfl) ?_
          refine JgetR (g := 6) (b := 12) hx5 (show mx_Sn _ _ 19 (mx_getf 11 6 22) from sn_150 19) a1 s1 rfl rfl (hG5.prr 1 6 rfl) ?_
          refine mx_J.step (sn_150 22) (fun _ _ => rfl) ?_
          refine JcI (z := 0) (show mx_Sn _ _ 23 (mx_const (.int 0) 24) from sn_150 23) rfl ?_
          obtain ⟨z10, Z10, h10, hc10, hx10, hG10, hf10, b10⟩ := ct_26_12 (d := d + 0) (l := l) (D := D) (b0 := b0) (ad := ad) (Hb := Hb) (tau := tau) hx5 hG5 (show (-2147483648) ≤ w4_2 ∧ w4_2 ≤ 2147483647 by omega) (show (-2147483648) ≤ 0 ∧ 0 ≤ 2147483647 by omega)
          refine Jcv hx5 (show mx_Sn _ _ 24 (mx_callv 26 3 4 27) from sn_150 24) a12 s12 hc10 rfl rfl rfl ?_
          refine mx_J.step (ls2 := [some (.ref 1), some (.ref 46), some (xI z10), some (xI w4_3)]) (sn_150 27) (fun _ _ => rfl) ?_
          refine mx_J.step (sn_150 28) (fun _ _ => rfl) ?_
          refine JgetR (g := 5) (b := 7) hx10 (show mx_Sn _ _ 29 (mx_getf 11 5 32) from sn_150 29) a1 s1 rfl rfl (hG10.prr 1 5 rfl) ?_
          refine mx_J.step (sn_150 32) (fun _ _ => rfl) ?_
          have eq13 : Z10 7 5 = Z 7 5 := ((hf10 7 5 rfl).trans (hf5 7 5 rfl))
          have b14 : 0 ≤ Z 7 5 ∧ Z 7 5 ≤ 385 := hG.pr 7 5
          have eq15 : Z10 10 z10 = Z 10 z10 := ((hf10 10 z10 rfl).trans (hf5 10 z10 rfl))
          have b16 : 0 ≤ Z 10 z10 ∧ Z 10 z10 ≤ 18 := hG.pr 10 z10
          obtain ⟨z12, hc12, b12⟩ := ct_5_7 (d := d + 3) (l := l) (D := D) (b0 := b0) (ad := ad) (Hb := Hb) (tau := tau) hx10 hG10 (show (-2147483648) ≤ z10 ∧ z10 ≤ 2147483647 by omega)
          try rw [eq13] at b12
          try rw [eq15] at b12
          refine Jcv hx10 (show mx_Sn _ _ 33 (mx_callv 5 2 0 36) from sn_150 33) a7 s7 hc12 rfl rfl rfl ?_
          refine Ji2l (show mx_Sn _ _ 36 (mx_i2l 37) from sn_150 36) (by omega) ?_
          refine mx_J.step (sn_150 37) (fun _ _ => rfl) ?_
          refine mx_J.step (sn_150 38) (fun _ _ => rfl) ?_
          have eq18 : Z10 47 w4_3 = Z 47 w4_3 := ((hf10 47 w4_3 rfl).trans (hf5 47 w4_3 rfl))
          have b19 : (-9223372036854775808) ≤ Z 47 w4_3 ∧ Z 47 w4_3 ≤ 9223372036854775807 := hG.pr 47 w4_3
          obtain ⟨z17, hc17, b17⟩ := ct_85_46 (d := d + 3) (l := l) (D := D) (b0 := b0) (ad := ad) (Hb := Hb) (tau := tau) hx10 hG10 (show (-2147483648) ≤ w4_3 ∧ w4_3 ≤ 2147483647 by omega)
          try rw [eq18] at b17
          refine Jcv hx10 (show mx_Sn _ _ 39 (mx_callv 85 2 10 42) from sn_150 39) a46 s46 hc17 rfl rfl rfl ?_
          refine Jlif_eq (show mx_Sn _ _ 42 (mx_lif_eq 48 46) from sn_150 42) (by omega) (by omega) (fun q20 => ?_) (fun q20 => ?_)
          · skip
            refine Jiinc (z := w4_3) (cz := 1) (ls2 := [some (.ref 1), some (.ref 46), some (xI z10), some (xI (w4_3 + 1))]) (show mx_Sn _ _ 48 (mx_iinc 3 1 51) from sn_150 48) rfl rfl rfl rfl ?_
            refine mx_J.step (sn_150 51) (fun _ _ => rfl) ?_
            exact ih4 z10 (w4_3 + 1) Z10 h10 (by omega) (by omega) (by omega) hx10 hG10 (fr_tr (M := [(14, (-1)), (16, (-1)), (17, (-1)), (18, (-1)), (19, (-1))]) (fr_tr (M := [(14, (-1)), (16, (-1)), (17, (-1)), (18, (-1)), (19, (-1))]) fr_rf (hf5) (M1 := []) rfl rfl) (hf10) rfl rfl)
          · skip
            refine JcI (z := (-1)) (show mx_Sn _ _ 46 (mx_const (.int (-1)) 47) from sn_150 46) rfl ?_
            exact mx_J.ret (sn_150 47) (fun _ _ => rfl) (hP (-1) Z10 h10 hx10 hG10 (fr_tr (M := [(14, (-1)), (16, (-1)), (17, (-1)), (18, (-1)), (19, (-1))]) (fr_tr (M := [(14, (-1)), (16, (-1)), (17, (-1)), (18, (-1)), (19, (-1))]) fr_rf (hf5) (M1 := []) rfl rfl) (hf10) rfl rfl) (by omega))
    exact c10 (Int.toNat (40 - 0) + 1) (Z 36 2) 0 Z h (by omega) (by omega) (by omega) hx hG fr_rf
theorem ct_150_1_46 {l : Launch} {D : va_G} {b0 : Nat} {ad : Nat → Nat} {Hb : Heap} {tau : Nat → Int64} {d n s : Nat} {S : Nat → xS} {Z : xZ} {h : mx_H} (hx : XH n s S Z h) (hG : GI n S Z)   : ∃ (z : Int) (Z' : xZ) (h' : mx_H), mx_Ca (tB l D b0 ad Hb tau) (d + 5) 150 [.ref 1, .ref 46] h (some (xI z), h') ∧ XH n s S Z' h' ∧ GI n S Z' ∧ fr' [(14, (-1)), (16, (-1)), (17, (-1)), (18, (-1)), (19, (-1))] Z Z' ∧ ((-1) ≤ z ∧ z ≤ 384) := by
  obtain ⟨r, hca, z, Z', h', e, q⟩ := Jmt (B := tB l D b0 ad Hb tau) (M := mt_150) (mi := 150) (as := [.ref 1, .ref 46]) (d := d + 4) (ls := [some (.ref 1), some (.ref 46), none, none]) rfl rfl rfl rfl rfl rfl (cw_150_1_46 (l := l) (D := D) (b0 := b0) (ad := ad) (Hb := Hb) (tau := tau) (d := d) (Post := fun r => ∃ (z : Int) (Z' : xZ) (h' : mx_H), r = (some (xI z), h') ∧ XH n s S Z' h' ∧ GI n S Z' ∧ fr' [(14, (-1)), (16, (-1)), (17, (-1)), (18, (-1)), (19, (-1))] Z Z' ∧ ((-1) ≤ z ∧ z ≤ 384)) hx hG  (fun z Z' h' q1 q2 q3 q4 => ⟨z, Z', h', rfl, q1, q2, q3, q4⟩))
  subst e; exact ⟨z, Z', h', hca, q⟩
set_option maxRecDepth 100000 in
theorem cw_147_1_48 {l : Launch} {D : va_G} {b0 : Nat} {ad : Nat → Nat} {Hb : Heap} {tau : Nat → Int64} {d n s : Nat} {S : Nat → xS} {Z : xZ} {h : mx_H} {Post : mx_R → Prop} (hx : XH n s S Z h) (hG : GI n S Z)   (hP : ∀ (Z' : xZ) (h' : mx_H), XH n s S Z' h' → GI n S Z' → fr' [(14, (-1)), (16, (-1)), (17, (-1)), (18, (-1)), (19, (-1)), (33, (-1))] Z Z' → Post (none, h')) : mx_J (tB l D b0 ad Hb tau) mt_147 (d + 5) 0 [some (.ref 1), some (.ref 48), none] [] h Post := by
    have a1 : 1 < n := lt83 (GI_n hG) rfl
    have s1 : S 1 = .inl (11, [2, 0, 0, 0, 2, 2, 2, 2, 2, 2, 2, 2, 2, 2, 2, 2, 2]) := GI_s hG 1 rfl
    have a32 : 32 < n := lt83 (GI_n hG) rfl
    have s32 : S 32 = .inl (9, [2, 2, 2]) := GI_s hG 32 rfl
    have a36 : 36 < n := lt83 (GI_n hG) rfl
    have s36 : S 36 = .inl (5, [2, 0, 0, 0, 0, 0]) := GI_s hG 36 rfl
    have a48 : 48 < n := lt83 (GI_n hG) rfl
    have s48 : S 48 = .inl (10, [2, 0, 0, 0]) := GI_s hG 48 rfl
    refine mx_J.step (sn_147 0) (fun _ _ => rfl) ?_
    refine JgetR (g := 9) (b := 32) hx (show mx_Sn _ _ 1 (mx_getf 11 9 4) from sn_147 1) a1 s1 rfl rfl (hG.prr 1 9 rfl) ?_
    refine mx_J.step (sn_147 4) (fun _ _ => rfl) ?_
    refine JgetR (g := 12) (b := 36) hx (show mx_Sn _ _ 5 (mx_getf 11 12 8) from sn_147 5) a1 s1 rfl rfl (hG.prr 1 12 rfl) ?_
    have b4 : 0 ≤ Z 36 2 ∧ Z 36 2 ≤ 384 := hG.pr 36 2
    refine JgetI (g := 2) (z := Z 36 2) hx (show mx_Sn _ _ 8 (mx_getf 5 2 11) from sn_147 8) a36 s36 rfl rfl rfl ?_
    obtain ⟨Z5, h5, hc5, hx5, hG5, hf5⟩ := ct_71_32 (d := d + 3) (l := l) (D := D) (b0 := b0) (ad := ad) (Hb := Hb) (tau := tau) hx hG (show (-2147483648) ≤ Z 36 2 ∧ Z 36 2 ≤ 2147483647 by omega)
    refine Jcv0 hx (show mx_Sn _ _ 11 (mx_callv 71 2 9 14) from sn_147 11) a32 s32 hc5 rfl rfl rfl ?_
    refine JcI (z := 0) (show mx_Sn _ _ 14 (mx_const (.int 0) 15) from sn_147 14) rfl ?_
    refine mx_J.step (ls2 := [some (.ref 1), some (.ref 48), some (xI 0)]) (sn_147 15) (fun _ _ => rfl) ?_
    have c16 : ∀ (m6 : Nat) (w6_2 : Int) (Z7 : xZ) (h7 : mx_H), 40 - w6_2 < (m6 : Int) → 0 ≤ w6_2 ∧ w6_2 ≤ 40 → XH n s S Z7 h7 → GI n S Z7 → fr' [(14, (-1)), (16, (-1)), (17, (-1)), (18, (-1)), (19, (-1)), (33, (-1))] Z5 Z7 → mx_J (tB l D b0 ad Hb tau) mt_147 (d + 5) 16 [some (.ref 1), some (.ref 48), some (xI w6_2)] [] h7 Post := by
      intro m6
      induction m6 with
      | zero => intro w6_2 Z7 h7 q6 f6_0 hx7 hG7 hf7; exact absurd q6 (by omega)
      | succ m6 ih6 =>
        intro w6_2 Z7 h7 q6 f6_0 hx7 hG7 hf7
        refine mx_J.step (sn_147 16) (fun _ _ => rfl) ?_
        refine mx_J.step (sn_147 17) (fun _ _ => rfl) ?_
        have b9 : 0 ≤ Z 48 2 ∧ Z 48 2 ≤ 40 := hG.pr 48 2
        refine JgetI (g := 2) (z := Z 48 2) hx7 (show mx_Sn _ _ 18 (mx_getf 10 2 21) from sn_147 18) a48 s48 rfl rfl ((hf7 48 2 rfl).trans (hf5 48 2 rfl)) ?_
        refine Jicmp_ge (show mx_Sn _ _ 21 (mx_icmp_ge 44 24) from sn_147 21) (by omega) (by omega) (fun q10 => ?_) (fun q10 => ?_)
        · skip
          exact mx_J.ret (sn_147 44) (fun _ _ => rfl) (hP Z7 h7 hx7 hG7 (fr_tr (M := [(14, (-1)), (16, (-1)), (17, (-1)), (18, (-1)), (19, (-1)), (33, (-1))]) (fr_tr (M := [(14, (-1)), (16, (-1)), (17, (-1)), (18, (-1)), (19, (-1)), (33, (-1))]) fr_rf (hf5) (M1 := []) rfl rfl) (hf7) rfl rfl))
        · skip
          refine mx_J.step (sn_147 24) (fun _ _ => rfl) ?_
          refine JgetR (g := 9) (b := 32) hx7 (show mx_Sn _ _ 25 (mx_getf 11 9 28) from sn_147 25) a1 s1 rfl rfl (hG7.prr 1 9 rfl) ?_
          refine mx_J.step (sn_147 28) (fun _ _ => rfl) ?_
          refine mx_J.step (sn_147 29) (fun _ _ => rfl) ?_
          refine mx_J.step (sn_147 30) (fun _ _ => rfl) ?_
          have eq13 : Z7 49 w6_2 = Z 49 w6_2 := ((hf7 49 w6_2 rfl).trans (hf5 49 w6_2 rfl))
          have b14 : (-9223372036854775808) ≤ Z 49 w6_2 ∧ Z 49 w6_2 ≤ 9223372036854775807 := hG.pr 49 w6_2
          obtain ⟨z12, hc12, b12⟩ := ct_85_48 (d := d + 4) (l := l) (D := D) (b0 := b0) (ad := ad) (Hb := Hb) (tau := tau) hx7 hG7 (show (-2147483648) ≤ w6_2 ∧ w6_2 ≤ 2147483647 by omega)
          try rw [eq13] at b12
          refine Jcv hx7 (show mx_Sn _ _ 31 (mx_callv 85 2 10 34) from sn_147 31) a48 s48 hc12 rfl rfl rfl ?_
          refine Jl2i (show mx_Sn _ _ 34 (mx_l2i 35) from sn_147 34) (Jnorm fun y15 hy15 hq15 => ?_)
          obtain ⟨Z16, h16, hc16, hx16, hG16, hf16⟩ := ct_73_32 (d := d + 0) (l := l) (D := D) (b0 := b0) (ad := ad) (Hb := Hb) (tau := tau) hx7 hG7 (show 0 ≤ w6_2 ∧ w6_2 ≤ 39 by omega) (show (-2147483648) ≤ y15 ∧ y15 ≤ 2147483647 by omega)
          refine Jcv0 hx7 (show mx_Sn _ _ 35 (mx_callv 73 3 9 38) from sn_147 35) a32 s32 hc16 rfl rfl rfl ?_
          refine Jiinc (z := w6_2) (cz := 1) (ls2 := [some (.ref 1), some (.ref 48), some (xI (w6_2 + 1))]) (show mx_Sn _ _ 38 (mx_iinc 2 1 41) from sn_147 38) rfl rfl rfl rfl ?_
          refine mx_J.step (sn_147 41) (fun _ _ => rfl) ?_
          exact ih6 (w6_2 + 1) Z16 h16 (by omega) (by omega) hx16 hG16 (fr_tr (M := [(14, (-1)), (16, (-1)), (17, (-1)), (18, (-1)), (19, (-1)), (33, (-1))]) (fr_tr (M := [(14, (-1)), (16, (-1)), (17, (-1)), (18, (-1)), (19, (-1)), (33, (-1))]) fr_rf (hf7) (M1 := []) rfl rfl) (hf16) rfl rfl)
    exact c16 (Int.toNat (40 - 0) + 1) 0 Z5 h5 (by omega) (by omega) hx5 hG5 fr_rf
theorem ct_147_1_48 {l : Launch} {D : va_G} {b0 : Nat} {ad : Nat → Nat} {Hb : Heap} {tau : Nat → Int64} {d n s : Nat} {S : Nat → xS} {Z : xZ} {h : mx_H} (hx : XH n s S Z h) (hG : GI n S Z)   : ∃ (Z' : xZ) (h' : mx_H), mx_Ca (tB l D b0 ad Hb tau) (d + 6) 147 [.ref 1, .ref 48] h (none, h') ∧ XH n s S Z' h' ∧ GI n S Z' ∧ fr' [(14, (-1)), (16, (-1)), (17, (-1)), (18, (-1)), (19, (-1)), (33, (-1))] Z Z' := by
  obtain ⟨r, hca, Z', h', e, q⟩ := Jmt (B := tB l D b0 ad Hb tau) (M := mt_147) (mi := 147) (as := [.ref 1, .ref 48]) (d := d + 5) (ls := [some (.ref 1), some (.ref 48), none]) rfl rfl rfl rfl rfl rfl (cw_147_1_48 (l := l) (D := D) (b0 := b0) (ad := ad) (Hb := Hb) (tau := tau) (d := d) (Post := fun r => ∃ (Z' : xZ) (h' : mx_H), r = (none, h') ∧ XH n s S Z' h' ∧ GI n S Z' ∧ fr' [(14, (-1)), (16, (-1)), (17, (-1)), (18, (-1)), (19, (-1)), (33, (-1))] Z Z') hx hG  (fun Z' h' q1 q2 q3 => ⟨Z', h', rfl, q1, q2, q3⟩))
  subst e; exact ⟨Z', h', hca, q⟩
set_option maxRecDepth 100000 in
theorem cw_150_1_48 {l : Launch} {D : va_G} {b0 : Nat} {ad : Nat → Nat} {Hb : Heap} {tau : Nat → Int64} {d n s : Nat} {S : Nat → xS} {Z : xZ} {h : mx_H} {Post : mx_R → Prop} (hx : XH n s S Z h) (hG : GI n S Z)   (hP : ∀ (z : Int) (Z' : xZ) (h' : mx_H), XH n s S Z' h' → GI n S Z' → fr' [(14, (-1)), (16, (-1)), (17, (-1)), (18, (-1)), (19, (-1))] Z Z' → (-1) ≤ z ∧ z ≤ 384 → Post (some (xI z), h')) : mx_J (tB l D b0 ad Hb tau) mt_150 (d + 4) 0 [some (.ref 1), some (.ref 48), none, none] [] h Post := by
    have a1 : 1 < n := lt83 (GI_n hG) rfl
    have s1 : S 1 = .inl (11, [2, 0, 0, 0, 2, 2, 2, 2, 2, 2, 2, 2, 2, 2, 2, 2, 2]) := GI_s hG 1 rfl
    have a7 : 7 < n := lt83 (GI_n hG) rfl
    have s7 : S 7 = .inl (0, [2, 2, 2, 2, 0, 0]) := GI_s hG 7 rfl
    have a12 : 12 < n := lt83 (GI_n hG) rfl
    have s12 : S 12 = .inl (4, [2, 2, 0, 2, 2, 2, 2, 2, 2]) := GI_s hG 12 rfl
    have a36 : 36 < n := lt83 (GI_n hG) rfl
    have s36 : S 36 = .inl (5, [2, 0, 0, 0, 0, 0]) := GI_s hG 36 rfl
    have a48 : 48 < n := lt83 (GI_n hG) rfl
    have s48 : S 48 = .inl (10, [2, 0, 0, 0]) := GI_s hG 48 rfl
    refine mx_J.step (sn_150 0) (fun _ _ => rfl) ?_
    refine JgetR (g := 12) (b := 36) hx (show mx_Sn _ _ 1 (mx_getf 11 12 4) from sn_150 1) a1 s1 rfl rfl (hG.prr 1 12 rfl) ?_
    have b3 : 0 ≤ Z 36 2 ∧ Z 36 2 ≤ 384 := hG.pr 36 2
    refine JgetI (g := 2) (z := Z 36 2) hx (show mx_Sn _ _ 4 (mx_getf 5 2 7) from sn_150 4) a36 s36 rfl rfl rfl ?_
    refine mx_J.step (ls2 := [some (.ref 1), some (.ref 48), some (xI (Z 36 2)), none]) (sn_150 7) (fun _ _ => rfl) ?_
    refine JcI (z := 0) (show mx_Sn _ _ 8 (mx_const (.int 0) 9) from sn_150 8) rfl ?_
    refine mx_J.step (ls2 := [some (.ref 1), some (.ref 48), some (xI (Z 36 2)), some (xI 0)]) (sn_150 9) (fun _ _ => rfl) ?_
    have c10 : ∀ (m4 : Nat) (w4_2 : Int) (w4_3 : Int) (Z5 : xZ) (h5 : mx_H), 40 - w4_3 < (m4 : Int) → (-1) ≤ w4_2 ∧ w4_2 ≤ 384 → 0 ≤ w4_3 ∧ w4_3 ≤ 40 → XH n s S Z5 h5 → GI n S Z5 → fr' [(14, (-1)), (16, (-1)), (17, (-1)), (18, (-1)), (19, (-1))] Z Z5 → mx_J (tB l D b0 ad Hb tau) mt_150 (d + 4) 10 [some (.ref 1), some (.ref 48), some (xI w4_2), some (xI w4_3)] [] h5 Post := by
      intro m4
      induction m4 with
      | zero => intro w4_2 w4_3 Z5 h5 q4 f4_0 f4_1 hx5 hG5 hf5; exact absurd q4 (by omega)
      | succ m4 ih4 =>
        intro w4_2 w4_3 Z5 h5 q4 f4_0 f4_1 hx5 hG5 hf5
        refine mx_J.step (sn_150 10) (fun _ _ => rfl) ?_
        refine mx_J.step (sn_150 11) (fun _ _ => rfl) ?_
        have b7 : 0 ≤ Z 48 2 ∧ Z 48 2 ≤ 40 := hG.pr 48 2
        refine JgetI (g := 2) (z := Z 48 2) hx5 (show mx_Sn _ _ 12 (mx_getf 10 2 15) from sn_150 12) a48 s48 rfl rfl (hf5 48 2 rfl) ?_
        refine Jicmp_ge (show mx_Sn _ _ 15 (mx_icmp_ge 54 18) from sn_150 15) (by omega) (by omega) (fun q8 => ?_) (fun q8 => ?_)
        · skip
          refine mx_J.step (sn_150 54) (fun _ _ => rfl) ?_
          exact mx_J.ret (sn_150 55) (fun _ _ => rfl) (hP w4_2 Z5 h5 hx5 hG5 (fr_tr (M := [(14, (-1)), (16, (-1)), (17, (-1)), (18, (-1)), (19, (-1))]) fr_rf (hf5) (M1 := []) rfl rfl) (by omega))
        · skip
          refine mx_J.step (sn_150 18) (fun _ _ => rfl) ?_
          refine JgetR (g := 6) (b := 12) hx5 (show mx_Sn _ _ 19 (mx_getf 11 6 22) from sn_150 19) a1 s1 rfl rfl (hG5.prr 1 6 rfl) ?_
          refine mx_J.step (sn_150 22) (fun _ _ => rfl) ?_
          refine JcI (z := 0) (show mx_Sn _ _ 23 (mx_const (.int 0) 24) from sn_150 23) rfl ?_
          obtain ⟨z10, Z10, h10, hc10, hx10, hG10, hf10, b10⟩ := ct_26_12 (d := d + 0) (l := l) (D := D) (b0 := b0) (ad := ad) (Hb := Hb) (tau := tau) hx5 hG5 (show (-2147483648) ≤ w4_2 ∧ w4_2 ≤ 2147483647 by omega) (show (-2147483648) ≤ 0 ∧ 0 ≤ 2147483647 by omega)
          refine Jcv hx5 (show mx_Sn _ _ 24 (mx_callv 26 3 4 27) from sn_150 24) a12 s12 hc10 rfl rfl rfl ?_
          refine mx_J.step (ls2 := [some (.ref 1), some (.ref 48), some (xI z10), some (xI w4_3)]) (sn_150 27) (fun _ _ => rfl) ?_
          refine mx_J.step (sn_150 28) (fun _ _ => rfl) ?_
          refine JgetR (g := 5) (b := 7) hx10 (show mx_Sn _ _ 29 (mx_getf 11 5 32) from sn_150 29) a1 s1 rfl rfl (hG10.prr 1 5 rfl) ?_
          refine mx_J.step (sn_150 32) (fun _ _ => rfl) ?_
          have eq13 : Z10 7 5 = Z 7 5 := ((hf10 7 5 rfl).trans (hf5 7 5 rfl))
          have b14 : 0 ≤ Z 7 5 ∧ Z 7 5 ≤ 385 := hG.pr 7 5
          have eq15 : Z10 10 z10 = Z 10 z10 := ((hf10 10 z10 rfl).trans (hf5 10 z10 rfl))
          have b16 : 0 ≤ Z 10 z10 ∧ Z 10 z10 ≤ 18 := hG.pr 10 z10
          obtain ⟨z12, hc12, b12⟩ := ct_5_7 (d := d + 3) (l := l) (D := D) (b0 := b0) (ad := ad) (Hb := Hb) (tau := tau) hx10 hG10 (show (-2147483648) ≤ z10 ∧ z10 ≤ 2147483647 by omega)
          try rw [eq13] at b12
          try rw [eq15] at b12
          refine Jcv hx10 (show mx_Sn _ _ 33 (mx_callv 5 2 0 36) from sn_150 33) a7 s7 hc12 rfl rfl rfl ?_
          refine Ji2l (show mx_Sn _ _ 36 (mx_i2l 37) from sn_150 36) (by omega) ?_
          refine mx_J.step (sn_150 37) (fun _ _ => rfl) ?_
          refine mx_J.step (sn_150 38) (fun _ _ => rfl) ?_
          have eq18 : Z10 49 w4_3 = Z 49 w4_3 := ((hf10 49 w4_3 rfl).trans (hf5 49 w4_3 rfl))
          have b19 : (-9223372036854775808) ≤ Z 49 w4_3 ∧ Z 49 w4_3 ≤ 9223372036854775807 := hG.pr 49 w4_3
          obtain ⟨z17, hc17, b17⟩ := ct_85_48 (d := d + 3) (l := l) (D := D) (b0 := b0) (ad := ad) (Hb := Hb) (tau := tau) hx10 hG10 (show (-2147483648) ≤ w4_3 ∧ w4_3 ≤ 2147483647 by omega)
          try rw [eq18] at b17
          refine Jcv hx10 (show mx_Sn _ _ 39 (mx_callv 85 2 10 42) from sn_150 39) a48 s48 hc17 rfl rfl rfl ?_
          refine Jlif_eq (show mx_Sn _ _ 42 (mx_lif_eq 48 46) from sn_150 42) (by omega) (by omega) (fun q20 => ?_) (fun q20 => ?_)
          · skip
            refine Jiinc (z := w4_3) (cz := 1) (ls2 := [some (.ref 1), some (.ref 48), some (xI z10), some (xI (w4_3 + 1))]) (show mx_Sn _ _ 48 (mx_iinc 3 1 51) from sn_150 48) rfl rfl rfl rfl ?_
            refine mx_J.step (sn_150 51) (fun _ _ => rfl) ?_
            exact ih4 z10 (w4_3 + 1) Z10 h10 (by omega) (by omega) (by omega) hx10 hG10 (fr_tr (M := [(14, (-1)), (16, (-1)), (17, (-1)), (18, (-1)), (19, (-1))]) (fr_tr (M := [(14, (-1)), (16, (-1)), (17, (-1)), (18, (-1)), (19, (-1))]) fr_rf (hf5) (M1 := []) rfl rfl) (hf10) rfl rfl)
          · skip
            refine JcI (z := (-1)) (show mx_Sn _ _ 46 (mx_const (.int (-1)) 47) from sn_150 46) rfl ?_
            exact mx_J.ret (sn_150 47) (fun _ _ => rfl) (hP (-1) Z10 h10 hx10 hG10 (fr_tr (M := [(14, (-1)), (16, (-1)), (17, (-1)), (18, (-1)), (19, (-1))]) (fr_tr (M := [(14, (-1)), (16, (-1)), (17, (-1)), (18, (-1)), (19, (-1))]) fr_rf (hf5) (M1 := []) rfl rfl) (hf10) rfl rfl) (by omega))
    exact c10 (Int.toNat (40 - 0) + 1) (Z 36 2) 0 Z h (by omega) (by omega) (by omega) hx hG fr_rf
theorem ct_150_1_48 {l : Launch} {D : va_G} {b0 : Nat} {ad : Nat → Nat} {Hb : Heap} {tau : Nat → Int64} {d n s : Nat} {S : Nat → xS} {Z : xZ} {h : mx_H} (hx : XH n s S Z h) (hG : GI n S Z)   : ∃ (z : Int) (Z' : xZ) (h' : mx_H), mx_Ca (tB l D b0 ad Hb tau) (d + 5) 150 [.ref 1, .ref 48] h (some (xI z), h') ∧ XH n s S Z' h' ∧ GI n S Z' ∧ fr' [(14, (-1)), (16, (-1)), (17, (-1)), (18, (-1)), (19, (-1))] Z Z' ∧ ((-1) ≤ z ∧ z ≤ 384) := by
  obtain ⟨r, hca, z, Z', h', e, q⟩ := Jmt (B := tB l D b0 ad Hb tau) (M := mt_150) (mi := 150) (as := [.ref 1, .ref 48]) (d := d + 4) (ls := [some (.ref 1), some (.ref 48), none, none]) rfl rfl rfl rfl rfl rfl (cw_150_1_48 (l := l) (D := D) (b0 := b0) (ad := ad) (Hb := Hb) (tau := tau) (d := d) (Post := fun r => ∃ (z : Int) (Z' : xZ) (h' : mx_H), r = (some (xI z), h') ∧ XH n s S Z' h' ∧ GI n S Z' ∧ fr' [(14, (-1)), (16, (-1)), (17, (-1)), (18, (-1)), (19, (-1))] Z Z' ∧ ((-1) ≤ z ∧ z ≤ 384)) hx hG  (fun z Z' h' q1 q2 q3 q4 => ⟨z, Z', h', rfl, q1, q2, q3, q4⟩))
  subst e; exact ⟨z, Z', h', hca, q⟩
set_option maxRecDepth 100000 in
theorem cw_147_1_50 {l : Launch} {D : va_G} {b0 : Nat} {ad : Nat → Nat} {Hb : Heap} {tau : Nat → Int64} {d n s : Nat} {S : Nat → xS} {Z : xZ} {h : mx_H} {Post : mx_R → Prop} (hx : XH n s S Z h) (hG : GI n S Z)   (hP : ∀ (Z' : xZ) (h' : mx_H), XH n s S Z' h' → GI n S Z' → fr' [(14, (-1)), (16, (-1)), (17, (-1)), (18, (-1)), (19, (-1)), (33, (-1))] Z Z' → Post (none, h')) : mx_J (tB l D b0 ad Hb tau) mt_147 (d + 5) 0 [some (.ref 1), some (.ref 50), none] [] h Post := by
    have a1 : 1 < n := lt83 (GI_n hG) rfl
    have s1 : S 1 = .inl (11, [2, 0, 0, 0, 2, 2, 2, 2, 2, 2, 2, 2, 2, 2, 2, 2, 2]) := GI_s hG 1 rfl
    have a32 : 32 < n := lt83 (GI_n hG) rfl
    have s32 : S 32 = .inl (9, [2, 2, 2]) := GI_s hG 32 rfl
    have a36 : 36 < n := lt83 (GI_n hG) rfl
    have s36 : S 36 = .inl (5, [2, 0, 0, 0, 0, 0]) := GI_s hG 36 rfl
    have a50 : 50 < n := lt83 (GI_n hG) rfl
    have s50 : S 50 = .inl (10, [2, 0, 0, 0]) := GI_s hG 50 rfl
    refine mx_J.step (sn_147 0) (fun _ _ => rfl) ?_
    refine JgetR (g := 9) (b := 32) hx (show mx_Sn _ _ 1 (mx_getf 11 9 4) from sn_147 1) a1 s1 rfl rfl (hG.prr 1 9 rfl) ?_
    refine mx_J.step (sn_147 4) (fun _ _ => rfl) ?_
    refine JgetR (g := 12) (b := 36) hx (show mx_Sn _ _ 5 (mx_getf 11 12 8) from sn_147 5) a1 s1 rfl rfl (hG.prr 1 12 rfl) ?_
    have b4 : 0 ≤ Z 36 2 ∧ Z 36 2 ≤ 384 := hG.pr 36 2
    refine JgetI (g := 2) (z := Z 36 2) hx (show mx_Sn _ _ 8 (mx_getf 5 2 11) from sn_147 8) a36 s36 rfl rfl rfl ?_
    obtain ⟨Z5, h5, hc5, hx5, hG5, hf5⟩ := ct_71_32 (d := d + 3) (l := l) (D := D) (b0 := b0) (ad := ad) (Hb := Hb) (tau := tau) hx hG (show (-2147483648) ≤ Z 36 2 ∧ Z 36 2 ≤ 2147483647 by omega)
    refine Jcv0 hx (show mx_Sn _ _ 11 (mx_callv 71 2 9 14) from sn_147 11) a32 s32 hc5 rfl rfl rfl ?_
    refine JcI (z := 0) (show mx_Sn _ _ 14 (mx_const (.int 0) 15) from sn_147 14) rfl ?_
    refine mx_J.step (ls2 := [some (.ref 1), some (.ref 50), some (xI 0)]) (sn_147 15) (fun _ _ => rfl) ?_
    have c16 : ∀ (m6 : Nat) (w6_2 : Int) (Z7 : xZ) (h7 : mx_H), 40 - w6_2 < (m6 : Int) → 0 ≤ w6_2 ∧ w6_2 ≤ 40 → XH n s S Z7 h7 → GI n S Z7 → fr' [(14, (-1)), (16, (-1)), (17, (-1)), (18, (-1)), (19, (-1)), (33, (-1))] Z5 Z7 → mx_J (tB l D b0 ad Hb tau) mt_147 (d + 5) 16 [some (.ref 1), some (.ref 50), some (xI w6_2)] [] h7 Post := by
      intro m6
      induction m6 with
      | zero => intro w6_2 Z7 h7 q6 f6_0 hx7 hG7 hf7; exact absurd q6 (by omega)
      | succ m6 ih6 =>
        intro w6_2 Z7 h7 q6 f6_0 hx7 hG7 hf7
        refine mx_J.step (sn_147 16) (fun _ _ => rfl) ?_
        refine mx_J.step (sn_147 17) (fun _ _ => rfl) ?_
        have b9 : 0 ≤ Z 50 2 ∧ Z 50 2 ≤ 40 := hG.pr 50 2
        refine JgetI (g := 2) (z := Z 50 2) hx7 (show mx_Sn _ _ 18 (mx_getf 10 2 21) from sn_147 18) a50 s50 rfl rfl ((hf7 50 2 rfl).trans (hf5 50 2 rfl)) ?_
        refine Jicmp_ge (show mx_Sn _ _ 21 (mx_icmp_ge 44 24) from sn_147 21) (by omega) (by omega) (fun q10 => ?_) (fun q10 => ?_)
        · skip
          exact mx_J.ret (sn_147 44) (fun _ _ => rfl) (hP Z7 h7 hx7 hG7 (fr_tr (M := [(14, (-1)), (16, (-1)), (17, (-1)), (18, (-1)), (19, (-1)), (33, (-1))]) (fr_tr (M := [(14, (-1)), (16, (-1)), (17, (-1)), (18, (-1)), (19, (-1)), (33, (-1))]) fr_rf (hf5) (M1 := []) rfl rfl) (hf7) rfl rfl))
        · skip
          refine mx_J.step (sn_147 24) (fun _ _ => rfl) ?_
          refine JgetR (g := 9) (b := 32) hx7 (show mx_Sn _ _ 25 (mx_getf 11 9 28) from sn_147 25) a1 s1 rfl rfl (hG7.prr 1 9 rfl) ?_
          refine mx_J.step (sn_147 28) (fun _ _ => rfl) ?_
          refine mx_J.step (sn_147 29) (fun _ _ => rfl) ?_
          refine mx_J.step (sn_147 30) (fun _ _ => rfl) ?_
          have eq13 : Z7 51 w6_2 = Z 51 w6_2 := ((hf7 51 w6_2 rfl).trans (hf5 51 w6_2 rfl))
          have b14 : (-9223372036854775808) ≤ Z 51 w6_2 ∧ Z 51 w6_2 ≤ 9223372036854775807 := hG.pr 51 w6_2
          obtain ⟨z12, hc12, b12⟩ := ct_85_50 (d := d + 4) (l := l) (D := D) (b0 := b0) (ad := ad) (Hb := Hb) (tau := tau) hx7 hG7 (show (-2147483648) ≤ w6_2 ∧ w6_2 ≤ 2147483647 by omega)
          try rw [eq13] at b12
          refine Jcv hx7 (show mx_Sn _ _ 31 (mx_callv 85 2 10 34) from sn_147 31) a50 s50 hc12 rfl rfl rfl ?_
          refine Jl2i (show mx_Sn _ _ 34 (mx_l2i 35) from sn_147 34) (Jnorm fun y15 hy15 hq15 => ?_)
          obtain ⟨Z16, h16, hc16, hx16, hG16, hf16⟩ := ct_73_32 (d := d + 0) (l := l) (D := D) (b0 := b0) (ad := ad) (Hb := Hb) (tau := tau) hx7 hG7 (show 0 ≤ w6_2 ∧ w6_2 ≤ 39 by omega) (show (-2147483648) ≤ y15 ∧ y15 ≤ 2147483647 by omega)
          refine Jcv0 hx7 (show mx_Sn _ _ 35 (mx_callv 73 3 9 38) from sn_147 35) a32 s32 hc16 rfl rfl rfl ?_
          refine Jiinc (z := w6_2) (cz := 1) (ls2 := [some (.ref 1), some (.ref 50), some (xI (w6_2 + 1))]) (show mx_Sn _ _ 38 (mx_iinc 2 1 41) from sn_147 38) rfl rfl rfl rfl ?_
          refine mx_J.step (sn_147 41) (fun _ _ => rfl) ?_
          exact ih6 (w6_2 + 1) Z16 h16 (by omega) (by omega) hx16 hG16 (fr_tr (M := [(14, (-1)), (16, (-1)), (17, (-1)), (18, (-1)), (19, (-1)), (33, (-1))]) (fr_tr (M := [(14, (-1)), (16, (-1)), (17, (-1)), (18, (-1)), (19, (-1)), (33, (-1))]) fr_rf (hf7) (M1 := []) rfl rfl) (hf16) rfl rfl)
    exact c16 (Int.toNat (40 - 0) + 1) 0 Z5 h5 (by omega) (by omega) hx5 hG5 fr_rf
theorem ct_147_1_50 {l : Launch} {D : va_G} {b0 : Nat} {ad : Nat → Nat} {Hb : Heap} {tau : Nat → Int64} {d n s : Nat} {S : Nat → xS} {Z : xZ} {h : mx_H} (hx : XH n s S Z h) (hG : GI n S Z)   : ∃ (Z' : xZ) (h' : mx_H), mx_Ca (tB l D b0 ad Hb tau) (d + 6) 147 [.ref 1, .ref 50] h (none, h') ∧ XH n s S Z' h' ∧ GI n S Z' ∧ fr' [(14, (-1)), (16, (-1)), (17, (-1)), (18, (-1)), (19, (-1)), (33, (-1))] Z Z' := by
  obtain ⟨r, hca, Z', h', e, q⟩ := Jmt (B := tB l D b0 ad Hb tau) (M := mt_147) (mi := 147) (as := [.ref 1, .ref 50]) (d := d + 5) (ls := [some (.ref 1), some (.ref 50), none]) rfl rfl rfl rfl rfl rfl (cw_147_1_50 (l := l) (D := D) (b0 := b0) (ad := ad) (Hb := Hb) (tau := tau) (d := d) (Post := fun r => ∃ (Z' : xZ) (h' : mx_H), r = (none, h') ∧ XH n s S Z' h' ∧ GI n S Z' ∧ fr' [(14, (-1)), (16, (-1)), (17, (-1)), (18, (-1)), (19, (-1)), (33, (-1))] Z Z') hx hG  (fun Z' h' q1 q2 q3 => ⟨Z', h', rfl, q1, q2, q3⟩))
  subst e; exact ⟨Z', h', hca, q⟩
set_option maxRecDepth 100000 in
theorem cw_150_1_50 {l : Launch} {D : va_G} {b0 : Nat} {ad : Nat → Nat} {Hb : Heap} {tau : Nat → Int64} {d n s : Nat} {S : Nat → xS} {Z : xZ} {h : mx_H} {Post : mx_R → Prop} (hx : XH n s S Z h) (hG : GI n S Z)   (hP : ∀ (z : Int) (Z' : xZ) (h' : mx_H), XH n s S Z' h' → GI n S Z' → fr' [(14, (-1)), (16, (-1)), (17, (-1)), (18, (-1)), (19, (-1))] Z Z' → (-1) ≤ z ∧ z ≤ 384 → Post (some (xI z), h')) : mx_J (tB l D b0 ad Hb tau) mt_150 (d + 4) 0 [some (.ref 1), some (.ref 50), none, none] [] h Post := by
    have a1 : 1 < n := lt83 (GI_n hG) rfl
    have s1 : S 1 = .inl (11, [2, 0, 0, 0, 2, 2, 2, 2, 2, 2, 2, 2, 2, 2, 2, 2, 2]) := GI_s hG 1 rfl
    have a7 : 7 < n := lt83 (GI_n hG) rfl
    have s7 : S 7 = .inl (0, [2, 2, 2, 2, 0, 0]) := GI_s hG 7 rfl
    have a12 : 12 < n := lt83 (GI_n hG) rfl
    have s12 : S 12 = .inl (4, [2, 2, 0, 2, 2, 2, 2, 2, 2]) := GI_s hG 12 rfl
    have a36 : 36 < n := lt83 (GI_n hG) rfl
    have s36 : S 36 = .inl (5, [2, 0, 0, 0, 0, 0]) := GI_s hG 36 rfl
    have a50 : 50 < n := lt83 (GI_n hG) rfl
    have s50 : S 50 = .inl (10, [2, 0, 0, 0]) := GI_s hG 50 rfl
    refine mx_J.step (sn_150 0) (fun _ _ => rfl) ?_
    refine JgetR (g := 12) (b := 36) hx (show mx_Sn _ _ 1 (mx_getf 11 12 4) from sn_150 1) a1 s1 rfl rfl (hG.prr 1 12 rfl) ?_
    have b3 : 0 ≤ Z 36 2 ∧ Z 36 2 ≤ 384 := hG.pr 36 2
    refine JgetI (g := 2) (z := Z 36 2) hx (show mx_Sn _ _ 4 (mx_getf 5 2 7) from sn_150 4) a36 s36 rfl rfl rfl ?_
    refine mx_J.step (ls2 := [some (.ref 1), some (.ref 50), some (xI (Z 36 2)), none]) (sn_150 7) (fun _ _ => rfl) ?_
    refine JcI (z := 0) (show mx_Sn _ _ 8 (mx_const (.int 0) 9) from sn_150 8) rfl ?_
    refine mx_J.step (ls2 := [some (.ref 1), some (.ref 50), some (xI (Z 36 2)), some (xI 0)]) (sn_150 9) (fun _ _ => rfl) ?_
    have c10 : ∀ (m4 : Nat) (w4_2 : Int) (w4_3 : Int) (Z5 : xZ) (h5 : mx_H), 40 - w4_3 < (m4 : Int) → (-1) ≤ w4_2 ∧ w4_2 ≤ 384 → 0 ≤ w4_3 ∧ w4_3 ≤ 40 → XH n s S Z5 h5 → GI n S Z5 → fr' [(14, (-1)), (16, (-1)), (17, (-1)), (18, (-1)), (19, (-1))] Z Z5 → mx_J (tB l D b0 ad Hb tau) mt_150 (d + 4) 10 [some (.ref 1), some (.ref 50), some (xI w4_2), some (xI w4_3)] [] h5 Post := by
      intro m4
      induction m4 with
      | zero => intro w4_2 w4_3 Z5 h5 q4 f4_0 f4_1 hx5 hG5 hf5; exact absurd q4 (by omega)
      | succ m4 ih4 =>
        intro w4_2 w4_3 Z5 h5 q4 f4_0 f4_1 hx5 hG5 hf5
        refine mx_J.step (sn_150 10) (fun _ _ => rfl) ?_
        refine mx_J.step (sn_150 11) (fun _ _ => rfl) ?_
        have b7 : 0 ≤ Z 50 2 ∧ Z 50 2 ≤ 40 := hG.pr 50 2
        refine JgetI (g := 2) (z := Z 50 2) hx5 (show mx_Sn _ _ 12 (mx_getf 10 2 15) from sn_150 12) a50 s50 rfl rfl (hf5 50 2 rfl) ?_
        refine Jicmp_ge (show mx_Sn _ _ 15 (mx_icmp_ge 54 18) from sn_150 15) (by omega) (by omega) (fun q8 => ?_) (fun q8 => ?_)
        · skip
          refine mx_J.step (sn_150 54) (fun _ _ => rfl) ?_
          exact mx_J.ret (sn_150 55) (fun _ _ => rfl) (hP w4_2 Z5 h5 hx5 hG5 (fr_tr (M := [(14, (-1)), (16, (-1)), (17, (-1)), (18, (-1)), (19, (-1))]) fr_rf (hf5) (M1 := []) rfl rfl) (by omega))
        · skip
          refine mx_J.step (sn_150 18) (fun _ _ => rfl) ?_
          refine JgetR (g := 6) (b := 12) hx5 (show mx_Sn _ _ 19 (mx_getf 11 6 22) from sn_150 19) a1 s1 rfl rfl (hG5.prr 1 6 rfl) ?_
          refine mx_J.step (sn_150 22) (fun _ _ => rfl) ?_
          refine JcI (z := 0) (show mx_Sn _ _ 23 (mx_const (.int 0) 24) from sn_150 23) rfl ?_
          obtain ⟨z10, Z10, h10, hc10, hx10, hG10, hf10, b10⟩ := ct_26_12 (d := d + 0) (l := l) (D := D) (b0 := b0) (ad := ad) (Hb := Hb) (tau := tau) hx5 hG5 (show (-2147483648) ≤ w4_2 ∧ w4_2 ≤ 2147483647 by omega) (show (-2147483648) ≤ 0 ∧ 0 ≤ 2147483647 by omega)
          refine Jcv hx5 (show mx_Sn _ _ 24 (mx_callv 26 3 4 27) from sn_150 24) a12 s12 hc10 rfl rfl rfl ?_
          refine mx_J.step (ls2 := [some (.ref 1), some (.ref 50), some (xI z10), some (xI w4_3)]) (sn_150 27) (fun _ _ => rfl) ?_
          refine mx_J.step (sn_150 28) (fun _ _ => rfl) ?_
          refine JgetR (g := 5) (b := 7) hx10 (show mx_Sn _ _ 29 (mx_getf 11 5 32) from sn_150 29) a1 s1 rfl rfl (hG10.prr 1 5 rfl) ?_
          refine mx_J.step (sn_150 32) (fun _ _ => rfl) ?_
          have eq13 : Z10 7 5 = Z 7 5 := ((hf10 7 5 rfl).trans (hf5 7 5 rfl))
          have b14 : 0 ≤ Z 7 5 ∧ Z 7 5 ≤ 385 := hG.pr 7 5
          have eq15 : Z10 10 z10 = Z 10 z10 := ((hf10 10 z10 rfl).trans (hf5 10 z10 rfl))
          have b16 : 0 ≤ Z 10 z10 ∧ Z 10 z10 ≤ 18 := hG.pr 10 z10
          obtain ⟨z12, hc12, b12⟩ := ct_5_7 (d := d + 3) (l := l) (D := D) (b0 := b0) (ad := ad) (Hb := Hb) (tau := tau) hx10 hG10 (show (-2147483648) ≤ z10 ∧ z10 ≤ 2147483647 by omega)
          try rw [eq13] at b12
          try rw [eq15] at b12
          refine Jcv hx10 (show mx_Sn _ _ 33 (mx_callv 5 2 0 36) from sn_150 33) a7 s7 hc12 rfl rfl rfl ?_
          refine Ji2l (show mx_Sn _ _ 36 (mx_i2l 37) from sn_150 36) (by omega) ?_
          refine mx_J.step (sn_150 37) (fun _ _ => rfl) ?_
          refine mx_J.step (sn_150 38) (fun _ _ => rfl) ?_
          have eq18 : Z10 51 w4_3 = Z 51 w4_3 := ((hf10 51 w4_3 rfl).trans (hf5 51 w4_3 rfl))
          have b19 : (-9223372036854775808) ≤ Z 51 w4_3 ∧ Z 51 w4_3 ≤ 9223372036854775807 := hG.pr 51 w4_3
          obtain ⟨z17, hc17, b17⟩ := ct_85_50 (d := d + 3) (l := l) (D := D) (b0 := b0) (ad := ad) (Hb := Hb) (tau := tau) hx10 hG10 (show (-2147483648) ≤ w4_3 ∧ w4_3 ≤ 2147483647 by omega)
          try rw [eq18] at b17
          refine Jcv hx10 (show mx_Sn _ _ 39 (mx_callv 85 2 10 42) from sn_150 39) a50 s50 hc17 rfl rfl rfl ?_
          refine Jlif_eq (show mx_Sn _ _ 42 (mx_lif_eq 48 46) from sn_150 42) (by omega) (by omega) (fun q20 => ?_) (fun q20 => ?_)
          · skip
            refine Jiinc (z := w4_3) (cz := 1) (ls2 := [some (.ref 1), some (.ref 50), some (xI z10), some (xI (w4_3 + 1))]) (show mx_Sn _ _ 48 (mx_iinc 3 1 51) from sn_150 48) rfl rfl rfl rfl ?_
            refine mx_J.step (sn_150 51) (fun _ _ => rfl) ?_
            exact ih4 z10 (w4_3 + 1) Z10 h10 (by omega) (by omega) (by omega) hx10 hG10 (fr_tr (M := [(14, (-1)), (16, (-1)), (17, (-1)), (18, (-1)), (19, (-1))]) (fr_tr (M := [(14, (-1)), (16, (-1)), (17, (-1)), (18, (-1)), (19, (-1))]) fr_rf (hf5) (M1 := []) rfl rfl) (hf10) rfl rfl)
          · skip
            refine JcI (z := (-1)) (show mx_Sn _ _ 46 (mx_const (.int (-1)) 47) from sn_150 46) rfl ?_
            exact mx_J.ret (sn_150 47) (fun _ _ => rfl) (hP (-1) Z10 h10 hx10 hG10 (fr_tr (M := [(14, (-1)), (16, (-1)), (17, (-1)), (18, (-1)), (19, (-1))]) (fr_tr (M := [(14, (-1)), (16, (-1)), (17, (-1)), (18, (-1)), (19, (-1))]) fr_rf (hf5) (M1 := []) rfl rfl) (hf10) rfl rfl) (by omega))
    exact c10 (Int.toNat (40 - 0) + 1) (Z 36 2) 0 Z h (by omega) (by omega) (by omega) hx hG fr_rf
theorem ct_150_1_50 {l : Launch} {D : va_G} {b0 : Nat} {ad : Nat → Nat} {Hb : Heap} {tau : Nat → Int64} {d n s : Nat} {S : Nat → xS} {Z : xZ} {h : mx_H} (hx : XH n s S Z h) (hG : GI n S Z)   : ∃ (z : Int) (Z' : xZ) (h' : mx_H), mx_Ca (tB l D b0 ad Hb tau) (d + 5) 150 [.ref 1, .ref 50] h (some (xI z), h') ∧ XH n s S Z' h' ∧ GI n S Z' ∧ fr' [(14, (-1)), (16, (-1)), (17, (-1)), (18, (-1)), (19, (-1))] Z Z' ∧ ((-1) ≤ z ∧ z ≤ 384) := by
  obtain ⟨r, hca, z, Z', h', e, q⟩ := Jmt (B := tB l D b0 ad Hb tau) (M := mt_150) (mi := 150) (as := [.ref 1, .ref 50]) (d := d + 4) (ls := [some (.ref 1), some (.ref 50), none, none]) rfl rfl rfl rfl rfl rfl (cw_150_1_50 (l := l) (D := D) (b0 := b0) (ad := ad) (Hb := Hb) (tau := tau) (d := d) (Post := fun r => ∃ (z : Int) (Z' : xZ) (h' : mx_H), r = (some (xI z), h') ∧ XH n s S Z' h' ∧ GI n S Z' ∧ fr' [(14, (-1)), (16, (-1)), (17, (-1)), (18, (-1)), (19, (-1))] Z Z' ∧ ((-1) ≤ z ∧ z ≤ 384)) hx hG  (fun z Z' h' q1 q2 q3 q4 => ⟨z, Z', h', rfl, q1, q2, q3, q4⟩))
  subst e; exact ⟨z, Z', h', hca, q⟩
set_option maxRecDepth 100000 in
theorem cw_151_1 {l : Launch} {D : va_G} {b0 : Nat} {ad : Nat → Nat} {Hb : Heap} {tau : Nat → Int64} {d n s : Nat} {S : Nat → xS} {Z : xZ} {h : mx_H} {Post : mx_R → Prop} (hx : XH n s S Z h) (hG : GI n S Z)  {x0 x1 : Int} (p0 : 0 ≤ x0 ∧ x0 ≤ 9) (p1 : 0 ≤ x1 ∧ x1 ≤ 384) (hP : ∀ (Z' : xZ) (h' : mx_H), XH n s S Z' h' → GI n S Z' → fr' [(14, (-1)), (16, (-1)), (17, (-1)), (18, (-1)), (19, (-1)), (43, (-1))] Z Z' → Post (none, h')) : mx_J (tB l D b0 ad Hb tau) mt_151 (d + 4) 0 [some (.ref 1), some (xI x0), some (xI x1), none, none] [] h Post := by
    have a1 : 1 < n := lt83 (GI_n hG) rfl
    have s1 : S 1 = .inl (11, [2, 0, 0, 0, 2, 2, 2, 2, 2, 2, 2, 2, 2, 2, 2, 2, 2]) := GI_s hG 1 rfl
    have a7 : 7 < n := lt83 (GI_n hG) rfl
    have s7 : S 7 = .inl (0, [2, 2, 2, 2, 0, 0]) := GI_s hG 7 rfl
    have a12 : 12 < n := lt83 (GI_n hG) rfl
    have s12 : S 12 = .inl (4, [2, 2, 0, 2, 2, 2, 2, 2, 2]) := GI_s hG 12 rfl
    have a43 : 43 < n := lt83 (GI_n hG) rfl
    have s43 : S 43 = .inr (.int, 190, 0) := GI_s hG 43 rfl
    refine JcI (z := 0) (show mx_Sn _ _ 0 (mx_const (.int 0) 1) from sn_151 0) rfl ?_
    refine mx_J.step (ls2 := [some (.ref 1), some (xI x0), some (xI x1), some (xI 0), none]) (sn_151 1) (fun _ _ => rfl) ?_
    have c2 : ∀ (m1 : Nat) (w1_3 : Int) (u1_4 : Option Value) (Z2 : xZ) (h2 : mx_H), 19 - w1_3 < (m1 : Int) → 0 ≤ w1_3 ∧ w1_3 ≤ 19 → XH n s S Z2 h2 → GI n S Z2 → fr' [(14, (-1)), (16, (-1)), (17, (-1)), (18, (-1)), (19, (-1)), (43, (-1))] Z Z2 → mx_J (tB l D b0 ad Hb tau) mt_151 (d + 4) 2 [some (.ref 1), some (xI x0), some (xI x1), some (xI w1_3), u1_4] [] h2 Post := by
      intro m1
      induction m1 with
      | zero => intro w1_3 u1_4 Z2 h2 q1 f1_0 hx2 hG2 hf2; exact absurd q1 (by omega)
      | succ m1 ih1 =>
        intro w1_3 u1_4 Z2 h2 q1 f1_0 hx2 hG2 hf2
        refine mx_J.step (sn_151 2) (fun _ _ => rfl) ?_
        refine JcI (z := 18) (show mx_Sn _ _ 3 (mx_const (.int 18) 5) from sn_151 3) rfl ?_
        refine Jicmp_gt (show mx_Sn _ _ 5 (mx_icmp_gt 54 8) from sn_151 5) (by omega) (by omega) (fun q3 => ?_) (fun q3 => ?_)
        · skip
          exact mx_J.ret (sn_151 54) (fun _ _ => rfl) (hP Z2 h2 hx2 hG2 (fr_tr (M := [(14, (-1)), (16, (-1)), (17, (-1)), (18, (-1)), (19, (-1)), (43, (-1))]) fr_rf (hf2) (M1 := []) rfl rfl))
        · skip
          refine mx_J.step (sn_151 8) (fun _ _ => rfl) ?_
          refine JgetR (g := 6) (b := 12) hx2 (show mx_Sn _ _ 9 (mx_getf 11 6 12) from sn_151 9) a1 s1 rfl rfl (hG2.prr 1 6 rfl) ?_
          refine mx_J.step (sn_151 12) (fun _ _ => rfl) ?_
          refine mx_J.step (sn_151 13) (fun _ _ => rfl) ?_
          obtain ⟨z5, Z5, h5, hc5, hx5, hG5, hf5, b5⟩ := ct_26_12 (d := d + 0) (l := l) (D := D) (b0 := b0) (ad := ad) (Hb := Hb) (tau := tau) hx2 hG2 (show (-2147483648) ≤ x1 ∧ x1 ≤ 2147483647 by omega) (show (-2147483648) ≤ w1_3 ∧ w1_3 ≤ 2147483647 by omega)
          refine Jcv hx2 (show mx_Sn _ _ 14 (mx_callv 26 3 4 17) from sn_151 14) a12 s12 hc5 rfl rfl rfl ?_
          refine mx_J.step (ls2 := [some (.ref 1), some (xI x0), some (xI x1), some (xI w1_3), some (xI z5)]) (sn_151 17) (fun _ _ => rfl) ?_
          refine mx_J.step (sn_151 19) (fun _ _ => rfl) ?_
          refine JgetR (g := 16) (b := 43) hx5 (show mx_Sn _ _ 20 (mx_getf 11 16 23) from sn_151 20) a1 s1 rfl rfl (hG5.prr 1 16 rfl) ?_
          refine mx_J.step (sn_151 23) (fun _ _ => rfl) ?_
          refine JcI (z := 19) (show mx_Sn _ _ 24 (mx_const (.int 19) 26) from sn_151 24) rfl ?_
          refine Jimul (show mx_Sn _ _ 26 (mx_imul 27) from sn_151 26) ?_
          refine mx_J.step (sn_151 27) (fun _ _ => rfl) ?_
          refine Jiadd (show mx_Sn _ _ 28 (mx_iadd 29) from sn_151 28) ?_
          refine mx_J.step (sn_151 29) (fun _ _ => rfl) ?_
          have c47 : ∀ (k7_2 : Int), 0 ≤ k7_2 ∧ k7_2 ≤ 18 → mx_J (tB l D b0 ad Hb tau) mt_151 (d + 4) 47 [some (.ref 1), some (xI x0), some (xI x1), some (xI w1_3), some (xI z5)] [xI k7_2, xI ((x0 * 19) + w1_3), .ref 43] h5 Post := by
            intro k7_2 f7_0
            refine JiastI hx5 (show mx_Sn _ _ 47 (mx_iast 1 48) from sn_151 47) a43 s43 rfl (by omega) (fun Z8 h8 hx8 hE8 => ?_)
            have hG8 := GI_up hG5 hE8 (show 0 ≤ k7_2 ∧ k7_2 ≤ 18 by omega) trivial rfl
            refine Jiinc (z := w1_3) (cz := 1) (ls2 := [some (.ref 1), some (xI x0), some (xI x1), some (xI (w1_3 + 1)), some (xI z5)]) (show mx_Sn _ _ 48 (mx_iinc 3 1 51) from sn_151 48) rfl rfl rfl rfl ?_
            refine mx_J.step (sn_151 51) (fun _ _ => rfl) ?_
            exact ih1 (w1_3 + 1) (some (xI z5)) Z8 h8 (by omega) (by omega) hx8 hG8 (fr_tr (M := [(14, (-1)), (16, (-1)), (17, (-1)), (18, (-1)), (19, (-1)), (43, (-1))]) (fr_tr (M := [(14, (-1)), (16, (-1)), (17, (-1)), (18, (-1)), (19, (-1)), (43, (-1))]) (fr_tr (M := [(14, (-1)), (16, (-1)), (17, (-1)), (18, (-1)), (19, (-1)), (43, (-1))]) fr_rf (hf2) (M1 := []) rfl rfl) (hf5) rfl rfl) (fr_ua hE8) rfl rfl)
          refine Jif_ge (show mx_Sn _ _ 31 (mx_if_ge 38 34) from sn_151 31) (by omega) (fun q9 => ?_) (fun q9 => ?_)
          · skip
            refine mx_J.step (sn_151 38) (fun _ _ => rfl) ?_
            refine JgetR (g := 5) (b := 7) hx5 (show mx_Sn _ _ 39 (mx_getf 11 5 42) from sn_151 39) a1 s1 rfl rfl (hG5.prr 1 5 rfl) ?_
            refine mx_J.step (sn_151 42) (fun _ _ => rfl) ?_
            have eq12 : Z5 7 5 = Z 7 5 := ((hf5 7 5 rfl).trans (hf2 7 5 rfl))
            have b13 : 0 ≤ Z 7 5 ∧ Z 7 5 ≤ 385 := hG.pr 7 5
            have eq14 : Z5 10 z5 = Z 10 z5 := ((hf5 10 z5 rfl).trans (hf2 10 z5 rfl))
            have b15 : 0 ≤ Z 10 z5 ∧ Z 10 z5 ≤ 18 := hG.pr 10 z5
            obtain ⟨z11, hc11, b11⟩ := ct_5_7 (d := d + 3) (l := l) (D := D) (b0 := b0) (ad := ad) (Hb := Hb) (tau := tau) hx5 hG5 (show (-2147483648) ≤ z5 ∧ z5 ≤ 2147483647 by omega)
            try rw [eq12] at b11
            try rw [eq14] at b11
            refine Jcv hx5 (show mx_Sn _ _ 44 (mx_callv 5 2 0 47) from sn_151 44) a7 s7 hc11 rfl rfl rfl ?_
            exact c47 z11 (by omega)
          · skip
            refine JcI (z := 0) (show mx_Sn _ _ 34 (mx_const (.int 0) 35) from sn_151 34) rfl ?_
            refine mx_J.step (sn_151 35) (fun _ _ => rfl) ?_
            exact c47 0 (by omega)
    exact c2 (Int.toNat (19 - 0) + 1) 0 none Z h (by omega) (by omega) hx hG fr_rf
theorem ct_151_1 {l : Launch} {D : va_G} {b0 : Nat} {ad : Nat → Nat} {Hb : Heap} {tau : Nat → Int64} {d n s : Nat} {S : Nat → xS} {Z : xZ} {h : mx_H} (hx : XH n s S Z h) (hG : GI n S Z)  {x0 x1 : Int} (p0 : 0 ≤ x0 ∧ x0 ≤ 9) (p1 : 0 ≤ x1 ∧ x1 ≤ 384) : ∃ (Z' : xZ) (h' : mx_H), mx_Ca (tB l D b0 ad Hb tau) (d + 5) 151 [.ref 1, xI x0, xI x1] h (none, h') ∧ XH n s S Z' h' ∧ GI n S Z' ∧ fr' [(14, (-1)), (16, (-1)), (17, (-1)), (18, (-1)), (19, (-1)), (43, (-1))] Z Z' := by
  obtain ⟨r, hca, Z', h', e, q⟩ := Jmt (B := tB l D b0 ad Hb tau) (M := mt_151) (mi := 151) (as := [.ref 1, xI x0, xI x1]) (d := d + 4) (ls := [some (.ref 1), some (xI x0), some (xI x1), none, none]) rfl rfl rfl rfl rfl rfl (cw_151_1 (l := l) (D := D) (b0 := b0) (ad := ad) (Hb := Hb) (tau := tau) (d := d) (Post := fun r => ∃ (Z' : xZ) (h' : mx_H), r = (none, h') ∧ XH n s S Z' h' ∧ GI n S Z' ∧ fr' [(14, (-1)), (16, (-1)), (17, (-1)), (18, (-1)), (19, (-1)), (43, (-1))] Z Z') hx hG p0 p1 (fun Z' h' q1 q2 q3 => ⟨Z', h', rfl, q1, q2, q3⟩))
  subst e; exact ⟨Z', h', hca, q⟩
set_option maxRecDepth 100000 in
theorem cw_152_1 {l : Launch} {D : va_G} {b0 : Nat} {ad : Nat → Nat} {Hb : Heap} {tau : Nat → Int64} {d n s : Nat} {S : Nat → xS} {Z : xZ} {h : mx_H} {Post : mx_R → Prop} (hx : XH n s S Z h) (hG : GI n S Z)  {x0 x1 : Int} (p0 : (-2147483648) ≤ x0 ∧ x0 ≤ 2147483647) (p1 : 0 ≤ x1 ∧ x1 ≤ 18) (hP : ∀ (z : Int) (Z' : xZ) (h' : mx_H), XH n s S Z' h' → GI n S Z' → fr' [(42, (-1))] Z Z' → 0 ≤ z ∧ z ≤ 11 → Post (some (xI z), h')) : mx_J (tB l D b0 ad Hb tau) mt_152 (d + 1) 0 [some (.ref 1), some (xI x0), some (xI x1), none, none, none] [] h Post := by
    have a1 : 1 < n := lt83 (GI_n hG) rfl
    have s1 : S 1 = .inl (11, [2, 0, 0, 0, 2, 2, 2, 2, 2, 2, 2, 2, 2, 2, 2, 2, 2]) := GI_s hG 1 rfl
    have a42 : 42 < n := lt83 (GI_n hG) rfl
    have s42 : S 42 = .inr (.int, 19, 0) := GI_s hG 42 rfl
    have a43 : 43 < n := lt83 (GI_n hG) rfl
    have s43 : S 43 = .inr (.int, 190, 0) := GI_s hG 43 rfl
    refine mx_J.step (sn_152 0) (fun _ _ => rfl) ?_
    refine JgetR (g := 15) (b := 42) hx (show mx_Sn _ _ 1 (mx_getf 11 15 4) from sn_152 1) a1 s1 rfl rfl (hG.prr 1 15 rfl) ?_
    refine JcI (z := 0) (show mx_Sn _ _ 4 (mx_const (.int 0) 5) from sn_152 4) rfl ?_
    obtain ⟨Z2, h2, hc2, hx2, hG2, hf2, m2_42⟩ := ct_284_42_i0 (d := d + 0) (l := l) (D := D) (b0 := b0) (ad := ad) (Hb := Hb) (tau := tau) hx hG 
    refine Jcs0 (show mx_Sn _ _ 5 (mx_calls 284 2 8) from sn_152 5) hc2 rfl rfl rfl ?_
    refine JcI (z := 0) (show mx_Sn _ _ 8 (mx_const (.int 0) 9) from sn_152 8) rfl ?_
    refine mx_J.step (ls2 := [some (.ref 1), some (xI x0), some (xI x1), some (xI 0), none, none]) (sn_152 9) (fun _ _ => rfl) ?_
    refine JcI (z := 0) (show mx_Sn _ _ 10 (mx_const (.int 0) 11) from sn_152 10) rfl ?_
    refine mx_J.step (ls2 := [some (.ref 1), some (xI x0), some (xI x1), some (xI 0), some (xI 0), none]) (sn_152 11) (fun _ _ => rfl) ?_
    have c13 : ∀ (m3 : Nat) (w3_3 : Int) (w3_4 : Int) (u3_5 : Option Value) (Z4 : xZ) (h4 : mx_H), 10 - w3_4 < (m3 : Int) → 0 ≤ w3_3 ∧ w3_3 ≤ 11 → 0 ≤ w3_4 ∧ w3_4 ≤ 10 → AB Z4 42 (19) (0) (w3_4) → XH n s S Z4 h4 → GI n S Z4 → fr' [(42, (-1))] Z2 Z4 → mx_J (tB l D b0 ad Hb tau) mt_152 (d + 1) 13 [some (.ref 1), some (xI x0), some (xI x1), some (xI w3_3), some (xI w3_4), u3_5] [] h4 Post := by
      intro m3
      induction m3 with
      | zero => intro w3_3 w3_4 u3_5 Z4 h4 q3 f3_0 f3_1 f3_2 hx4 hG4 hf4; exact absurd q3 (by omega)
      | succ m3 ih3 =>
        intro w3_3 w3_4 u3_5 Z4 h4 q3 f3_0 f3_1 f3_2 hx4 hG4 hf4
        refine mx_J.step (sn_152 13) (fun _ _ => rfl) ?_
        refine JcI (z := 10) (show mx_Sn _ _ 15 (mx_const (.int 10) 17) from sn_152 15) rfl ?_
        refine Jicmp_ge (show mx_Sn _ _ 17 (mx_icmp_ge 72 20) from sn_152 17) (by omega) (by omega) (fun q5 => ?_) (fun q5 => ?_)
        · skip
          refine mx_J.step (sn_152 72) (fun _ _ => rfl) ?_
          exact mx_J.ret (sn_152 73) (fun _ _ => rfl) (hP w3_3 Z4 h4 hx4 hG4 (fr_tr (M := [(42, (-1))]) (fr_tr (M := [(42, (-1))]) fr_rf (hf2) (M1 := []) rfl rfl) (hf4) rfl rfl) (by omega))
        · skip
          refine mx_J.step (sn_152 20) (fun _ _ => rfl) ?_
          refine mx_J.step (sn_152 21) (fun _ _ => rfl) ?_
          refine JishrX (show mx_Sn _ _ 23 (mx_ishr 24) from sn_152 23) (fun y6 hy6 => ?_)
          refine JcI (z := 1) (show mx_Sn _ _ 24 (mx_const (.int 1) 25) from sn_152 24) rfl ?_
          refine JiandM (q := 2) 1 (show mx_Sn _ _ 25 (mx_iand 26) from sn_152 25) rfl rfl rfl ?_
          have c66 : ∀ (w7_3 : Int) (u7_5 : Option Value) (Z8 : xZ) (h8 : mx_H), 0 ≤ w7_3 ∧ w7_3 ≤ 11 → AB Z8 42 (19) (0) (w3_4 + 1) → XH n s S Z8 h8 → GI n S Z8 → fr' [(42, (-1))] Z4 Z8 → mx_J (tB l D b0 ad Hb tau) mt_152 (d + 1) 66 [some (.ref 1), some (xI x0), some (xI x1), some (xI w7_3), some (xI w3_4), u7_5] [] h8 Post := by
            intro w7_3 u7_5 Z8 h8 f7_0 f7_1 hx8 hG8 hf8
            refine Jiinc (z := w3_4) (cz := 1) (ls2 := [some (.ref 1), some (xI x0), some (xI x1), some (xI w7_3), some (xI (w3_4 + 1)), u7_5]) (show mx_Sn _ _ 66 (mx_iinc 4 1 69) from sn_152 66) rfl rfl rfl rfl ?_
            refine mx_J.step (sn_152 69) (fun _ _ => rfl) ?_
            exact ih3 w7_3 (w3_4 + 1) u7_5 Z8 h8 (by omega) (by omega) (by omega) (ab_mono f7_1 (by omega) (by omega) (by omega)) hx8 hG8 (fr_tr (M := [(42, (-1))]) (fr_tr (M := [(42, (-1))]) fr_rf (hf4) (M1 := []) rfl rfl) (hf8) rfl rfl)
          refine Jif_eq (show mx_Sn _ _ 26 (mx_if_eq 66 29) from sn_152 26) (by omega) (fun q9 => ?_) (fun q9 => ?_)
          · skip
            exact c66 w3_3 u3_5 Z4 h4 (by omega) (ab_mono f3_2 (by omega) (by omega) (by omega)) hx4 hG4 fr_rf
          · skip
            refine mx_J.step (sn_152 29) (fun _ _ => rfl) ?_
            refine JgetR (g := 16) (b := 43) hx4 (show mx_Sn _ _ 30 (mx_getf 11 16 33) from sn_152 30) a1 s1 rfl rfl (hG4.prr 1 16 rfl) ?_
            refine mx_J.step (sn_152 33) (fun _ _ => rfl) ?_
            refine JcI (z := 19) (show mx_Sn _ _ 35 (mx_const (.int 19) 37) from sn_152 35) rfl ?_
            refine Jimul (show mx_Sn _ _ 37 (mx_imul 38) from sn_152 37) ?_
            refine mx_J.step (sn_152 38) (fun _ _ => rfl) ?_
            refine Jiadd (show mx_Sn _ _ 39 (mx_iadd 40) from sn_152 39) ?_
            have b11 : 0 ≤ Z 43 ((w3_4 * 19) + x1) ∧ Z 43 ((w3_4 * 19) + x1) ≤ 18 := hG.pr 43 ((w3_4 * 19) + x1)
            refine JialdI (z := Z 43 ((w3_4 * 19) + x1)) hx4 (show mx_Sn _ _ 40 (mx_iald 41) from sn_152 40) a43 s43 (by omega) ((hf4 43 ((w3_4 * 19) + x1) rfl).trans (hf2 43 ((w3_4 * 19) + x1) rfl)) ?_
            refine mx_J.step (ls2 := [some (.ref 1), some (xI x0), some (xI x1), some (xI w3_3), some (xI w3_4), some (xI (Z 43 ((w3_4 * 19) + x1)))]) (sn_152 41) (fun _ _ => rfl) ?_
            refine mx_J.step (sn_152 43) (fun _ _ => rfl) ?_
            refine JgetR (g := 15) (b := 42) hx4 (show mx_Sn _ _ 44 (mx_getf 11 15 47) from sn_152 44) a1 s1 rfl rfl (hG4.prr 1 15 rfl) ?_
            refine mx_J.step (sn_152 47) (fun _ _ => rfl) ?_
            refine mx_J.step (sn_152 49) (fun _ _ => rfl) ?_
            have b13 : 0 ≤ Z4 42 (Z 43 ((w3_4 * 19) + x1)) ∧ Z4 42 (Z 43 ((w3_4 * 19) + x1)) ≤ w3_4 := f3_2 (Z 43 ((w3_4 * 19) + x1)) (by omega) (by omega)
            have b14 : (-2147483648) ≤ Z4 42 (Z 43 ((w3_4 * 19) + x1)) ∧ Z4 42 (Z 43 ((w3_4 * 19) + x1)) ≤ 2147483647 := hG4.pr 42 (Z 43 ((w3_4 * 19) + x1))
            refine JialdI (z := Z4 42 (Z 43 ((w3_4 * 19) + x1))) hx4 (show mx_Sn _ _ 50 (mx_iald 51) from sn_152 50) a42 s42 (by omega) rfl ?_
            refine JcI (z := 1) (show mx_Sn _ _ 51 (mx_const (.int 1) 52) from sn_152 51) rfl ?_
            refine Jiadd (show mx_Sn _ _ 52 (mx_iadd 53) from sn_152 52) ?_
            refine JiastI hx4 (show mx_Sn _ _ 53 (mx_iast 1 54) from sn_152 53) a42 s42 rfl (by omega) (fun Z15 h15 hx15 hE15 => ?_)
            have hG15 := GI_up hG4 hE15 (show (-2147483648) ≤ (Z4 42 (Z 43 ((w3_4 * 19) + x1))) + 1 ∧ (Z4 42 (Z 43 ((w3_4 * 19) + x1))) + 1 ≤ 2147483647 by omega) trivial rfl
            have m15 : AB Z15 42 19 0 (w3_4 + 1) := ab_up hE15 f3_2 (by omega) (by omega) (by omega)
            refine mx_J.step (sn_152 54) (fun _ _ => rfl) ?_
            refine mx_J.step (sn_152 55) (fun _ _ => rfl) ?_
            refine JgetR (g := 15) (b := 42) hx15 (show mx_Sn _ _ 56 (mx_getf 11 15 59) from sn_152 56) a1 s1 rfl rfl (hG15.prr 1 15 rfl) ?_
            refine mx_J.step (sn_152 59) (fun _ _ => rfl) ?_
            have b17 : 0 ≤ Z15 42 (Z 43 ((w3_4 * 19) + x1)) ∧ Z15 42 (Z 43 ((w3_4 * 19) + x1)) ≤ w3_4 + 1 := m15 (Z 43 ((w3_4 * 19) + x1)) (by omega) (by omega)
            have b18 : (-2147483648) ≤ Z15 42 (Z 43 ((w3_4 * 19) + x1)) ∧ Z15 42 (Z 43 ((w3_4 * 19) + x1)) ≤ 2147483647 := hG15.pr 42 (Z 43 ((w3_4 * 19) + x1))
            refine JialdI (z := Z15 42 (Z 43 ((w3_4 * 19) + x1))) hx15 (show mx_Sn _ _ 61 (mx_iald 62) from sn_152 61) a42 s42 (by omega) rfl ?_
            refine Jmmax (show mx_Sn _ _ 62 (mx_mmax 65) from sn_152 62) (by omega) (by omega) ⟨_, rfl⟩ rfl (fun y19 hy19 => ?_)
            refine mx_J.step (ls2 := [some (.ref 1), some (xI x0), some (xI x1), some (xI y19), some (xI w3_4), some (xI (Z 43 ((w3_4 * 19) + x1)))]) (sn_152 65) (fun _ _ => rfl) ?_
            exact c66 y19 (some (xI (Z 43 ((w3_4 * 19) + x1)))) Z15 h15 (by omega) (ab_mono m15 (by omega) (by omega) (by omega)) hx15 hG15 (fr_tr (M := [(42, (-1))]) fr_rf (fr_ua hE15) (M1 := []) rfl rfl)
    exact c13 (Int.toNat (10 - 0) + 1) 0 0 none Z2 h2 (by omega) (by omega) (by omega) (ab_mono m2_42 (by omega) (by omega) (by omega)) hx2 hG2 fr_rf
theorem ct_152_1 {l : Launch} {D : va_G} {b0 : Nat} {ad : Nat → Nat} {Hb : Heap} {tau : Nat → Int64} {d n s : Nat} {S : Nat → xS} {Z : xZ} {h : mx_H} (hx : XH n s S Z h) (hG : GI n S Z)  {x0 x1 : Int} (p0 : (-2147483648) ≤ x0 ∧ x0 ≤ 2147483647) (p1 : 0 ≤ x1 ∧ x1 ≤ 18) : ∃ (z : Int) (Z' : xZ) (h' : mx_H), mx_Ca (tB l D b0 ad Hb tau) (d + 2) 152 [.ref 1, xI x0, xI x1] h (some (xI z), h') ∧ XH n s S Z' h' ∧ GI n S Z' ∧ fr' [(42, (-1))] Z Z' ∧ (0 ≤ z ∧ z ≤ 11) := by
  obtain ⟨r, hca, z, Z', h', e, q⟩ := Jmt (B := tB l D b0 ad Hb tau) (M := mt_152) (mi := 152) (as := [.ref 1, xI x0, xI x1]) (d := d + 1) (ls := [some (.ref 1), some (xI x0), some (xI x1), none, none, none]) rfl rfl rfl rfl rfl rfl (cw_152_1 (l := l) (D := D) (b0 := b0) (ad := ad) (Hb := Hb) (tau := tau) (d := d) (Post := fun r => ∃ (z : Int) (Z' : xZ) (h' : mx_H), r = (some (xI z), h') ∧ XH n s S Z' h' ∧ GI n S Z' ∧ fr' [(42, (-1))] Z Z' ∧ (0 ≤ z ∧ z ≤ 11)) hx hG p0 p1 (fun z Z' h' q1 q2 q3 q4 => ⟨z, Z', h', rfl, q1, q2, q3, q4⟩))
  subst e; exact ⟨z, Z', h', hca, q⟩
set_option maxRecDepth 100000 in
theorem cw_149_1_44 {l : Launch} {D : va_G} {b0 : Nat} {ad : Nat → Nat} {Hb : Heap} {tau : Nat → Int64} {d n s : Nat} {S : Nat → xS} {Z : xZ} {h : mx_H} {Post : mx_R → Prop} (hx : XH n s S Z h) (hG : GI n S Z)   (hP : ∀ (z : Int) (Z' : xZ) (h' : mx_H), XH n s S Z' h' → GI n S Z' → fr' [(12, 2), (14, (-1)), (16, (-1)), (17, (-1)), (18, (-1)), (19, (-1)), (43, (-1))] Z Z' → (-2147483648) ≤ z ∧ z ≤ 2147483647 → Post (some (xI z), h')) : mx_J (tB l D b0 ad Hb tau) mt_149 (d + 5) 0 [some (.ref 1), some (.ref 44), none, none, none] [] h Post := by
    have a1 : 1 < n := lt83 (GI_n hG) rfl
    have s1 : S 1 = .inl (11, [2, 0, 0, 0, 2, 2, 2, 2, 2, 2, 2, 2, 2, 2, 2, 2, 2]) := GI_s hG 1 rfl
    have a12 : 12 < n := lt83 (GI_n hG) rfl
    have s12 : S 12 = .inl (4, [2, 2, 0, 2, 2, 2, 2, 2, 2]) := GI_s hG 12 rfl
    have a36 : 36 < n := lt83 (GI_n hG) rfl
    have s36 : S 36 = .inl (5, [2, 0, 0, 0, 0, 0]) := GI_s hG 36 rfl
    refine JcI (z := 0) (show mx_Sn _ _ 0 (mx_const (.int 0) 1) from sn_149 0) rfl ?_
    refine mx_J.step (ls2 := [some (.ref 1), some (.ref 44), some (xI 0), none, none]) (sn_149 1) (fun _ _ => rfl) ?_
    refine JcI (z := 0) (show mx_Sn _ _ 2 (mx_const (.int 0) 3) from sn_149 2) rfl ?_
    refine mx_J.step (ls2 := [some (.ref 1), some (.ref 44), some (xI 0), some (xI 0), none]) (sn_149 3) (fun _ _ => rfl) ?_
    have c4 : ∀ (m1 : Nat) (w1_2 : Int) (w1_3 : Int) (u1_4 : Option Value) (Z2 : xZ) (h2 : mx_H), 10 - w1_3 < (m1 : Int) → (-2147483648) ≤ w1_2 ∧ w1_2 ≤ 2147483647 → 0 ≤ w1_3 ∧ w1_3 ≤ 10 → XH n s S Z2 h2 → GI n S Z2 → fr' [(12, 2), (14, (-1)), (16, (-1)), (17, (-1)), (18, (-1)), (19, (-1)), (43, (-1))] Z Z2 → mx_J (tB l D b0 ad Hb tau) mt_149 (d + 5) 4 [some (.ref 1), some (.ref 44), some (xI w1_2), some (xI w1_3), u1_4] [] h2 Post := by
      intro m1
      induction m1 with
      | zero => intro w1_2 w1_3 u1_4 Z2 h2 q1 f1_0 f1_1 hx2 hG2 hf2; exact absurd q1 (by omega)
      | succ m1 ih1 =>
        intro w1_2 w1_3 u1_4 Z2 h2 q1 f1_0 f1_1 hx2 hG2 hf2
        refine mx_J.step (sn_149 4) (fun _ _ => rfl) ?_
        refine JcI (z := 10) (show mx_Sn _ _ 5 (mx_const (.int 10) 7) from sn_149 5) rfl ?_
        refine Jicmp_ge (show mx_Sn _ _ 7 (mx_icmp_ge 49 10) from sn_149 7) (by omega) (by omega) (fun q3 => ?_) (fun q3 => ?_)
        · skip
          refine mx_J.step (sn_149 49) (fun _ _ => rfl) ?_
          refine JgetR (g := 6) (b := 12) hx2 (show mx_Sn _ _ 50 (mx_getf 11 6 53) from sn_149 50) a1 s1 rfl rfl (hG2.prr 1 6 rfl) ?_
          refine mx_J.step (sn_149 53) (fun _ _ => rfl) ?_
          refine JgetR (g := 12) (b := 36) hx2 (show mx_Sn _ _ 54 (mx_getf 11 12 57) from sn_149 54) a1 s1 rfl rfl (hG2.prr 1 12 rfl) ?_
          have b7 : 0 ≤ Z 36 3 ∧ Z 36 3 ≤ 9 := hG.pr 36 3
          refine JgetI (g := 3) (z := Z 36 3) hx2 (show mx_Sn _ _ 57 (mx_getf 5 3 60) from sn_149 57) a36 s36 rfl rfl (hf2 36 3 rfl) ?_
          obtain ⟨Z8, h8, hc8, hx8, hG8, hf8⟩ := ct_25_12 (d := d + 4) (l := l) (D := D) (b0 := b0) (ad := ad) (Hb := Hb) (tau := tau) hx2 hG2 (show 0 ≤ Z 36 3 ∧ Z 36 3 ≤ 9 by omega)
          refine Jcv0 hx2 (show mx_Sn _ _ 60 (mx_callv 25 2 4 63) from sn_149 60) a12 s12 hc8 rfl rfl rfl ?_
          refine mx_J.step (sn_149 63) (fun _ _ => rfl) ?_
          exact mx_J.ret (sn_149 64) (fun _ _ => rfl) (hP w1_2 Z8 h8 hx8 hG8 (fr_tr (M := [(12, 2), (14, (-1)), (16, (-1)), (17, (-1)), (18, (-1)), (19, (-1)), (43, (-1))]) (fr_tr (M := [(12, 2), (14, (-1)), (16, (-1)), (17, (-1)), (18, (-1)), (19, (-1)), (43, (-1))]) fr_rf (hf2) (M1 := []) rfl rfl) (hf8) rfl rfl) (by omega))
        · skip
          refine mx_J.step (sn_149 10) (fun _ _ => rfl) ?_
          refine JgetR (g := 6) (b := 12) hx2 (show mx_Sn _ _ 11 (mx_getf 11 6 14) from sn_149 11) a1 s1 rfl rfl (hG2.prr 1 6 rfl) ?_
          refine mx_J.step (sn_149 14) (fun _ _ => rfl) ?_
          obtain ⟨Z10, h10, hc10, hx10, hG10, hf10⟩ := ct_25_12 (d := d + 4) (l := l) (D := D) (b0 := b0) (ad := ad) (Hb := Hb) (tau := tau) hx2 hG2 (show 0 ≤ w1_3 ∧ w1_3 ≤ 9 by omega)
          refine Jcv0 hx2 (show mx_Sn _ _ 15 (mx_callv 25 2 4 18) from sn_149 15) a12 s12 hc10 rfl rfl rfl ?_
          refine mx_J.step (sn_149 18) (fun _ _ => rfl) ?_
          refine mx_J.step (sn_149 19) (fun _ _ => rfl) ?_
          obtain ⟨z11, Z11, h11, hc11, hx11, hG11, hf11, b11⟩ := ct_150_1_44 (d := d + 0) (l := l) (D := D) (b0 := b0) (ad := ad) (Hb := Hb) (tau := tau) hx10 hG10 
          refine Jcv hx10 (show mx_Sn _ _ 20 (mx_callv 150 2 11 23) from sn_149 20) a1 s1 hc11 rfl rfl rfl ?_
          refine mx_J.step (ls2 := [some (.ref 1), some (.ref 44), some (xI w1_2), some (xI w1_3), some (xI z11)]) (sn_149 23) (fun _ _ => rfl) ?_
          refine mx_J.step (sn_149 25) (fun _ _ => rfl) ?_
          have c43 : ∀ (w12_2 : Int) (Z13 : xZ) (h13 : mx_H), (-2147483648) ≤ w12_2 ∧ w12_2 ≤ 2147483647 → XH n s S Z13 h13 → GI n S Z13 → fr' [(14, (-1)), (16, (-1)), (17, (-1)), (18, (-1)), (19, (-1)), (43, (-1))] Z11 Z13 → mx_J (tB l D b0 ad Hb tau) mt_149 (d + 5) 43 [some (.ref 1), some (.ref 44), some (xI w12_2), some (xI w1_3), some (xI z11)] [] h13 Post := by
            intro w12_2 Z13 h13 f12_0 hx13 hG13 hf13
            refine Jiinc (z := w1_3) (cz := 1) (ls2 := [some (.ref 1), some (.ref 44), some (xI w12_2), some (xI (w1_3 + 1)), some (xI z11)]) (show mx_Sn _ _ 43 (mx_iinc 3 1 46) from sn_149 43) rfl rfl rfl rfl ?_
            refine mx_J.step (sn_149 46) (fun _ _ => rfl) ?_
            exact ih1 w12_2 (w1_3 + 1) (some (xI z11)) Z13 h13 (by omega) (by omega) (by omega) hx13 hG13 (fr_tr (M := [(12, 2), (14, (-1)), (16, (-1)), (17, (-1)), (18, (-1)), (19, (-1)), (43, (-1))]) (fr_tr (M := [(12, 2), (14, (-1)), (16, (-1)), (17, (-1)), (18, (-1)), (19, (-1)), (43, (-1))]) (fr_tr (M := [(12, 2), (14, (-1)), (16, (-1)), (17, (-1)), (18, (-1)), (19, (-1)), (43, (-1))]) (fr_tr (M := [(12, 2), (14, (-1)), (16, (-1)), (17, (-1)), (18, (-1)), (19, (-1)), (43, (-1))]) fr_rf (hf2) (M1 := []) rfl rfl) (hf10) rfl rfl) (hf11) rfl rfl) (hf13) rfl rfl)
          refine Jif_lt (show mx_Sn _ _ 27 (mx_if_lt 43 30) from sn_149 27) (by omega) (fun q14 => ?_) (fun q14 => ?_)
          · skip
            exact c43 w1_2 Z11 h11 (by omega) hx11 hG11 fr_rf
          · skip
            refine mx_J.step (sn_149 30) (fun _ _ => rfl) ?_
            refine JcI (z := 1) (show mx_Sn _ _ 31 (mx_const (.int 1) 32) from sn_149 31) rfl ?_
            refine mx_J.step (sn_149 32) (fun _ _ => rfl) ?_
            refine JishlX (show mx_Sn _ _ 33 (mx_ishl 34) from sn_149 33) (fun y15 hy15 => ?_)
            refine JiorX (show mx_Sn _ _ 34 (mx_ior 35) from sn_149 34) (fun y16 hy16 => ?_)
            refine mx_J.step (ls2 := [some (.ref 1), some (.ref 44), some (xI y16), some (xI w1_3), some (xI z11)]) (sn_149 35) (fun _ _ => rfl) ?_
            refine mx_J.step (sn_149 36) (fun _ _ => rfl) ?_
            refine mx_J.step (sn_149 37) (fun _ _ => rfl) ?_
            refine mx_J.step (sn_149 38) (fun _ _ => rfl) ?_
            obtain ⟨Z17, h17, hc17, hx17, hG17, hf17⟩ := ct_151_1 (d := d + 0) (l := l) (D := D) (b0 := b0) (ad := ad) (Hb := Hb) (tau := tau) hx11 hG11 (show 0 ≤ w1_3 ∧ w1_3 ≤ 9 by omega) (show 0 ≤ z11 ∧ z11 ≤ 384 by omega)
            refine Jcv0 hx11 (show mx_Sn _ _ 40 (mx_callv 151 3 11 43) from sn_149 40) a1 s1 hc17 rfl rfl rfl ?_
            exact c43 y16 Z17 h17 (by omega) hx17 hG17 (fr_tr (M := [(14, (-1)), (16, (-1)), (17, (-1)), (18, (-1)), (19, (-1)), (43, (-1))]) fr_rf (hf17) (M1 := []) rfl rfl)
    exact c4 (Int.toNat (10 - 0) + 1) 0 0 none Z h (by omega) (by omega) (by omega) hx hG fr_rf
theorem ct_149_1_44 {l : Launch} {D : va_G} {b0 : Nat} {ad : Nat → Nat} {Hb : Heap} {tau : Nat → Int64} {d n s : Nat} {S : Nat → xS} {Z : xZ} {h : mx_H} (hx : XH n s S Z h) (hG : GI n S Z)   : ∃ (z : Int) (Z' : xZ) (h' : mx_H), mx_Ca (tB l D b0 ad Hb tau) (d + 6) 149 [.ref 1, .ref 44] h (some (xI z), h') ∧ XH n s S Z' h' ∧ GI n S Z' ∧ fr' [(12, 2), (14, (-1)), (16, (-1)), (17, (-1)), (18, (-1)), (19, (-1)), (43, (-1))] Z Z' ∧ ((-2147483648) ≤ z ∧ z ≤ 2147483647) := by
  obtain ⟨r, hca, z, Z', h', e, q⟩ := Jmt (B := tB l D b0 ad Hb tau) (M := mt_149) (mi := 149) (as := [.ref 1, .ref 44]) (d := d + 5) (ls := [some (.ref 1), some (.ref 44), none, none, none]) rfl rfl rfl rfl rfl rfl (cw_149_1_44 (l := l) (D := D) (b0 := b0) (ad := ad) (Hb := Hb) (tau := tau) (d := d) (Post := fun r => ∃ (z : Int) (Z' : xZ) (h' : mx_H), r = (some (xI z), h') ∧ XH n s S Z' h' ∧ GI n S Z' ∧ fr' [(12, 2), (14, (-1)), (16, (-1)), (17, (-1)), (18, (-1)), (19, (-1)), (43, (-1))] Z Z' ∧ ((-2147483648) ≤ z ∧ z ≤ 2147483647)) hx hG  (fun z Z' h' q1 q2 q3 q4 => ⟨z, Z', h', rfl, q1, q2, q3, q4⟩))
  subst e; exact ⟨z, Z', h', hca, q⟩
set_option maxRecDepth 100000 in
theorem cw_149_1_46 {l : Launch} {D : va_G} {b0 : Nat} {ad : Nat → Nat} {Hb : Heap} {tau : Nat → Int64} {d n s : Nat} {S : Nat → xS} {Z : xZ} {h : mx_H} {Post : mx_R → Prop} (hx : XH n s S Z h) (hG : GI n S Z)   (hP : ∀ (z : Int) (Z' : xZ) (h' : mx_H), XH n s S Z' h' → GI n S Z' → fr' [(12, 2), (14, (-1)), (16, (-1)), (17, (-1)), (18, (-1)), (19, (-1)), (43, (-1))] Z Z' → (-2147483648) ≤ z ∧ z ≤ 2147483647 → Post (some (xI z), h')) : mx_J (tB l D b0 ad Hb tau) mt_149 (d + 5) 0 [some (.ref 1), some (.ref 46), none, none, none] [] h Post := by
    have a1 : 1 < n := lt83 (GI_n hG) rfl
    have s1 : S 1 = .inl (11, [2, 0, 0, 0, 2, 2, 2, 2, 2, 2, 2, 2, 2, 2, 2, 2, 2]) := GI_s hG 1 rfl
    have a12 : 12 < n := lt83 (GI_n hG) rfl
    have s12 : S 12 = .inl (4, [2, 2, 0, 2, 2, 2, 2, 2, 2]) := GI_s hG 12 rfl
    have a36 : 36 < n := lt83 (GI_n hG) rfl
    have s36 : S 36 = .inl (5, [2, 0, 0, 0, 0, 0]) := GI_s hG 36 rfl
    refine JcI (z := 0) (show mx_Sn _ _ 0 (mx_const (.int 0) 1) from sn_149 0) rfl ?_
    refine mx_J.step (ls2 := [some (.ref 1), some (.ref 46), some (xI 0), none, none]) (sn_149 1) (fun _ _ => rfl) ?_
    refine JcI (z := 0) (show mx_Sn _ _ 2 (mx_const (.int 0) 3) from sn_149 2) rfl ?_
    refine mx_J.step (ls2 := [some (.ref 1), some (.ref 46), some (xI 0), some (xI 0), none]) (sn_149 3) (fun _ _ => rfl) ?_
    have c4 : ∀ (m1 : Nat) (w1_2 : Int) (w1_3 : Int) (u1_4 : Option Value) (Z2 : xZ) (h2 : mx_H), 10 - w1_3 < (m1 : Int) → (-2147483648) ≤ w1_2 ∧ w1_2 ≤ 2147483647 → 0 ≤ w1_3 ∧ w1_3 ≤ 10 → XH n s S Z2 h2 → GI n S Z2 → fr' [(12, 2), (14, (-1)), (16, (-1)), (17, (-1)), (18, (-1)), (19, (-1)), (43, (-1))] Z Z2 → mx_J (tB l D b0 ad Hb tau) mt_149 (d + 5) 4 [some (.ref 1), some (.ref 46), some (xI w1_2), some (xI w1_3), u1_4] [] h2 Post := by
      intro m1
      induction m1 with
      | zero => intro w1_2 w1_3 u1_4 Z2 h2 q1 f1_0 f1_1 hx2 hG2 hf2; exact absurd q1 (by omega)
      | succ m1 ih1 =>
        intro w1_2 w1_3 u1_4 Z2 h2 q1 f1_0 f1_1 hx2 hG2 hf2
        refine mx_J.step (sn_149 4) (fun _ _ => rfl) ?_
        refine JcI (z := 10) (show mx_Sn _ _ 5 (mx_const (.int 10) 7) from sn_149 5) rfl ?_
        refine Jicmp_ge (show mx_Sn _ _ 7 (mx_icmp_ge 49 10) from sn_149 7) (by omega) (by omega) (fun q3 => ?_) (fun q3 => ?_)
        · skip
          refine mx_J.step (sn_149 49) (fun _ _ => rfl) ?_
          refine JgetR (g := 6) (b := 12) hx2 (show mx_Sn _ _ 50 (mx_getf 11 6 53) from sn_149 50) a1 s1 rfl rfl (hG2.prr 1 6 rfl) ?_
          refine mx_J.step (sn_149 53) (fun _ _ => rfl) ?_
          refine JgetR (g := 12) (b := 36) hx2 (show mx_Sn _ _ 54 (mx_getf 11 12 57) from sn_149 54) a1 s1 rfl rfl (hG2.prr 1 12 rfl) ?_
          have b7 : 0 ≤ Z 36 3 ∧ Z 36 3 ≤ 9 := hG.pr 36 3
          refine JgetI (g := 3) (z := Z 36 3) hx2 (show mx_Sn _ _ 57 (mx_getf 5 3 60) from sn_149 57) a36 s36 rfl rfl (hf2 36 3 rfl) ?_
          obtain ⟨Z8, h8, hc8, hx8, hG8, hf8⟩ := ct_25_12 (d := d + 4) (l := l) (D := D) (b0 := b0) (ad := ad) (Hb := Hb) (tau := tau) hx2 hG2 (show 0 ≤ Z 36 3 ∧ Z 36 3 ≤ 9 by omega)
          refine Jcv0 hx2 (show mx_Sn _ _ 60 (mx_callv 25 2 4 63) from sn_149 60) a12 s12 hc8 rfl rfl rfl ?_
          refine mx_J.step (sn_149 63) (fun _ _ => rfl) ?_
          exact mx_J.ret (sn_149 64) (fun _ _ => rfl) (hP w1_2 Z8 h8 hx8 hG8 (fr_tr (M := [(12, 2), (14, (-1)), (16, (-1)), (17, (-1)), (18, (-1)), (19, (-1)), (43, (-1))]) (fr_tr (M := [(12, 2), (14, (-1)), (16, (-1)), (17, (-1)), (18, (-1)), (19, (-1)), (43, (-1))]) fr_rf (hf2) (M1 := []) rfl rfl) (hf8) rfl rfl) (by omega))
        · skip
          refine mx_J.step (sn_149 10) (fun _ _ => rfl) ?_
          refine JgetR (g := 6) (b := 12) hx2 (show mx_Sn _ _ 11 (mx_getf 11 6 14) from sn_149 11) a1 s1 rfl rfl (hG2.prr 1 6 rfl) ?_
          refine mx_J.step (sn_149 14) (fun _ _ => rfl) ?_
          obtain ⟨Z10, h10, hc10, hx10, hG10, hf10⟩ := ct_25_12 (d := d + 4) (l := l) (D := D) (b0 := b0) (ad := ad) (Hb := Hb) (tau := tau) hx2 hG2 (show 0 ≤ w1_3 ∧ w1_3 ≤ 9 by omega)
          refine Jcv0 hx2 (show mx_Sn _ _ 15 (mx_callv 25 2 4 18) from sn_149 15) a12 s12 hc10 rfl rfl rfl ?_
          refine mx_J.step (sn_149 18) (fun _ _ => rfl) ?_
          refine mx_J.step (sn_149 19) (fun _ _ => rfl) ?_
          obtain ⟨z11, Z11, h11, hc11, hx11, hG11, hf11, b11⟩ := ct_150_1_46 (d := d + 0) (l := l) (D := D) (b0 := b0) (ad := ad) (Hb := Hb) (tau := tau) hx10 hG10 
          refine Jcv hx10 (show mx_Sn _ _ 20 (mx_callv 150 2 11 23) from sn_149 20) a1 s1 hc11 rfl rfl rfl ?_
          refine mx_J.step (ls2 := [some (.ref 1), some (.ref 46), some (xI w1_2), some (xI w1_3), some (xI z11)]) (sn_149 23) (fun _ _ => rfl) ?_
          refine mx_J.step (sn_149 25) (fun _ _ => rfl) ?_
          have c43 : ∀ (w12_2 : Int) (Z13 : xZ) (h13 : mx_H), (-2147483648) ≤ w12_2 ∧ w12_2 ≤ 2147483647 → XH n s S Z13 h13 → GI n S Z13 → fr' [(14, (-1)), (16, (-1)), (17, (-1)), (18, (-1)), (19, (-1)), (43, (-1))] Z11 Z13 → mx_J (tB l D b0 ad Hb tau) mt_149 (d + 5) 43 [some (.ref 1), some (.ref 46), some (xI w12_2), some (xI w1_3), some (xI z11)] [] h13 Post := by
            intro w12_2 Z13 h13 f12_0 hx13 hG13 hf13
            refine Jiinc (z := w1_3) (cz := 1) (ls2 := [some (.ref 1), some (.ref 46), some (xI w12_2), some (xI (w1_3 + 1)), some (xI z11)]) (show mx_Sn _ _ 43 (mx_iinc 3 1 46) from sn_149 43) rfl rfl rfl rfl ?_
            refine mx_J.step (sn_149 46) (fun _ _ => rfl) ?_
            exact ih1 w12_2 (w1_3 + 1) (some (xI z11)) Z13 h13 (by omega) (by omega) (by omega) hx13 hG13 (fr_tr (M := [(12, 2), (14, (-1)), (16, (-1)), (17, (-1)), (18, (-1)), (19, (-1)), (43, (-1))]) (fr_tr (M := [(12, 2), (14, (-1)), (16, (-1)), (17, (-1)), (18, (-1)), (19, (-1)), (43, (-1))]) (fr_tr (M := [(12, 2), (14, (-1)), (16, (-1)), (17, (-1)), (18, (-1)), (19, (-1)), (43, (-1))]) (fr_tr (M := [(12, 2), (14, (-1)), (16, (-1)), (17, (-1)), (18, (-1)), (19, (-1)), (43, (-1))]) fr_rf (hf2) (M1 := []) rfl rfl) (hf10) rfl rfl) (hf11) rfl rfl) (hf13) rfl rfl)
          refine Jif_lt (show mx_Sn _ _ 27 (mx_if_lt 43 30) from sn_149 27) (by omega) (fun q14 => ?_) (fun q14 => ?_)
          · skip
            exact c43 w1_2 Z11 h11 (by omega) hx11 hG11 fr_rf
          · skip
            refine mx_J.step (sn_149 30) (fun _ _ => rfl) ?_
            refine JcI (z := 1) (show mx_Sn _ _ 31 (mx_const (.int 1) 32) from sn_149 31) rfl ?_
            refine mx_J.step (sn_149 32) (fun _ _ => rfl) ?_
            refine JishlX (show mx_Sn _ _ 33 (mx_ishl 34) from sn_149 33) (fun y15 hy15 => ?_)
            refine JiorX (show mx_Sn _ _ 34 (mx_ior 35) from sn_149 34) (fun y16 hy16 => ?_)
            refine mx_J.step (ls2 := [some (.ref 1), some (.ref 46), some (xI y16), some (xI w1_3), some (xI z11)]) (sn_149 35) (fun _ _ => rfl) ?_
            refine mx_J.step (sn_149 36) (fun _ _ => rfl) ?_
            refine mx_J.step (sn_149 37) (fun _ _ => rfl) ?_
            refine mx_J.step (sn_149 38) (fun _ _ => rfl) ?_
            obtain ⟨Z17, h17, hc17, hx17, hG17, hf17⟩ := ct_151_1 (d := d + 0) (l := l) (D := D) (b0 := b0) (ad := ad) (Hb := Hb) (tau := tau) hx11 hG11 (show 0 ≤ w1_3 ∧ w1_3 ≤ 9 by omega) (show 0 ≤ z11 ∧ z11 ≤ 384 by omega)
            refine Jcv0 hx11 (show mx_Sn _ _ 40 (mx_callv 151 3 11 43) from sn_149 40) a1 s1 hc17 rfl rfl rfl ?_
            exact c43 y16 Z17 h17 (by omega) hx17 hG17 (fr_tr (M := [(14, (-1)), (16, (-1)), (17, (-1)), (18, (-1)), (19, (-1)), (43, (-1))]) fr_rf (hf17) (M1 := []) rfl rfl)
    exact c4 (Int.toNat (10 - 0) + 1) 0 0 none Z h (by omega) (by omega) (by omega) hx hG fr_rf
theorem ct_149_1_46 {l : Launch} {D : va_G} {b0 : Nat} {ad : Nat → Nat} {Hb : Heap} {tau : Nat → Int64} {d n s : Nat} {S : Nat → xS} {Z : xZ} {h : mx_H} (hx : XH n s S Z h) (hG : GI n S Z)   : ∃ (z : Int) (Z' : xZ) (h' : mx_H), mx_Ca (tB l D b0 ad Hb tau) (d + 6) 149 [.ref 1, .ref 46] h (some (xI z), h') ∧ XH n s S Z' h' ∧ GI n S Z' ∧ fr' [(12, 2), (14, (-1)), (16, (-1)), (17, (-1)), (18, (-1)), (19, (-1)), (43, (-1))] Z Z' ∧ ((-2147483648) ≤ z ∧ z ≤ 2147483647) := by
  obtain ⟨r, hca, z, Z', h', e, q⟩ := Jmt (B := tB l D b0 ad Hb tau) (M := mt_149) (mi := 149) (as := [.ref 1, .ref 46]) (d := d + 5) (ls := [some (.ref 1), some (.ref 46), none, none, none]) rfl rfl rfl rfl rfl rfl (cw_149_1_46 (l := l) (D := D) (b0 := b0) (ad := ad) (Hb := Hb) (tau := tau) (d := d) (Post := fun r => ∃ (z : Int) (Z' : xZ) (h' : mx_H), r = (some (xI z), h') ∧ XH n s S Z' h' ∧ GI n S Z' ∧ fr' [(12, 2), (14, (-1)), (16, (-1)), (17, (-1)), (18, (-1)), (19, (-1)), (43, (-1))] Z Z' ∧ ((-2147483648) ≤ z ∧ z ≤ 2147483647)) hx hG  (fun z Z' h' q1 q2 q3 q4 => ⟨z, Z', h', rfl, q1, q2, q3, q4⟩))
  subst e; exact ⟨z, Z', h', hca, q⟩
set_option maxRecDepth 100000 in
theorem cw_149_1_48 {l : Launch} {D : va_G} {b0 : Nat} {ad : Nat → Nat} {Hb : Heap} {tau : Nat → Int64} {d n s : Nat} {S : Nat → xS} {Z : xZ} {h : mx_H} {Post : mx_R → Prop} (hx : XH n s S Z h) (hG : GI n S Z)   (hP : ∀ (z : Int) (Z' : xZ) (h' : mx_H), XH n s S Z' h' → GI n S Z' → fr' [(12, 2), (14, (-1)), (16, (-1)), (17, (-1)), (18, (-1)), (19, (-1)), (43, (-1))] Z Z' → (-2147483648) ≤ z ∧ z ≤ 2147483647 → Post (some (xI z), h')) : mx_J (tB l D b0 ad Hb tau) mt_149 (d + 5) 0 [some (.ref 1), some (.ref 48), none, none, none] [] h Post := by
    have a1 : 1 < n := lt83 (GI_n hG) rfl
    have s1 : S 1 = .inl (11, [2, 0, 0, 0, 2, 2, 2, 2, 2, 2, 2, 2, 2, 2, 2, 2, 2]) := GI_s hG 1 rfl
    have a12 : 12 < n := lt83 (GI_n hG) rfl
    have s12 : S 12 = .inl (4, [2, 2, 0, 2, 2, 2, 2, 2, 2]) := GI_s hG 12 rfl
    have a36 : 36 < n := lt83 (GI_n hG) rfl
    have s36 : S 36 = .inl (5, [2, 0, 0, 0, 0, 0]) := GI_s hG 36 rfl
    refine JcI (z := 0) (show mx_Sn _ _ 0 (mx_const (.int 0) 1) from sn_149 0) rfl ?_
    refine mx_J.step (ls2 := [some (.ref 1), some (.ref 48), some (xI 0), none, none]) (sn_149 1) (fun _ _ => rfl) ?_
    refine JcI (z := 0) (show mx_Sn _ _ 2 (mx_const (.int 0) 3) from sn_149 2) rfl ?_
    refine mx_J.step (ls2 := [some (.ref 1), some (.ref 48), some (xI 0), some (xI 0), none]) (sn_149 3) (fun _ _ => rfl) ?_
    have c4 : ∀ (m1 : Nat) (w1_2 : Int) (w1_3 : Int) (u1_4 : Option Value) (Z2 : xZ) (h2 : mx_H), 10 - w1_3 < (m1 : Int) → (-2147483648) ≤ w1_2 ∧ w1_2 ≤ 2147483647 → 0 ≤ w1_3 ∧ w1_3 ≤ 10 → XH n s S Z2 h2 → GI n S Z2 → fr' [(12, 2), (14, (-1)), (16, (-1)), (17, (-1)), (18, (-1)), (19, (-1)), (43, (-1))] Z Z2 → mx_J (tB l D b0 ad Hb tau) mt_149 (d + 5) 4 [some (.ref 1), some (.ref 48), some (xI w1_2), some (xI w1_3), u1_4] [] h2 Post := by
      intro m1
      induction m1 with
      | zero => intro w1_2 w1_3 u1_4 Z2 h2 q1 f1_0 f1_1 hx2 hG2 hf2; exact absurd q1 (by omega)
      | succ m1 ih1 =>
        intro w1_2 w1_3 u1_4 Z2 h2 q1 f1_0 f1_1 hx2 hG2 hf2
        refine mx_J.step (sn_149 4) (fun _ _ => rfl) ?_
        refine JcI (z := 10) (show mx_Sn _ _ 5 (mx_const (.int 10) 7) from sn_149 5) rfl ?_
        refine Jicmp_ge (show mx_Sn _ _ 7 (mx_icmp_ge 49 10) from sn_149 7) (by omega) (by omega) (fun q3 => ?_) (fun q3 => ?_)
        · skip
          refine mx_J.step (sn_149 49) (fun _ _ => rfl) ?_
          refine JgetR (g := 6) (b := 12) hx2 (show mx_Sn _ _ 50 (mx_getf 11 6 53) from sn_149 50) a1 s1 rfl rfl (hG2.prr 1 6 rfl) ?_
          refine mx_J.step (sn_149 53) (fun _ _ => rfl) ?_
          refine JgetR (g := 12) (b := 36) hx2 (show mx_Sn _ _ 54 (mx_getf 11 12 57) from sn_149 54) a1 s1 rfl rfl (hG2.prr 1 12 rfl) ?_
          have b7 : 0 ≤ Z 36 3 ∧ Z 36 3 ≤ 9 := hG.pr 36 3
          refine JgetI (g := 3) (z := Z 36 3) hx2 (show mx_Sn _ _ 57 (mx_getf 5 3 60) from sn_149 57) a36 s36 rfl rfl (hf2 36 3 rfl) ?_
          obtain ⟨Z8, h8, hc8, hx8, hG8, hf8⟩ := ct_25_12 (d := d + 4) (l := l) (D := D) (b0 := b0) (ad := ad) (Hb := Hb) (tau := tau) hx2 hG2 (show 0 ≤ Z 36 3 ∧ Z 36 3 ≤ 9 by omega)
          refine Jcv0 hx2 (show mx_Sn _ _ 60 (mx_callv 25 2 4 63) from sn_149 60) a12 s12 hc8 rfl rfl rfl ?_
          refine mx_J.step (sn_149 63) (fun _ _ => rfl) ?_
          exact mx_J.ret (sn_149 64) (fun _ _ => rfl) (hP w1_2 Z8 h8 hx8 hG8 (fr_tr (M := [(12, 2), (14, (-1)), (16, (-1)), (17, (-1)), (18, (-1)), (19, (-1)), (43, (-1))]) (fr_tr (M := [(12, 2), (14, (-1)), (16, (-1)), (17, (-1)), (18, (-1)), (19, (-1)), (43, (-1))]) fr_rf (hf2) (M1 := []) rfl rfl) (hf8) rfl rfl) (by omega))
        · skip
          refine mx_J.step (sn_149 10) (fun _ _ => rfl) ?_
          refine JgetR (g := 6) (b := 12) hx2 (show mx_Sn _ _ 11 (mx_getf 11 6 14) from sn_149 11) a1 s1 rfl rfl (hG2.prr 1 6 rfl) ?_
          refine mx_J.step (sn_149 14) (fun _ _ => rfl) ?_
          obtain ⟨Z10, h10, hc10, hx10, hG10, hf10⟩ := ct_25_12 (d := d + 4) (l := l) (D := D) (b0 := b0) (ad := ad) (Hb := Hb) (tau := tau) hx2 hG2 (show 0 ≤ w1_3 ∧ w1_3 ≤ 9 by omega)
          refine Jcv0 hx2 (show mx_Sn _ _ 15 (mx_callv 25 2 4 18) from sn_149 15) a12 s12 hc10 rfl rfl rfl ?_
          refine mx_J.step (sn_149 18) (fun _ _ => rfl) ?_
          refine mx_J.step (sn_149 19) (fun _ _ => rfl) ?_
          obtain ⟨z11, Z11, h11, hc11, hx11, hG11, hf11, b11⟩ := ct_150_1_48 (d := d + 0) (l := l) (D := D) (b0 := b0) (ad := ad) (Hb := Hb) (tau := tau) hx10 hG10 
          refine Jcv hx10 (show mx_Sn _ _ 20 (mx_callv 150 2 11 23) from sn_149 20) a1 s1 hc11 rfl rfl rfl ?_
          refine mx_J.step (ls2 := [some (.ref 1), some (.ref 48), some (xI w1_2), some (xI w1_3), some (xI z11)]) (sn_149 23) (fun _ _ => rfl) ?_
          refine mx_J.step (sn_149 25) (fun _ _ => rfl) ?_
          have c43 : ∀ (w12_2 : Int) (Z13 : xZ) (h13 : mx_H), (-2147483648) ≤ w12_2 ∧ w12_2 ≤ 2147483647 → XH n s S Z13 h13 → GI n S Z13 → fr' [(14, (-1)), (16, (-1)), (17, (-1)), (18, (-1)), (19, (-1)), (43, (-1))] Z11 Z13 → mx_J (tB l D b0 ad Hb tau) mt_149 (d + 5) 43 [some (.ref 1), some (.ref 48), some (xI w12_2), some (xI w1_3), some (xI z11)] [] h13 Post := by
            intro w12_2 Z13 h13 f12_0 hx13 hG13 hf13
            refine Jiinc (z := w1_3) (cz := 1) (ls2 := [some (.ref 1), some (.ref 48), some (xI w12_2), some (xI (w1_3 + 1)), some (xI z11)]) (show mx_Sn _ _ 43 (mx_iinc 3 1 46) from sn_149 43) rfl rfl rfl rfl ?_
            refine mx_J.step (sn_149 46) (fun _ _ => rfl) ?_
            exact ih1 w12_2 (w1_3 + 1) (some (xI z11)) Z13 h13 (by omega) (by omega) (by omega) hx13 hG13 (fr_tr (M := [(12, 2), (14, (-1)), (16, (-1)), (17, (-1)), (18, (-1)), (19, (-1)), (43, (-1))]) (fr_tr (M := [(12, 2), (14, (-1)), (16, (-1)), (17, (-1)), (18, (-1)), (19, (-1)), (43, (-1))]) (fr_tr (M := [(12, 2), (14, (-1)), (16, (-1)), (17, (-1)), (18, (-1)), (19, (-1)), (43, (-1))]) (fr_tr (M := [(12, 2), (14, (-1)), (16, (-1)), (17, (-1)), (18, (-1)), (19, (-1)), (43, (-1))]) fr_rf (hf2) (M1 := []) rfl rfl) (hf10) rfl rfl) (hf11) rfl rfl) (hf13) rfl rfl)
          refine Jif_lt (show mx_Sn _ _ 27 (mx_if_lt 43 30) from sn_149 27) (by omega) (fun q14 => ?_) (fun q14 => ?_)
          · skip
            exact c43 w1_2 Z11 h11 (by omega) hx11 hG11 fr_rf
          · skip
            refine mx_J.step (sn_149 30) (fun _ _ => rfl) ?_
            refine JcI (z := 1) (show mx_Sn _ _ 31 (mx_const (.int 1) 32) from sn_149 31) rfl ?_
            refine mx_J.step (sn_149 32) (fun _ _ => rfl) ?_
            refine JishlX (show mx_Sn _ _ 33 (mx_ishl 34) from sn_149 33) (fun y15 hy15 => ?_)
            refine JiorX (show mx_Sn _ _ 34 (mx_ior 35) from sn_149 34) (fun y16 hy16 => ?_)
            refine mx_J.step (ls2 := [some (.ref 1), some (.ref 48), some (xI y16), some (xI w1_3), some (xI z11)]) (sn_149 35) (fun _ _ => rfl) ?_
            refine mx_J.step (sn_149 36) (fun _ _ => rfl) ?_
            refine mx_J.step (sn_149 37) (fun _ _ => rfl) ?_
            refine mx_J.step (sn_149 38) (fun _ _ => rfl) ?_
            obtain ⟨Z17, h17, hc17, hx17, hG17, hf17⟩ := ct_151_1 (d := d + 0) (l := l) (D := D) (b0 := b0) (ad := ad) (Hb := Hb) (tau := tau) hx11 hG11 (show 0 ≤ w1_3 ∧ w1_3 ≤ 9 by omega) (show 0 ≤ z11 ∧ z11 ≤ 384 by omega)
            refine Jcv0 hx11 (show mx_Sn _ _ 40 (mx_callv 151 3 11 43) from sn_149 40) a1 s1 hc17 rfl rfl rfl ?_
            exact c43 y16 Z17 h17 (by omega) hx17 hG17 (fr_tr (M := [(14, (-1)), (16, (-1)), (17, (-1)), (18, (-1)), (19, (-1)), (43, (-1))]) fr_rf (hf17) (M1 := []) rfl rfl)
    exact c4 (Int.toNat (10 - 0) + 1) 0 0 none Z h (by omega) (by omega) (by omega) hx hG fr_rf
theorem ct_149_1_48 {l : Launch} {D : va_G} {b0 : Nat} {ad : Nat → Nat} {Hb : Heap} {tau : Nat → Int64} {d n s : Nat} {S : Nat → xS} {Z : xZ} {h : mx_H} (hx : XH n s S Z h) (hG : GI n S Z)   : ∃ (z : Int) (Z' : xZ) (h' : mx_H), mx_Ca (tB l D b0 ad Hb tau) (d + 6) 149 [.ref 1, .ref 48] h (some (xI z), h') ∧ XH n s S Z' h' ∧ GI n S Z' ∧ fr' [(12, 2), (14, (-1)), (16, (-1)), (17, (-1)), (18, (-1)), (19, (-1)), (43, (-1))] Z Z' ∧ ((-2147483648) ≤ z ∧ z ≤ 2147483647) := by
  obtain ⟨r, hca, z, Z', h', e, q⟩ := Jmt (B := tB l D b0 ad Hb tau) (M := mt_149) (mi := 149) (as := [.ref 1, .ref 48]) (d := d + 5) (ls := [some (.ref 1), some (.ref 48), none, none, none]) rfl rfl rfl rfl rfl rfl (cw_149_1_48 (l := l) (D := D) (b0 := b0) (ad := ad) (Hb := Hb) (tau := tau) (d := d) (Post := fun r => ∃ (z : Int) (Z' : xZ) (h' : mx_H), r = (some (xI z), h') ∧ XH n s S Z' h' ∧ GI n S Z' ∧ fr' [(12, 2), (14, (-1)), (16, (-1)), (17, (-1)), (18, (-1)), (19, (-1)), (43, (-1))] Z Z' ∧ ((-2147483648) ≤ z ∧ z ≤ 2147483647)) hx hG  (fun z Z' h' q1 q2 q3 q4 => ⟨z, Z', h', rfl, q1, q2, q3, q4⟩))
  subst e; exact ⟨z, Z', h', hca, q⟩
set_option maxRecDepth 100000 in
theorem cw_149_1_50 {l : Launch} {D : va_G} {b0 : Nat} {ad : Nat → Nat} {Hb : Heap} {tau : Nat → Int64} {d n s : Nat} {S : Nat → xS} {Z : xZ} {h : mx_H} {Post : mx_R → Prop} (hx : XH n s S Z h) (hG : GI n S Z)   (hP : ∀ (z : Int) (Z' : xZ) (h' : mx_H), XH n s S Z' h' → GI n S Z' → fr' [(12, 2), (14, (-1)), (16, (-1)), (17, (-1)), (18, (-1)), (19, (-1)), (43, (-1))] Z Z' → (-2147483648) ≤ z ∧ z ≤ 2147483647 → Post (some (xI z), h')) : mx_J (tB l D b0 ad Hb tau) mt_149 (d + 5) 0 [some (.ref 1), some (.ref 50), none, none, none] [] h Post := by
    have a1 : 1 < n := lt83 (GI_n hG) rfl
    have s1 : S 1 = .inl (11, [2, 0, 0, 0, 2, 2, 2, 2, 2, 2, 2, 2, 2, 2, 2, 2, 2]) := GI_s hG 1 rfl
    have a12 : 12 < n := lt83 (GI_n hG) rfl
    have s12 : S 12 = .inl (4, [2, 2, 0, 2, 2, 2, 2, 2, 2]) := GI_s hG 12 rfl
    have a36 : 36 < n := lt83 (GI_n hG) rfl
    have s36 : S 36 = .inl (5, [2, 0, 0, 0, 0, 0]) := GI_s hG 36 rfl
    refine JcI (z := 0) (show mx_Sn _ _ 0 (mx_const (.int 0) 1) from sn_149 0) rfl ?_
    refine mx_J.step (ls2 := [some (.ref 1), some (.ref 50), some (xI 0), none, none]) (sn_149 1) (fun _ _ => rfl) ?_
    refine JcI (z := 0) (show mx_Sn _ _ 2 (mx_const (.int 0) 3) from sn_149 2) rfl ?_
    refine mx_J.step (ls2 := [some (.ref 1), some (.ref 50), some (xI 0), some (xI 0), none]) (sn_149 3) (fun _ _ => rfl) ?_
    have c4 : ∀ (m1 : Nat) (w1_2 : Int) (w1_3 : Int) (u1_4 : Option Value) (Z2 : xZ) (h2 : mx_H), 10 - w1_3 < (m1 : Int) → (-2147483648) ≤ w1_2 ∧ w1_2 ≤ 2147483647 → 0 ≤ w1_3 ∧ w1_3 ≤ 10 → XH n s S Z2 h2 → GI n S Z2 → fr' [(12, 2), (14, (-1)), (16, (-1)), (17, (-1)), (18, (-1)), (19, (-1)), (43, (-1))] Z Z2 → mx_J (tB l D b0 ad Hb tau) mt_149 (d + 5) 4 [some (.ref 1), some (.ref 50), some (xI w1_2), some (xI w1_3), u1_4] [] h2 Post := by
      intro m1
      induction m1 with
      | zero => intro w1_2 w1_3 u1_4 Z2 h2 q1 f1_0 f1_1 hx2 hG2 hf2; exact absurd q1 (by omega)
      | succ m1 ih1 =>
        intro w1_2 w1_3 u1_4 Z2 h2 q1 f1_0 f1_1 hx2 hG2 hf2
        refine mx_J.step (sn_149 4) (fun _ _ => rfl) ?_
        refine JcI (z := 10) (show mx_Sn _ _ 5 (mx_const (.int 10) 7) from sn_149 5) rfl ?_
        refine Jicmp_ge (show mx_Sn _ _ 7 (mx_icmp_ge 49 10) from sn_149 7) (by omega) (by omega) (fun q3 => ?_) (fun q3 => ?_)
        · skip
          refine mx_J.step (sn_149 49) (fun _ _ => rfl) ?_
          refine JgetR (g := 6) (b := 12) hx2 (show mx_Sn _ _ 50 (mx_getf 11 6 53) from sn_149 50) a1 s1 rfl rfl (hG2.prr 1 6 rfl) ?_
          refine mx_J.step (sn_149 53) (fun _ _ => rfl) ?_
          refine JgetR (g := 12) (b := 36) hx2 (show mx_Sn _ _ 54 (mx_getf 11 12 57) from sn_149 54) a1 s1 rfl rfl (hG2.prr 1 12 rfl) ?_
          have b7 : 0 ≤ Z 36 3 ∧ Z 36 3 ≤ 9 := hG.pr 36 3
          refine JgetI (g := 3) (z := Z 36 3) hx2 (show mx_Sn _ _ 57 (mx_getf 5 3 60) from sn_149 57) a36 s36 rfl rfl (hf2 36 3 rfl) ?_
          obtain ⟨Z8, h8, hc8, hx8, hG8, hf8⟩ := ct_25_12 (d := d + 4) (l := l) (D := D) (b0 := b0) (ad := ad) (Hb := Hb) (tau := tau) hx2 hG2 (show 0 ≤ Z 36 3 ∧ Z 36 3 ≤ 9 by omega)
          refine Jcv0 hx2 (show mx_Sn _ _ 60 (mx_callv 25 2 4 63) from sn_149 60) a12 s12 hc8 rfl rfl rfl ?_
          refine mx_J.step (sn_149 63) (fun _ _ => rfl) ?_
          exact mx_J.ret (sn_149 64) (fun _ _ => rfl) (hP w1_2 Z8 h8 hx8 hG8 (fr_tr (M := [(12, 2), (14, (-1)), (16, (-1)), (17, (-1)), (18, (-1)), (19, (-1)), (43, (-1))]) (fr_tr (M := [(12, 2), (14, (-1)), (16, (-1)), (17, (-1)), (18, (-1)), (19, (-1)), (43, (-1))]) fr_rf (hf2) (M1 := []) rfl rfl) (hf8) rfl rfl) (by omega))
        · skip
          refine mx_J.step (sn_149 10) (fun _ _ => rfl) ?_
          refine JgetR (g := 6) (b := 12) hx2 (show mx_Sn _ _ 11 (mx_getf 11 6 14) from sn_149 11) a1 s1 rfl rfl (hG2.prr 1 6 rfl) ?_
          refine mx_J.step (sn_149 14) (fun _ _ => rfl) ?_
          obtain ⟨Z10, h10, hc10, hx10, hG10, hf10⟩ := ct_25_12 (d := d + 4) (l := l) (D := D) (b0 := b0) (ad := ad) (Hb := Hb) (tau := tau) hx2 hG2 (show 0 ≤ w1_3 ∧ w1_3 ≤ 9 by omega)
          refine Jcv0 hx2 (show mx_Sn _ _ 15 (mx_callv 25 2 4 18) from sn_149 15) a12 s12 hc10 rfl rfl rfl ?_
          refine mx_J.step (sn_149 18) (fun _ _ => rfl) ?_
          refine mx_J.step (sn_149 19) (fun _ _ => rfl) ?_
          obtain ⟨z11, Z11, h11, hc11, hx11, hG11, hf11, b11⟩ := ct_150_1_50 (d := d + 0) (l := l) (D := D) (b0 := b0) (ad := ad) (Hb := Hb) (tau := tau) hx10 hG10 
          refine Jcv hx10 (show mx_Sn _ _ 20 (mx_callv 150 2 11 23) from sn_149 20) a1 s1 hc11 rfl rfl rfl ?_
          refine mx_J.step (ls2 := [some (.ref 1), some (.ref 50), some (xI w1_2), some (xI w1_3), some (xI z11)]) (sn_149 23) (fun _ _ => rfl) ?_
          refine mx_J.step (sn_149 25) (fun _ _ => rfl) ?_
          have c43 : ∀ (w12_2 : Int) (Z13 : xZ) (h13 : mx_H), (-2147483648) ≤ w12_2 ∧ w12_2 ≤ 2147483647 → XH n s S Z13 h13 → GI n S Z13 → fr' [(14, (-1)), (16, (-1)), (17, (-1)), (18, (-1)), (19, (-1)), (43, (-1))] Z11 Z13 → mx_J (tB l D b0 ad Hb tau) mt_149 (d + 5) 43 [some (.ref 1), some (.ref 50), some (xI w12_2), some (xI w1_3), some (xI z11)] [] h13 Post := by
            intro w12_2 Z13 h13 f12_0 hx13 hG13 hf13
            refine Jiinc (z := w1_3) (cz := 1) (ls2 := [some (.ref 1), some (.ref 50), some (xI w12_2), some (xI (w1_3 + 1)), some (xI z11)]) (show mx_Sn _ _ 43 (mx_iinc 3 1 46) from sn_149 43) rfl rfl rfl rfl ?_
            refine mx_J.step (sn_149 46) (fun _ _ => rfl) ?_
            exact ih1 w12_2 (w1_3 + 1) (some (xI z11)) Z13 h13 (by omega) (by omega) (by omega) hx13 hG13 (fr_tr (M := [(12, 2), (14, (-1)), (16, (-1)), (17, (-1)), (18, (-1)), (19, (-1)), (43, (-1))]) (fr_tr (M := [(12, 2), (14, (-1)), (16, (-1)), (17, (-1)), (18, (-1)), (19, (-1)), (43, (-1))]) (fr_tr (M := [(12, 2), (14, (-1)), (16, (-1)), (17, (-1)), (18, (-1)), (19, (-1)), (43, (-1))]) (fr_tr (M := [(12, 2), (14, (-1)), (16, (-1)), (17, (-1)), (18, (-1)), (19, (-1)), (43, (-1))]) fr_rf (hf2) (M1 := []) rfl rfl) (hf10) rfl rfl) (hf11) rfl rfl) (hf13) rfl rfl)
          refine Jif_lt (show mx_Sn _ _ 27 (mx_if_lt 43 30) from sn_149 27) (by omega) (fun q14 => ?_) (fun q14 => ?_)
          · skip
            exact c43 w1_2 Z11 h11 (by omega) hx11 hG11 fr_rf
          · skip
            refine mx_J.step (sn_149 30) (fun _ _ => rfl) ?_
            refine JcI (z := 1) (show mx_Sn _ _ 31 (mx_const (.int 1) 32) from sn_149 31) rfl ?_
            refine mx_J.step (sn_149 32) (fun _ _ => rfl) ?_
            refine JishlX (show mx_Sn _ _ 33 (mx_ishl 34) from sn_149 33) (fun y15 hy15 => ?_)
            refine JiorX (show mx_Sn _ _ 34 (mx_ior 35) from sn_149 34) (fun y16 hy16 => ?_)
            refine mx_J.step (ls2 := [some (.ref 1), some (.ref 50), some (xI y16), some (xI w1_3), some (xI z11)]) (sn_149 35) (fun _ _ => rfl) ?_
            refine mx_J.step (sn_149 36) (fun _ _ => rfl) ?_
            refine mx_J.step (sn_149 37) (fun _ _ => rfl) ?_
            refine mx_J.step (sn_149 38) (fun _ _ => rfl) ?_
            obtain ⟨Z17, h17, hc17, hx17, hG17, hf17⟩ := ct_151_1 (d := d + 0) (l := l) (D := D) (b0 := b0) (ad := ad) (Hb := Hb) (tau := tau) hx11 hG11 (show 0 ≤ w1_3 ∧ w1_3 ≤ 9 by omega) (show 0 ≤ z11 ∧ z11 ≤ 384 by omega)
            refine Jcv0 hx11 (show mx_Sn _ _ 40 (mx_callv 151 3 11 43) from sn_149 40) a1 s1 hc17 rfl rfl rfl ?_
            exact c43 y16 Z17 h17 (by omega) hx17 hG17 (fr_tr (M := [(14, (-1)), (16, (-1)), (17, (-1)), (18, (-1)), (19, (-1)), (43, (-1))]) fr_rf (hf17) (M1 := []) rfl rfl)
    exact c4 (Int.toNat (10 - 0) + 1) 0 0 none Z h (by omega) (by omega) (by omega) hx hG fr_rf
theorem ct_149_1_50 {l : Launch} {D : va_G} {b0 : Nat} {ad : Nat → Nat} {Hb : Heap} {tau : Nat → Int64} {d n s : Nat} {S : Nat → xS} {Z : xZ} {h : mx_H} (hx : XH n s S Z h) (hG : GI n S Z)   : ∃ (z : Int) (Z' : xZ) (h' : mx_H), mx_Ca (tB l D b0 ad Hb tau) (d + 6) 149 [.ref 1, .ref 50] h (some (xI z), h') ∧ XH n s S Z' h' ∧ GI n S Z' ∧ fr' [(12, 2), (14, (-1)), (16, (-1)), (17, (-1)), (18, (-1)), (19, (-1)), (43, (-1))] Z Z' ∧ ((-2147483648) ≤ z ∧ z ≤ 2147483647) := by
  obtain ⟨r, hca, z, Z', h', e, q⟩ := Jmt (B := tB l D b0 ad Hb tau) (M := mt_149) (mi := 149) (as := [.ref 1, .ref 50]) (d := d + 5) (ls := [some (.ref 1), some (.ref 50), none, none, none]) rfl rfl rfl rfl rfl rfl (cw_149_1_50 (l := l) (D := D) (b0 := b0) (ad := ad) (Hb := Hb) (tau := tau) (d := d) (Post := fun r => ∃ (z : Int) (Z' : xZ) (h' : mx_H), r = (some (xI z), h') ∧ XH n s S Z' h' ∧ GI n S Z' ∧ fr' [(12, 2), (14, (-1)), (16, (-1)), (17, (-1)), (18, (-1)), (19, (-1)), (43, (-1))] Z Z' ∧ ((-2147483648) ≤ z ∧ z ≤ 2147483647)) hx hG  (fun z Z' h' q1 q2 q3 q4 => ⟨z, Z', h', rfl, q1, q2, q3, q4⟩))
  subst e; exact ⟨z, Z', h', hca, q⟩
