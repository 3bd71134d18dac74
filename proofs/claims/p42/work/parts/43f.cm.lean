set_option maxRecDepth 100000 in
theorem cw_159_ {l : Launch} {D : va_G} {b0 : Nat} {ad : Nat → Nat} {Hb : Heap} {tau : Nat → Int64} {d n s : Nat} {S : Nat → xS} {Z : xZ} {h : mx_H} {Post : mx_R → Prop} (hx : XH n s S Z h) (hG : GI n S Z)  {x0 : Int} (p0 : (-2147483648) ≤ x0 ∧ x0 ≤ 2147483647) (hP : ∀ z : Int, 0 ≤ z ∧ z ≤ 1 ∧ ((z = 1 ∧ 97 ≤ x0 ∧ x0 ≤ 122) ∨ (z = 0 ∧ ¬ (97 ≤ x0 ∧ x0 ≤ 122))) → Post (some (xI z), h)) : mx_J (tB l D b0 ad Hb tau) mt_159 (d + 0) 0 [some (xI x0)] [] h Post := by
    refine mx_J.step (sn_159 0) (fun _ _ => rfl) ?_
    refine JcI (z := 97) (show mx_Sn _ _ 1 (mx_const (.int 97) 3) from sn_159 1) rfl ?_
    have c17 : ∀ (k1_0 : Int), 0 ≤ k1_0 ∧ k1_0 ≤ 1 → ((k1_0 = 1 ∧ 97 ≤ x0 ∧ x0 ≤ 122) ∨ (k1_0 = 0 ∧ ¬ (97 ≤ x0 ∧ x0 ≤ 122))) → mx_J (tB l D b0 ad Hb tau) mt_159 (d + 0) 17 [some (xI x0)] [xI k1_0] h Post := by
      intro k1_0 f1_0 f1_1
      exact mx_J.ret (show mx_Sn _ _ 17 (mx_zret) from sn_159 17) (fun _ _ => zr_ok (by omega)) (hP k1_0 (by omega))
    have c16 : ¬ (97 ≤ x0 ∧ x0 ≤ 122) → mx_J (tB l D b0 ad Hb tau) mt_159 (d + 0) 16 [some (xI x0)] [] h Post := by
      intro f2_0
      refine JcI (z := 0) (show mx_Sn _ _ 16 (mx_const (.int 0) 17) from sn_159 16) rfl ?_
      exact c17 0 (by omega) (by omega)
    refine Jicmp_lt (show mx_Sn _ _ 3 (mx_icmp_lt 16 6) from sn_159 3) (by omega) (by omega) (fun q3 => ?_) (fun q3 => ?_)
    · skip
      exact c16 (by omega)
    · skip
      refine mx_J.step (sn_159 6) (fun _ _ => rfl) ?_
      refine JcI (z := 122) (show mx_Sn _ _ 7 (mx_const (.int 122) 9) from sn_159 7) rfl ?_
      refine Jicmp_gt (show mx_Sn _ _ 9 (mx_icmp_gt 16 12) from sn_159 9) (by omega) (by omega) (fun q4 => ?_) (fun q4 => ?_)
      · skip
        exact c16 (by omega)
      · skip
        refine JcI (z := 1) (show mx_Sn _ _ 12 (mx_const (.int 1) 13) from sn_159 12) rfl ?_
        refine mx_J.step (sn_159 13) (fun _ _ => rfl) ?_
        exact c17 1 (by omega) (by omega)
theorem ct_159_ {l : Launch} {D : va_G} {b0 : Nat} {ad : Nat → Nat} {Hb : Heap} {tau : Nat → Int64} {d n s : Nat} {S : Nat → xS} {Z : xZ} {h : mx_H} (hx : XH n s S Z h) (hG : GI n S Z)  {x0 : Int} (p0 : (-2147483648) ≤ x0 ∧ x0 ≤ 2147483647) : ∃ z : Int, mx_Ca (tB l D b0 ad Hb tau) (d + 1) 159 [xI x0] h (some (xI z), h) ∧ (0 ≤ z ∧ z ≤ 1 ∧ ((z = 1 ∧ 97 ≤ x0 ∧ x0 ≤ 122) ∨ (z = 0 ∧ ¬ (97 ≤ x0 ∧ x0 ≤ 122)))) := by
  obtain ⟨r, hca, z, e, hp⟩ := Jmt (B := tB l D b0 ad Hb tau) (M := mt_159) (mi := 159) (as := [xI x0]) (d := d + 0) (ls := [some (xI x0)]) rfl rfl rfl rfl rfl rfl (cw_159_ (l := l) (D := D) (b0 := b0) (ad := ad) (Hb := Hb) (tau := tau) (d := d) (Post := fun r => ∃ z : Int, r = (some (xI z), h) ∧ (0 ≤ z ∧ z ≤ 1 ∧ ((z = 1 ∧ 97 ≤ x0 ∧ x0 ≤ 122) ∨ (z = 0 ∧ ¬ (97 ≤ x0 ∧ x0 ≤ 122))))) hx hG p0 (fun z hz => ⟨z, rfl, hz⟩))
  subst e; exact ⟨z, hca, hp⟩
set_option maxRecDepth 100000 in
theorem cw_160_ {l : Launch} {D : va_G} {b0 : Nat} {ad : Nat → Nat} {Hb : Heap} {tau : Nat → Int64} {d n s : Nat} {S : Nat → xS} {Z : xZ} {h : mx_H} {Post : mx_R → Prop} (hx : XH n s S Z h) (hG : GI n S Z)  {x0 : Int} (p0 : (-2147483648) ≤ x0 ∧ x0 ≤ 2147483647) (hP : ∀ z : Int, 0 ≤ z ∧ z ≤ 1 ∧ ((z = 1 ∧ 48 ≤ x0 ∧ x0 ≤ 57) ∨ (z = 0 ∧ ¬ (48 ≤ x0 ∧ x0 ≤ 57))) → Post (some (xI z), h)) : mx_J (tB l D b0 ad Hb tau) mt_160 (d + 0) 0 [some (xI x0)] [] h Post := by
    refine mx_J.step (sn_160 0) (fun _ _ => rfl) ?_
    refine JcI (z := 48) (show mx_Sn _ _ 1 (mx_const (.int 48) 3) from sn_160 1) rfl ?_
    have c17 : ∀ (k1_0 : Int), 0 ≤ k1_0 ∧ k1_0 ≤ 1 → ((k1_0 = 1 ∧ 48 ≤ x0 ∧ x0 ≤ 57) ∨ (k1_0 = 0 ∧ ¬ (48 ≤ x0 ∧ x0 ≤ 57))) → mx_J (tB l D b0 ad Hb tau) mt_160 (d + 0) 17 [some (xI x0)] [xI k1_0] h Post := by
      intro k1_0 f1_0 f1_1
      exact mx_J.ret (show mx_Sn _ _ 17 (mx_zret) from sn_160 17) (fun _ _ => zr_ok (by omega)) (hP k1_0 (by omega))
    have c16 : ¬ (48 ≤ x0 ∧ x0 ≤ 57) → mx_J (tB l D b0 ad Hb tau) mt_160 (d + 0) 16 [some (xI x0)] [] h Post := by
      intro f2_0
      refine JcI (z := 0) (show mx_Sn _ _ 16 (mx_const (.int 0) 17) from sn_160 16) rfl ?_
      exact c17 0 (by omega) (by omega)
    refine Jicmp_lt (show mx_Sn _ _ 3 (mx_icmp_lt 16 6) from sn_160 3) (by omega) (by omega) (fun q3 => ?_) (fun q3 => ?_)
    · skip
      exact c16 (by omega)
    · skip
      refine mx_J.step (sn_160 6) (fun _ _ => rfl) ?_
      refine JcI (z := 57) (show mx_Sn _ _ 7 (mx_const (.int 57) 9) from sn_160 7) rfl ?_
      refine Jicmp_gt (show mx_Sn _ _ 9 (mx_icmp_gt 16 12) from sn_160 9) (by omega) (by omega) (fun q4 => ?_) (fun q4 => ?_)
      · skip
        exact c16 (by omega)
      · skip
        refine JcI (z := 1) (show mx_Sn _ _ 12 (mx_const (.int 1) 13) from sn_160 12) rfl ?_
        refine mx_J.step (sn_160 13) (fun _ _ => rfl) ?_
        exact c17 1 (by omega) (by omega)
theorem ct_160_ {l : Launch} {D : va_G} {b0 : Nat} {ad : Nat → Nat} {Hb : Heap} {tau : Nat → Int64} {d n s : Nat} {S : Nat → xS} {Z : xZ} {h : mx_H} (hx : XH n s S Z h) (hG : GI n S Z)  {x0 : Int} (p0 : (-2147483648) ≤ x0 ∧ x0 ≤ 2147483647) : ∃ z : Int, mx_Ca (tB l D b0 ad Hb tau) (d + 1) 160 [xI x0] h (some (xI z), h) ∧ (0 ≤ z ∧ z ≤ 1 ∧ ((z = 1 ∧ 48 ≤ x0 ∧ x0 ≤ 57) ∨ (z = 0 ∧ ¬ (48 ≤ x0 ∧ x0 ≤ 57)))) := by
  obtain ⟨r, hca, z, e, hp⟩ := Jmt (B := tB l D b0 ad Hb tau) (M := mt_160) (mi := 160) (as := [xI x0]) (d := d + 0) (ls := [some (xI x0)]) rfl rfl rfl rfl rfl rfl (cw_160_ (l := l) (D := D) (b0 := b0) (ad := ad) (Hb := Hb) (tau := tau) (d := d) (Post := fun r => ∃ z : Int, r = (some (xI z), h) ∧ (0 ≤ z ∧ z ≤ 1 ∧ ((z = 1 ∧ 48 ≤ x0 ∧ x0 ≤ 57) ∨ (z = 0 ∧ ¬ (48 ≤ x0 ∧ x0 ≤ 57))))) hx hG p0 (fun z hz => ⟨z, rfl, hz⟩))
  subst e; exact ⟨z, hca, hp⟩
set_option maxRecDepth 100000 in
theorem cw_161_56 {l : Launch} {D : va_G} {b0 : Nat} {ad : Nat → Nat} {Hb : Heap} {tau : Nat → Int64} {d n s : Nat} {S : Nat → xS} {Z : xZ} {h : mx_H} {Post : mx_R → Prop} (hx : XH n s S Z h) (hG : GI n S Z)   (k0 : Z 56 7 ≤ Z 56 8) (hP : ∀ z : Int, 0 ≤ z ∧ z ≤ 77 → Post (some (xI z), h)) : mx_J (tB l D b0 ad Hb tau) mt_161 (d + 4) 0 [some (.ref 56), none, none, none] [] h Post := by
    have a56 : 56 < n := lt83 (GI_n hG) rfl
    have s56 : S 56 = .inl (12, [0, 2, 2, 2, 2, 0, 0, 0, 0, 0, 0, 0, 0, 0, 0, 2, 2, 2, 0, 2, 2, 2, 0, 0, 2, 2, 2, 2, 2, 2, 0, 0, 2, 2, 2, 2, 2, 2, 2, 2, 2, 2]) := GI_s hG 56 rfl
    have a59 : 59 < n := lt83 (GI_n hG) rfl
    have s59 : S 59 = .inr (.int, 900, 0) := GI_s hG 59 rfl
    refine JcI (z := 0) (show mx_Sn _ _ 0 (mx_const (.int 0) 1) from sn_161 0) rfl ?_
    refine mx_J.step (ls2 := [some (.ref 56), some (xI 0), none, none]) (sn_161 1) (fun _ _ => rfl) ?_
    refine JcI (z := 1) (show mx_Sn _ _ 2 (mx_const (.int 1) 3) from sn_161 2) rfl ?_
    refine mx_J.step (ls2 := [some (.ref 56), some (xI 0), some (xI 1), none]) (sn_161 3) (fun _ _ => rfl) ?_
    have c4 : ∀ (m1 : Nat) (w1_1 : Int) (w1_2 : Int) (u1_3 : Option Value), 77 - w1_1 < (m1 : Int) → 0 ≤ w1_1 ∧ w1_1 ≤ 76 → 1 ≤ w1_2 ∧ w1_2 ≤ 77 → w1_1 < w1_2 → mx_J (tB l D b0 ad Hb tau) mt_161 (d + 4) 4 [some (.ref 56), some (xI w1_1), some (xI w1_2), u1_3] [] h Post := by
      intro m1
      induction m1 with
      | zero => intro w1_1 w1_2 u1_3 q1 f1_0 f1_1 f1_2; exact absurd q1 (by omega)
      | succ m1 ih1 =>
        intro w1_1 w1_2 u1_3 q1 f1_0 f1_1 f1_2
        refine mx_J.step (sn_161 4) (fun _ _ => rfl) ?_
        refine mx_J.step (sn_161 5) (fun _ _ => rfl) ?_
        obtain ⟨z2, hc2, b2⟩ := ct_291_4100 (d := d + 2) (l := l) (D := D) (b0 := b0) (ad := ad) (Hb := Hb) (tau := tau) hx hG 
        refine Jck (show mx_Sn _ _ 7 (mx_callk 291 1 10) from sn_161 7) rfl hc2 rfl rfl rfl ?_
        refine Jicmp_ge (show mx_Sn _ _ 10 (mx_icmp_ge 123 13) from sn_161 10) (by omega) (by omega) (fun q3 => ?_) (fun q3 => ?_)
        · skip
          refine JcI (z := 22) (show mx_Sn _ _ 123 (mx_const (.int 22) 125) from sn_161 123) rfl ?_
          have b4 : 0 ≤ Z 56 7 ∧ Z 56 7 ≤ 900 := hG.pr 56 7
          have b5 : 0 ≤ Z 56 8 ∧ Z 56 8 ≤ 900 := hG.pr 56 8
          exact mx_J.ret (sn_161 125) (fun _ _ => rfl) (hP 22 (by omega))
        · skip
          refine JcI (z := 0) (show mx_Sn _ _ 13 (mx_const (.int 0) 14) from sn_161 13) rfl ?_
          refine mx_J.step (ls2 := [some (.ref 56), some (xI w1_1), some (xI w1_2), some (xI 0)]) (sn_161 14) (fun _ _ => rfl) ?_
          have c15 : ∀ (m6 : Nat) (w6_3 : Int), 75 - w6_3 < (m6 : Int) → 0 ≤ w6_3 ∧ w6_3 ≤ 75 → w1_2 + w6_3 ≤ 76 → mx_J (tB l D b0 ad Hb tau) mt_161 (d + 4) 15 [some (.ref 56), some (xI w1_1), some (xI w1_2), some (xI w6_3)] [] h Post := by
            intro m6
            induction m6 with
            | zero => intro w6_3 q6 f6_0 f6_1; exact absurd q6 (by omega)
            | succ m6 ih6 =>
              intro w6_3 q6 f6_0 f6_1
              refine mx_J.step (sn_161 15) (fun _ _ => rfl) ?_
              refine mx_J.step (sn_161 17) (fun _ _ => rfl) ?_
              refine mx_J.step (sn_161 18) (fun _ _ => rfl) ?_
              refine Jiadd (show mx_Sn _ _ 19 (mx_iadd 20) from sn_161 19) ?_
              obtain ⟨z7, hc7, b7⟩ := ct_292_4100 (d := d + 0) (l := l) (D := D) (b0 := b0) (ad := ad) (Hb := Hb) (tau := tau) hx hG (show 0 ≤ w1_2 + w6_3 ∧ w1_2 + w6_3 ≤ 76 by omega)
              refine Jck (show mx_Sn _ _ 20 (mx_callk 292 2 23) from sn_161 20) rfl hc7 rfl rfl rfl ?_
              refine JcI (z := 32) (show mx_Sn _ _ 23 (mx_const (.int 32) 25) from sn_161 23) rfl ?_
              have c69 : w1_2 + w6_3 ≤ 76 → mx_J (tB l D b0 ad Hb tau) mt_161 (d + 4) 69 [some (.ref 56), some (xI w1_1), some (xI w1_2), some (xI w6_3)] [] h Post := by
                intro f8_0
                refine mx_J.step (sn_161 69) (fun _ _ => rfl) ?_
                refine mx_J.step (sn_161 71) (fun _ _ => rfl) ?_
                refine mx_J.step (sn_161 72) (fun _ _ => rfl) ?_
                refine Jiadd (show mx_Sn _ _ 73 (mx_iadd 74) from sn_161 73) ?_
                obtain ⟨z9, hc9, b9⟩ := ct_292_4100 (d := d + 0) (l := l) (D := D) (b0 := b0) (ad := ad) (Hb := Hb) (tau := tau) hx hG (show 0 ≤ w1_2 + w6_3 ∧ w1_2 + w6_3 ≤ 76 by omega)
                refine Jck (show mx_Sn _ _ 74 (mx_callk 292 2 77) from sn_161 74) rfl hc9 rfl rfl rfl ?_
                refine JcI (z := 32) (show mx_Sn _ _ 77 (mx_const (.int 32) 79) from sn_161 77) rfl ?_
                have c97 : ∀ (m10 : Nat) (w10_2 : Int), 76 - w10_2 < (m10 : Int) → 1 ≤ w10_2 ∧ w10_2 ≤ 76 → w1_1 < w10_2 → mx_J (tB l D b0 ad Hb tau) mt_161 (d + 4) 97 [some (.ref 56), some (xI w1_1), some (xI w10_2), some (xI w6_3)] [] h Post := by
                  intro m10
                  induction m10 with
                  | zero => intro w10_2 q10 f10_0 f10_1; exact absurd q10 (by omega)
                  | succ m10 ih10 =>
                    intro w10_2 q10 f10_0 f10_1
                    refine mx_J.step (sn_161 97) (fun _ _ => rfl) ?_
                    refine mx_J.step (sn_161 99) (fun _ _ => rfl) ?_
                    obtain ⟨z11, hc11, b11⟩ := ct_292_4100 (d := d + 0) (l := l) (D := D) (b0 := b0) (ad := ad) (Hb := Hb) (tau := tau) hx hG (show 0 ≤ w10_2 ∧ w10_2 ≤ 76 by omega)
                    refine Jck (show mx_Sn _ _ 100 (mx_callk 292 2 103) from sn_161 100) rfl hc11 rfl rfl rfl ?_
                    refine JcI (z := 32) (show mx_Sn _ _ 103 (mx_const (.int 32) 105) from sn_161 103) rfl ?_
                    refine Jicmp_eq (show mx_Sn _ _ 105 (mx_icmp_eq 114 108) from sn_161 105) (by omega) (by omega) (fun q12 => ?_) (fun q12 => ?_)
                    · skip
                      refine Jiinc (z := w10_2) (cz := 1) (ls2 := [some (.ref 56), some (xI w1_1), some (xI (w10_2 + 1)), some (xI w6_3)]) (show mx_Sn _ _ 114 (mx_iinc 2 1 117) from sn_161 114) rfl rfl rfl rfl ?_
                      refine Jiinc (z := w1_1) (cz := 1) (ls2 := [some (.ref 56), some (xI (w1_1 + 1)), some (xI (w10_2 + 1)), some (xI w6_3)]) (show mx_Sn _ _ 117 (mx_iinc 1 1 120) from sn_161 117) rfl rfl rfl rfl ?_
                      refine mx_J.step (sn_161 120) (fun _ _ => rfl) ?_
                      exact ih1 (w1_1 + 1) (w10_2 + 1) (some (xI w6_3)) (by omega) (by omega) (by omega) (by omega)
                    · skip
                      refine Jiinc (z := w10_2) (cz := 1) (ls2 := [some (.ref 56), some (xI w1_1), some (xI (w10_2 + 1)), some (xI w6_3)]) (show mx_Sn _ _ 108 (mx_iinc 2 1 111) from sn_161 108) rfl rfl rfl rfl ?_
                      refine mx_J.step (sn_161 111) (fun _ _ => rfl) ?_
                      exact ih10 (w10_2 + 1) (by omega) (by omega) (by omega)
                refine Jicmp_ne (show mx_Sn _ _ 79 (mx_icmp_ne 97 82) from sn_161 79) (by omega) (by omega) (fun q13 => ?_) (fun q13 => ?_)
                · skip
                  exact c97 (Int.toNat (76 - w1_2) + 1) w1_2 (by omega) (by omega) (by omega)
                · skip
                  refine mx_J.step (sn_161 82) (fun _ _ => rfl) ?_
                  have b15 : 0 ≤ Z 56 6 ∧ Z 56 6 ≤ 900 := hG.pr 56 6
                  refine JgetI (g := 6) (z := Z 56 6) hx (show mx_Sn _ _ 83 (mx_getf 12 6 86) from sn_161 83) a56 s56 rfl rfl rfl ?_
                  refine mx_J.step (sn_161 86) (fun _ _ => rfl) ?_
                  refine Jiadd (show mx_Sn _ _ 87 (mx_iadd 88) from sn_161 87) ?_
                  refine mx_J.step (sn_161 88) (fun _ _ => rfl) ?_
                  have b17 : 0 ≤ Z 56 7 ∧ Z 56 7 ≤ 900 := hG.pr 56 7
                  refine JgetI (g := 7) (z := Z 56 7) hx (show mx_Sn _ _ 89 (mx_getf 12 7 92) from sn_161 89) a56 s56 rfl rfl rfl ?_
                  refine Jicmp_ne (show mx_Sn _ _ 92 (mx_icmp_ne 97 95) from sn_161 92) (by omega) (by omega) (fun q18 => ?_) (fun q18 => ?_)
                  · skip
                    exact c97 (Int.toNat (76 - w1_2) + 1) w1_2 (by omega) (by omega) (by omega)
                  · skip
                    refine mx_J.step (sn_161 95) (fun _ _ => rfl) ?_
                    have b19 : 0 ≤ Z 56 7 ∧ Z 56 7 ≤ 900 := hG.pr 56 7
                    have b20 : 0 ≤ Z 56 8 ∧ Z 56 8 ≤ 900 := hG.pr 56 8
                    exact mx_J.ret (sn_161 96) (fun _ _ => rfl) (hP w1_1 (by omega))
              refine Jicmp_eq (show mx_Sn _ _ 25 (mx_icmp_eq 69 28) from sn_161 25) (by omega) (by omega) (fun q21 => ?_) (fun q21 => ?_)
              · skip
                exact c69 (by omega)
              · skip
                refine mx_J.step (sn_161 28) (fun _ _ => rfl) ?_
                have b23 : 0 ≤ Z 56 6 ∧ Z 56 6 ≤ 900 := hG.pr 56 6
                refine JgetI (g := 6) (z := Z 56 6) hx (show mx_Sn _ _ 29 (mx_getf 12 6 32) from sn_161 29) a56 s56 rfl rfl rfl ?_
                refine mx_J.step (sn_161 32) (fun _ _ => rfl) ?_
                refine Jiadd (show mx_Sn _ _ 33 (mx_iadd 34) from sn_161 33) ?_
                refine mx_J.step (sn_161 34) (fun _ _ => rfl) ?_
                have b25 : 0 ≤ Z 56 7 ∧ Z 56 7 ≤ 900 := hG.pr 56 7
                refine JgetI (g := 7) (z := Z 56 7) hx (show mx_Sn _ _ 35 (mx_getf 12 7 38) from sn_161 35) a56 s56 rfl rfl rfl ?_
                refine Jicmp_ge (show mx_Sn _ _ 38 (mx_icmp_ge 69 41) from sn_161 38) (by omega) (by omega) (fun q26 => ?_) (fun q26 => ?_)
                · skip
                  exact c69 (by omega)
                · skip
                  refine mx_J.step (sn_161 41) (fun _ _ => rfl) ?_
                  refine JgetR (g := 3) (b := 59) hx (show mx_Sn _ _ 42 (mx_getf 12 3 45) from sn_161 42) a56 s56 rfl rfl (hG.prr 56 3 rfl) ?_
                  refine mx_J.step (sn_161 45) (fun _ _ => rfl) ?_
                  have b29 : 0 ≤ Z 56 6 ∧ Z 56 6 ≤ 900 := hG.pr 56 6
                  refine JgetI (g := 6) (z := Z 56 6) hx (show mx_Sn _ _ 46 (mx_getf 12 6 49) from sn_161 46) a56 s56 rfl rfl rfl ?_
                  refine mx_J.step (sn_161 49) (fun _ _ => rfl) ?_
                  refine Jiadd (show mx_Sn _ _ 50 (mx_iadd 51) from sn_161 50) ?_
                  have b30 : 0 ≤ Z 59 ((Z 56 6) + w6_3) ∧ Z 59 ((Z 56 6) + w6_3) ≤ 255 := hG.pr 59 ((Z 56 6) + w6_3)
                  refine JialdI (z := Z 59 ((Z 56 6) + w6_3)) hx (show mx_Sn _ _ 51 (mx_iald 52) from sn_161 51) a59 s59 (by omega) rfl ?_
                  refine mx_J.step (sn_161 52) (fun _ _ => rfl) ?_
                  refine mx_J.step (sn_161 54) (fun _ _ => rfl) ?_
                  refine mx_J.step (sn_161 55) (fun _ _ => rfl) ?_
                  refine Jiadd (show mx_Sn _ _ 56 (mx_iadd 57) from sn_161 56) ?_
                  obtain ⟨z31, hc31, b31⟩ := ct_292_4100 (d := d + 0) (l := l) (D := D) (b0 := b0) (ad := ad) (Hb := Hb) (tau := tau) hx hG (show 0 ≤ w1_2 + w6_3 ∧ w1_2 + w6_3 ≤ 76 by omega)
                  refine Jck (show mx_Sn _ _ 57 (mx_callk 292 2 60) from sn_161 57) rfl hc31 rfl rfl rfl ?_
                  refine Jicmp_ne (show mx_Sn _ _ 60 (mx_icmp_ne 69 63) from sn_161 60) (by omega) (by omega) (fun q32 => ?_) (fun q32 => ?_)
                  · skip
                    exact c69 (by omega)
                  · skip
                    refine Jiinc (z := w6_3) (cz := 1) (ls2 := [some (.ref 56), some (xI w1_1), some (xI w1_2), some (xI (w6_3 + 1))]) (show mx_Sn _ _ 63 (mx_iinc 3 1 66) from sn_161 63) rfl rfl rfl rfl ?_
                    refine mx_J.step (sn_161 66) (fun _ _ => rfl) ?_
                    exact ih6 (w6_3 + 1) (by omega) (by omega) (by omega)
          exact c15 (Int.toNat (75 - 0) + 1) 0 (by omega) (by omega) (by omega)
    exact c4 (Int.toNat (77 - 0) + 1) 0 1 none (by omega) (by omega) (by omega) (by omega)
theorem ct_161_56 {l : Launch} {D : va_G} {b0 : Nat} {ad : Nat → Nat} {Hb : Heap} {tau : Nat → Int64} {d n s : Nat} {S : Nat → xS} {Z : xZ} {h : mx_H} (hx : XH n s S Z h) (hG : GI n S Z)   (k0 : Z 56 7 ≤ Z 56 8) : ∃ z : Int, mx_Ca (tB l D b0 ad Hb tau) (d + 5) 161 [.ref 56] h (some (xI z), h) ∧ (0 ≤ z ∧ z ≤ 77) := by
  obtain ⟨r, hca, z, e, hp⟩ := Jmt (B := tB l D b0 ad Hb tau) (M := mt_161) (mi := 161) (as := [.ref 56]) (d := d + 4) (ls := [some (.ref 56), none, none, none]) rfl rfl rfl rfl rfl rfl (cw_161_56 (l := l) (D := D) (b0 := b0) (ad := ad) (Hb := Hb) (tau := tau) (d := d) (Post := fun r => ∃ z : Int, r = (some (xI z), h) ∧ (0 ≤ z ∧ z ≤ 77)) hx hG k0 (fun z hz => ⟨z, rfl, hz⟩))
  subst e; exact ⟨z, hca, hp⟩
set_option maxRecDepth 100000 in
theorem cw_162_56 {l : Launch} {D : va_G} {b0 : Nat} {ad : Nat → Nat} {Hb : Heap} {tau : Nat → Int64} {d n s : Nat} {S : Nat → xS} {Z : xZ} {h : mx_H} {Post : mx_R → Prop} (hx : XH n s S Z h) (hG : GI n S Z)   (k0 : Z 56 7 ≤ Z 56 8) (hP : ∀ (Z' : xZ) (h' : mx_H), XH n s S Z' h' → GI n S Z' → fr' [(56, 6), (56, 7), (56, 9), (56, 10)] Z Z' → ((Z' 56 6 ≤ Z' 56 7 ∧ Z' 56 7 ≤ Z 56 8 ∧ (Z' 56 9 = 24 ∨ Z' 56 6 < Z' 56 7)) ∧ Z 56 7 ≤ Z' 56 6) → Post (none, h')) : mx_J (tB l D b0 ad Hb tau) mt_162 (d + 5) 0 [some (.ref 56), none] [] h Post := by
    have a56 : 56 < n := lt83 (GI_n hG) rfl
    have s56 : S 56 = .inl (12, [0, 2, 2, 2, 2, 0, 0, 0, 0, 0, 0, 0, 0, 0, 0, 2, 2, 2, 0, 2, 2, 2, 0, 0, 2, 2, 2, 2, 2, 2, 0, 0, 2, 2, 2, 2, 2, 2, 2, 2, 2, 2]) := GI_s hG 56 rfl
    refine mx_J.step (sn_162 0) (fun _ _ => rfl) ?_
    refine mx_J.step (sn_162 1) (fun _ _ => rfl) ?_
    have b2 : 0 ≤ Z 56 7 ∧ Z 56 7 ≤ 900 := hG.pr 56 7
    refine JgetI (g := 7) (z := Z 56 7) hx (show mx_Sn _ _ 2 (mx_getf 12 7 5) from sn_162 2) a56 s56 rfl rfl rfl ?_
    refine JputI (g := 6) hx (show mx_Sn _ _ 5 (mx_putf 1 12 6 (.int) 8) from sn_162 5) a56 s56 rfl rfl rfl rfl (fun Z3 h3 hx3 hE3 => ?_)
    have hG3 := GI_up hG hE3 (show 0 ≤ Z 56 7 ∧ Z 56 7 ≤ 900 by omega) trivial rfl
    have c8 : ∀ (m4 : Nat)  (Z5 : xZ) (h5 : mx_H), Z 56 8 - Z5 56 6 < (m4 : Int) → (Z5 56 6 ≤ Z 56 8 ∧ Z 56 7 ≤ Z5 56 6) → XH n s S Z5 h5 → GI n S Z5 → fr' [(56, 6)] Z3 Z5 → mx_J (tB l D b0 ad Hb tau) mt_162 (d + 5) 8 [some (.ref 56), none] [] h5 Post := by
      intro m4
      induction m4 with
      | zero => intro Z5 h5 q4 f4_0 hx5 hG5 hf5; exact absurd q4 (by omega)
      | succ m4 ih4 =>
        intro Z5 h5 q4 f4_0 hx5 hG5 hf5
        have b6 : 0 ≤ Z5 56 6 ∧ Z5 56 6 ≤ 900 := hG5.pr 56 6
        have b7 : 0 ≤ Z5 56 6 ∧ Z5 56 6 ≤ 900 := hG5.pr 56 6
        refine mx_J.step (sn_162 8) (fun _ _ => rfl) ?_
        refine mx_J.step (sn_162 9) (fun _ _ => rfl) ?_
        have b9 : 0 ≤ Z5 56 6 ∧ Z5 56 6 ≤ 900 := hG5.pr 56 6
        refine JgetI (g := 6) (z := Z5 56 6) hx5 (show mx_Sn _ _ 10 (mx_getf 12 6 13) from sn_162 10) a56 s56 rfl rfl rfl ?_
        have eq11 : Z5 56 8 = Z 56 8 := ((hf5 56 8 rfl).trans (up_ni hE3 (by decide)))
        have b12 : 0 ≤ Z 56 8 ∧ Z 56 8 ≤ 900 := hG.pr 56 8
        have eq13 : Z5 59 (Z5 56 6) = Z 59 (Z5 56 6) := ((hf5 59 (Z5 56 6) rfl).trans (up_nk hE3 rfl))
        have b14 : 0 ≤ Z 59 (Z5 56 6) ∧ Z 59 (Z5 56 6) ≤ 255 := hG.pr 59 (Z5 56 6)
        obtain ⟨z10, hc10, b10⟩ := ct_158_56 (d := d + 4) (l := l) (D := D) (b0 := b0) (ad := ad) (Hb := Hb) (tau := tau) hx5 hG5 (show 0 ≤ Z5 56 6 ∧ Z5 56 6 ≤ 901 by omega)
        try rw [eq11] at b10
        try rw [eq13] at b10
        refine Jcv hx5 (show mx_Sn _ _ 13 (mx_callv 158 2 12 16) from sn_162 13) a56 s56 hc10 rfl rfl rfl ?_
        refine JcI (z := 10) (show mx_Sn _ _ 16 (mx_const (.int 10) 18) from sn_162 16) rfl ?_
        have c34 : (Z5 56 6 < Z 56 8) → mx_J (tB l D b0 ad Hb tau) mt_162 (d + 5) 34 [some (.ref 56), none] [] h5 Post := by
          intro f15_0
          refine mx_J.step (sn_162 34) (fun _ _ => rfl) ?_
          refine mx_J.step (sn_162 35) (fun _ _ => rfl) ?_
          have b17 : 0 ≤ Z5 56 6 ∧ Z5 56 6 ≤ 900 := hG5.pr 56 6
          refine JgetI (g := 6) (z := Z5 56 6) hx5 (show mx_Sn _ _ 36 (mx_getf 12 6 39) from sn_162 36) a56 s56 rfl rfl rfl ?_
          refine JcI (z := 1) (show mx_Sn _ _ 39 (mx_const (.int 1) 40) from sn_162 39) rfl ?_
          refine Jiadd (show mx_Sn _ _ 40 (mx_iadd 41) from sn_162 40) ?_
          refine JputI (g := 6) hx5 (show mx_Sn _ _ 41 (mx_putf 1 12 6 (.int) 44) from sn_162 41) a56 s56 rfl rfl rfl rfl (fun Z18 h18 hx18 hE18 => ?_)
          have hG18 := GI_up hG5 hE18 (show 0 ≤ (Z5 56 6) + 1 ∧ (Z5 56 6) + 1 ≤ 900 by omega) trivial rfl
          refine mx_J.step (sn_162 44) (fun _ _ => rfl) ?_
          have eq19 : Z18 56 6 = (Z5 56 6) + 1 := (up_at hE18)
          have eq20 : Z18 56 6 = (Z5 56 6) + 1 := (up_at hE18)
          exact ih4 Z18 h18 (by omega) (by omega) hx18 hG18 (fr_tr (M := [(56, 6)]) (fr_tr (M := [(56, 6)]) fr_rf (hf5) (M1 := []) rfl rfl) (fr_up hE18) rfl rfl)
        refine Jicmp_eq (show mx_Sn _ _ 18 (mx_icmp_eq 34 21) from sn_162 18) (by omega) (by omega) (fun q21 => ?_) (fun q21 => ?_)
        · skip
          exact c34 (by omega)
        · skip
          refine mx_J.step (sn_162 21) (fun _ _ => rfl) ?_
          refine mx_J.step (sn_162 22) (fun _ _ => rfl) ?_
          have b23 : 0 ≤ Z5 56 6 ∧ Z5 56 6 ≤ 900 := hG5.pr 56 6
          refine JgetI (g := 6) (z := Z5 56 6) hx5 (show mx_Sn _ _ 23 (mx_getf 12 6 26) from sn_162 23) a56 s56 rfl rfl rfl ?_
          have eq25 : Z5 56 8 = Z 56 8 := ((hf5 56 8 rfl).trans (up_ni hE3 (by decide)))
          have b26 : 0 ≤ Z 56 8 ∧ Z 56 8 ≤ 900 := hG.pr 56 8
          have eq27 : Z5 59 (Z5 56 6) = Z 59 (Z5 56 6) := ((hf5 59 (Z5 56 6) rfl).trans (up_nk hE3 rfl))
          have b28 : 0 ≤ Z 59 (Z5 56 6) ∧ Z 59 (Z5 56 6) ≤ 255 := hG.pr 59 (Z5 56 6)
          obtain ⟨z24, hc24, b24⟩ := ct_158_56 (d := d + 4) (l := l) (D := D) (b0 := b0) (ad := ad) (Hb := Hb) (tau := tau) hx5 hG5 (show 0 ≤ Z5 56 6 ∧ Z5 56 6 ≤ 901 by omega)
          try rw [eq25] at b24
          try rw [eq27] at b24
          refine Jcv hx5 (show mx_Sn _ _ 26 (mx_callv 158 2 12 29) from sn_162 26) a56 s56 hc24 rfl rfl rfl ?_
          refine JcI (z := 32) (show mx_Sn _ _ 29 (mx_const (.int 32) 31) from sn_162 29) rfl ?_
          refine Jicmp_ne (show mx_Sn _ _ 31 (mx_icmp_ne 47 34) from sn_162 31) (by omega) (by omega) (fun q29 => ?_) (fun q29 => ?_)
          · skip
            refine mx_J.step (sn_162 47) (fun _ _ => rfl) ?_
            refine mx_J.step (sn_162 48) (fun _ _ => rfl) ?_
            have b31 : 0 ≤ Z5 56 6 ∧ Z5 56 6 ≤ 900 := hG5.pr 56 6
            refine JgetI (g := 6) (z := Z5 56 6) hx5 (show mx_Sn _ _ 49 (mx_getf 12 6 52) from sn_162 49) a56 s56 rfl rfl rfl ?_
            refine JputI (g := 7) hx5 (show mx_Sn _ _ 52 (mx_putf 1 12 7 (.int) 55) from sn_162 52) a56 s56 rfl rfl rfl rfl (fun Z32 h32 hx32 hE32 => ?_)
            have hG32 := GI_up hG5 hE32 (show 0 ≤ Z5 56 6 ∧ Z5 56 6 ≤ 900 by omega) trivial rfl
            refine mx_J.step (sn_162 55) (fun _ _ => rfl) ?_
            have b34 : 0 ≤ Z5 56 6 ∧ Z5 56 6 ≤ 900 := hG5.pr 56 6
            refine JgetI (g := 6) (z := Z5 56 6) hx32 (show mx_Sn _ _ 56 (mx_getf 12 6 59) from sn_162 56) a56 s56 rfl rfl (up_ni hE32 (by decide)) ?_
            refine mx_J.step (sn_162 59) (fun _ _ => rfl) ?_
            have b36 : 0 ≤ Z 56 8 ∧ Z 56 8 ≤ 900 := hG.pr 56 8
            refine JgetI (g := 8) (z := Z 56 8) hx32 (show mx_Sn _ _ 60 (mx_getf 12 8 63) from sn_162 60) a56 s56 rfl rfl ((up_ni hE32 (by decide)).trans ((hf5 56 8 rfl).trans (up_ni hE3 (by decide)))) ?_
            have c294 : ∀ (u37_1 : Option Value) (Z38 : xZ) (h38 : mx_H), (Z38 56 6 ≤ Z38 56 7 ∧ Z38 56 7 ≤ Z 56 8 ∧ Z 56 7 ≤ Z38 56 6 ∧ (Z38 56 9 = 24 ∨ Z38 56 6 < Z38 56 7)) → XH n s S Z38 h38 → GI n S Z38 → fr' [(56, 7), (56, 9), (56, 10)] Z32 Z38 → mx_J (tB l D b0 ad Hb tau) mt_162 (d + 5) 294 [some (.ref 56), u37_1] [] h38 Post := by
              intro u37_1 Z38 h38 f37_0 hx38 hG38 hf38
              have eq39 : Z38 56 6 = Z5 56 6 := ((hf38 56 6 rfl).trans (up_ni hE32 (by decide)))
              have b40 : 0 ≤ Z5 56 6 ∧ Z5 56 6 ≤ 900 := hG5.pr 56 6
              have b41 : 0 ≤ Z38 56 7 ∧ Z38 56 7 ≤ 900 := hG38.pr 56 7
              have b42 : 0 ≤ Z38 56 9 ∧ Z38 56 9 ≤ 100 := hG38.pr 56 9
              have eq43 : Z38 56 6 = Z5 56 6 := ((hf38 56 6 rfl).trans (up_ni hE32 (by decide)))
              have b44 : 0 ≤ Z5 56 6 ∧ Z5 56 6 ≤ 900 := hG5.pr 56 6
              have b45 : 0 ≤ Z38 56 7 ∧ Z38 56 7 ≤ 900 := hG38.pr 56 7
              have b46 : 0 ≤ Z38 56 9 ∧ Z38 56 9 ≤ 100 := hG38.pr 56 9
              have b47 : 0 ≤ Z38 56 7 ∧ Z38 56 7 ≤ 900 := hG38.pr 56 7
              have eq48 : Z38 56 8 = Z 56 8 := ((hf38 56 8 rfl).trans ((up_ni hE32 (by decide)).trans ((hf5 56 8 rfl).trans (up_ni hE3 (by decide)))))
              have b49 : 0 ≤ Z 56 8 ∧ Z 56 8 ≤ 900 := hG.pr 56 8
              exact mx_J.ret (sn_162 294) (fun _ _ => rfl) (hP Z38 h38 hx38 hG38 (fr_tr (M := [(56, 6), (56, 7), (56, 9), (56, 10)]) (fr_tr (M := [(56, 6), (56, 7), (56, 9), (56, 10)]) (fr_tr (M := [(56, 6), (56, 7), (56, 9), (56, 10)]) (fr_tr (M := [(56, 6), (56, 7), (56, 9), (56, 10)]) fr_rf (fr_up hE3) (M1 := []) rfl rfl) (hf5) rfl rfl) (fr_up hE32) rfl rfl) (hf38) rfl rfl) (by omega))
            refine Jicmp_lt (show mx_Sn _ _ 63 (mx_icmp_lt 75 66) from sn_162 63) (by omega) (by omega) (fun q50 => ?_) (fun q50 => ?_)
            · skip
              refine mx_J.step (sn_162 75) (fun _ _ => rfl) ?_
              refine mx_J.step (sn_162 76) (fun _ _ => rfl) ?_
              have b52 : 0 ≤ Z5 56 6 ∧ Z5 56 6 ≤ 900 := hG5.pr 56 6
              refine JgetI (g := 6) (z := Z5 56 6) hx32 (show mx_Sn _ _ 77 (mx_getf 12 6 80) from sn_162 77) a56 s56 rfl rfl (up_ni hE32 (by decide)) ?_
              have eq54 : Z32 56 8 = Z 56 8 := ((up_ni hE32 (by decide)).trans ((hf5 56 8 rfl).trans (up_ni hE3 (by decide))))
              have b55 : 0 ≤ Z 56 8 ∧ Z 56 8 ≤ 900 := hG.pr 56 8
              have eq56 : Z32 59 (Z5 56 6) = Z 59 (Z5 56 6) := ((up_nk hE32 rfl).trans ((hf5 59 (Z5 56 6) rfl).trans (up_nk hE3 rfl)))
              have b57 : 0 ≤ Z 59 (Z5 56 6) ∧ Z 59 (Z5 56 6) ≤ 255 := hG.pr 59 (Z5 56 6)
              obtain ⟨z53, hc53, b53⟩ := ct_158_56 (d := d + 4) (l := l) (D := D) (b0 := b0) (ad := ad) (Hb := Hb) (tau := tau) hx32 hG32 (show 0 ≤ Z5 56 6 ∧ Z5 56 6 ≤ 901 by omega)
              try rw [eq54] at b53
              try rw [eq56] at b53
              refine Jcv hx32 (show mx_Sn _ _ 80 (mx_callv 158 2 12 83) from sn_162 80) a56 s56 hc53 rfl rfl rfl ?_
              obtain ⟨z58, hc58, b58⟩ := ct_159_ (d := d + 4) (l := l) (D := D) (b0 := b0) (ad := ad) (Hb := Hb) (tau := tau) hx32 hG32 (show (-2147483648) ≤ z53 ∧ z53 ≤ 2147483647 by omega)
              refine Jcs (show mx_Sn _ _ 83 (mx_calls 159 1 86) from sn_162 83) hc58 rfl rfl rfl ?_
              refine Jif_eq (show mx_Sn _ _ 86 (mx_if_eq 127 89) from sn_162 86) (by omega) (fun q59 => ?_) (fun q59 => ?_)
              · skip
                refine mx_J.step (sn_162 127) (fun _ _ => rfl) ?_
                refine mx_J.step (sn_162 128) (fun _ _ => rfl) ?_
                have b61 : 0 ≤ Z5 56 6 ∧ Z5 56 6 ≤ 900 := hG5.pr 56 6
                refine JgetI (g := 6) (z := Z5 56 6) hx32 (show mx_Sn _ _ 129 (mx_getf 12 6 132) from sn_162 129) a56 s56 rfl rfl (up_ni hE32 (by decide)) ?_
                have eq63 : Z32 56 8 = Z 56 8 := ((up_ni hE32 (by decide)).trans ((hf5 56 8 rfl).trans (up_ni hE3 (by decide))))
                have b64 : 0 ≤ Z 56 8 ∧ Z 56 8 ≤ 900 := hG.pr 56 8
                have eq65 : Z32 59 (Z5 56 6) = Z 59 (Z5 56 6) := ((up_nk hE32 rfl).trans ((hf5 59 (Z5 56 6) rfl).trans (up_nk hE3 rfl)))
                have b66 : 0 ≤ Z 59 (Z5 56 6) ∧ Z 59 (Z5 56 6) ≤ 255 := hG.pr 59 (Z5 56 6)
                obtain ⟨z62, hc62, b62⟩ := ct_158_56 (d := d + 4) (l := l) (D := D) (b0 := b0) (ad := ad) (Hb := Hb) (tau := tau) hx32 hG32 (show 0 ≤ Z5 56 6 ∧ Z5 56 6 ≤ 901 by omega)
                try rw [eq63] at b62
                try rw [eq65] at b62
                refine Jcv hx32 (show mx_Sn _ _ 132 (mx_callv 158 2 12 135) from sn_162 132) a56 s56 hc62 rfl rfl rfl ?_
                obtain ⟨z67, hc67, b67⟩ := ct_160_ (d := d + 4) (l := l) (D := D) (b0 := b0) (ad := ad) (Hb := Hb) (tau := tau) hx32 hG32 (show (-2147483648) ≤ z62 ∧ z62 ≤ 2147483647 by omega)
                refine Jcs (show mx_Sn _ _ 135 (mx_calls 160 1 138) from sn_162 135) hc67 rfl rfl rfl ?_
                refine Jif_eq (show mx_Sn _ _ 138 (mx_if_eq 236 141) from sn_162 138) (by omega) (fun q68 => ?_) (fun q68 => ?_)
                · skip
                  refine mx_J.step (sn_162 236) (fun _ _ => rfl) ?_
                  refine mx_J.step (sn_162 237) (fun _ _ => rfl) ?_
                  refine JgetI (g := 7) (z := Z5 56 6) hx32 (show mx_Sn _ _ 238 (mx_getf 12 7 241) from sn_162 238) a56 s56 rfl rfl (up_at hE32) ?_
                  refine JcI (z := 1) (show mx_Sn _ _ 241 (mx_const (.int 1) 242) from sn_162 241) rfl ?_
                  refine Jiadd (show mx_Sn _ _ 242 (mx_iadd 243) from sn_162 242) ?_
                  refine JputI (g := 7) hx32 (show mx_Sn _ _ 243 (mx_putf 1 12 7 (.int) 246) from sn_162 243) a56 s56 rfl rfl rfl rfl (fun Z70 h70 hx70 hE70 => ?_)
                  have hG70 := GI_up hG32 hE70 (show 0 ≤ (Z5 56 6) + 1 ∧ (Z5 56 6) + 1 ≤ 900 by omega) trivial rfl
                  refine mx_J.step (sn_162 246) (fun _ _ => rfl) ?_
                  refine JcI (z := 25) (show mx_Sn _ _ 247 (mx_const (.int 25) 249) from sn_162 247) rfl ?_
                  refine JputI (g := 9) hx70 (show mx_Sn _ _ 249 (mx_putf 1 12 9 (.int) 252) from sn_162 249) a56 s56 rfl rfl rfl rfl (fun Z71 h71 hx71 hE71 => ?_)
                  have hG71 := GI_up hG70 hE71 (show 0 ≤ 25 ∧ 25 ≤ 100 by omega) trivial rfl
                  refine JcI (z := 0) (show mx_Sn _ _ 252 (mx_const (.int 0) 253) from sn_162 252) rfl ?_
                  refine mx_J.step (ls2 := [some (.ref 56), some (xI 0)]) (sn_162 253) (fun _ _ => rfl) ?_
                  have c254 : ∀ (m72 : Nat) (w72_1 : Int) (Z73 : xZ) (h73 : mx_H), 12 - w72_1 < (m72 : Int) → 0 ≤ w72_1 ∧ w72_1 ≤ 12 → XH n s S Z73 h73 → GI n S Z73 → fr' [(56, 9)] Z71 Z73 → mx_J (tB l D b0 ad Hb tau) mt_162 (d + 5) 254 [some (.ref 56), some (xI w72_1)] [] h73 Post := by
                    intro m72
                    induction m72 with
                    | zero => intro w72_1 Z73 h73 q72 f72_0 hx73 hG73 hf73; exact absurd q72 (by omega)
                    | succ m72 ih72 =>
                      intro w72_1 Z73 h73 q72 f72_0 hx73 hG73 hf73
                      refine mx_J.step (sn_162 254) (fun _ _ => rfl) ?_
                      refine mx_J.step (sn_162 255) (fun _ _ => rfl) ?_
                      obtain ⟨z74, hc74, b74⟩ := ct_291_4102 (d := d + 3) (l := l) (D := D) (b0 := b0) (ad := ad) (Hb := Hb) (tau := tau) hx73 hG73 
                      refine Jck (show mx_Sn _ _ 257 (mx_callk 291 1 260) from sn_162 257) rfl hc74 rfl rfl rfl ?_
                      refine Jicmp_ge (show mx_Sn _ _ 260 (mx_icmp_ge 294 263) from sn_162 260) (by omega) (by omega) (fun q75 => ?_) (fun q75 => ?_)
                      · skip
                        have eq76 : Z73 56 6 = Z5 56 6 := ((hf73 56 6 rfl).trans ((up_ni hE71 (by decide)).trans ((up_ni hE70 (by decide)).trans (up_ni hE32 (by decide)))))
                        have b77 : 0 ≤ Z5 56 6 ∧ Z5 56 6 ≤ 900 := hG5.pr 56 6
                        have eq78 : Z73 56 7 = (Z5 56 6) + 1 := ((hf73 56 7 rfl).trans ((up_ni hE71 (by decide)).trans (up_at hE70)))
                        have b79 : 0 ≤ Z73 56 9 ∧ Z73 56 9 ≤ 100 := hG73.pr 56 9
                        exact c294 (some (xI w72_1)) Z73 h73 (by omega) hx73 hG73 (fr_tr (M := [(56, 7), (56, 9), (56, 10)]) (fr_tr (M := [(56, 7), (56, 9), (56, 10)]) (fr_tr (M := [(56, 7), (56, 9), (56, 10)]) fr_rf (fr_up hE70) (M1 := []) rfl rfl) (fr_up hE71) rfl rfl) (hf73) rfl rfl)
                      · skip
                        refine mx_J.step (sn_162 263) (fun _ _ => rfl) ?_
                        refine mx_J.step (sn_162 264) (fun _ _ => rfl) ?_
                        have b81 : 0 ≤ Z5 56 6 ∧ Z5 56 6 ≤ 900 := hG5.pr 56 6
                        refine JgetI (g := 6) (z := Z5 56 6) hx73 (show mx_Sn _ _ 265 (mx_getf 12 6 268) from sn_162 265) a56 s56 rfl rfl ((hf73 56 6 rfl).trans ((up_ni hE71 (by decide)).trans ((up_ni hE70 (by decide)).trans (up_ni hE32 (by decide))))) ?_
                        have eq83 : Z73 56 8 = Z 56 8 := ((hf73 56 8 rfl).trans ((up_ni hE71 (by decide)).trans ((up_ni hE70 (by decide)).trans ((up_ni hE32 (by decide)).trans ((hf5 56 8 rfl).trans (up_ni hE3 (by decide)))))))
                        have b84 : 0 ≤ Z 56 8 ∧ Z 56 8 ≤ 900 := hG.pr 56 8
                        have eq85 : Z73 59 (Z5 56 6) = Z 59 (Z5 56 6) := ((hf73 59 (Z5 56 6) rfl).trans ((up_nk hE71 rfl).trans ((up_nk hE70 rfl).trans ((up_nk hE32 rfl).trans ((hf5 59 (Z5 56 6) rfl).trans (up_nk hE3 rfl))))))
                        have b86 : 0 ≤ Z 59 (Z5 56 6) ∧ Z 59 (Z5 56 6) ≤ 255 := hG.pr 59 (Z5 56 6)
                        obtain ⟨z82, hc82, b82⟩ := ct_158_56 (d := d + 4) (l := l) (D := D) (b0 := b0) (ad := ad) (Hb := Hb) (tau := tau) hx73 hG73 (show 0 ≤ Z5 56 6 ∧ Z5 56 6 ≤ 901 by omega)
                        try rw [eq83] at b82
                        try rw [eq85] at b82
                        refine Jcv hx73 (show mx_Sn _ _ 268 (mx_callv 158 2 12 271) from sn_162 268) a56 s56 hc82 rfl rfl rfl ?_
                        refine mx_J.step (sn_162 271) (fun _ _ => rfl) ?_
                        refine mx_J.step (sn_162 273) (fun _ _ => rfl) ?_
                        obtain ⟨z87, hc87, b87⟩ := ct_292_4102 (d := d + 1) (l := l) (D := D) (b0 := b0) (ad := ad) (Hb := Hb) (tau := tau) hx73 hG73 (show 0 ≤ w72_1 ∧ w72_1 ≤ 11 by omega)
                        refine Jck (show mx_Sn _ _ 274 (mx_callk 292 2 277) from sn_162 274) rfl hc87 rfl rfl rfl ?_
                        have c288 : ∀  (Z89 : xZ) (h89 : mx_H), XH n s S Z89 h89 → GI n S Z89 → fr' [(56, 9)] Z73 Z89 → mx_J (tB l D b0 ad Hb tau) mt_162 (d + 5) 288 [some (.ref 56), some (xI w72_1)] [] h89 Post := by
                          intro Z89 h89 hx89 hG89 hf89
                          refine Jiinc (z := w72_1) (cz := 1) (ls2 := [some (.ref 56), some (xI (w72_1 + 1))]) (show mx_Sn _ _ 288 (mx_iinc 1 1 291) from sn_162 288) rfl rfl rfl rfl ?_
                          refine mx_J.step (sn_162 291) (fun _ _ => rfl) ?_
                          exact ih72 (w72_1 + 1) Z89 h89 (by omega) (by omega) hx89 hG89 (fr_tr (M := [(56, 9)]) (fr_tr (M := [(56, 9)]) fr_rf (hf73) (M1 := []) rfl rfl) (hf89) rfl rfl)
                        refine Jicmp_ne (show mx_Sn _ _ 277 (mx_icmp_ne 288 280) from sn_162 277) (by omega) (by omega) (fun q90 => ?_) (fun q90 => ?_)
                        · skip
                          exact c288 Z73 h73 hx73 hG73 fr_rf
                        · skip
                          refine mx_J.step (sn_162 280) (fun _ _ => rfl) ?_
                          refine JcI (z := 30) (show mx_Sn _ _ 281 (mx_const (.int 30) 283) from sn_162 281) rfl ?_
                          refine mx_J.step (sn_162 283) (fun _ _ => rfl) ?_
                          refine Jiadd (show mx_Sn _ _ 284 (mx_iadd 285) from sn_162 284) ?_
                          refine JputI (g := 9) hx73 (show mx_Sn _ _ 285 (mx_putf 1 12 9 (.int) 288) from sn_162 285) a56 s56 rfl rfl rfl rfl (fun Z91 h91 hx91 hE91 => ?_)
                          have hG91 := GI_up hG73 hE91 (show 0 ≤ 30 + w72_1 ∧ 30 + w72_1 ≤ 100 by omega) trivial rfl
                          exact c288 Z91 h91 hx91 hG91 (fr_tr (M := [(56, 9)]) fr_rf (fr_up hE91) (M1 := []) rfl rfl)
                  exact c254 (Int.toNat (12 - 0) + 1) 0 Z71 h71 (by omega) (by omega) hx71 hG71 fr_rf
                · skip
                  refine mx_J.step (sn_162 141) (fun _ _ => rfl) ?_
                  refine JcI (z := 0) (show mx_Sn _ _ 142 (mx_const (.int 0) 143) from sn_162 142) rfl ?_
                  refine JputI (g := 10) hx32 (show mx_Sn _ _ 143 (mx_putf 1 12 10 (.int) 146) from sn_162 143) a56 s56 rfl rfl rfl rfl (fun Z92 h92 hx92 hE92 => ?_)
                  have hG92 := GI_up hG32 hE92 (show 0 ≤ 0 ∧ 0 ≤ 999 by omega) trivial rfl
                  have c146 : ∀ (m93 : Nat)  (Z94 : xZ) (h94 : mx_H), Z 56 8 - Z94 56 7 < (m93 : Int) → (Z94 56 6 ≤ Z94 56 7 ∧ Z94 56 7 ≤ Z 56 8 ∧ (Z94 56 6 < Z94 56 7 ∨ (48 ≤ Z 59 (Z5 56 6) ∧ Z 59 (Z5 56 6) ≤ 57)) ∧ (Z94 56 7 = Z94 56 6 → Z94 56 10 = 0) ∧ (Z94 56 7 ≤ Z94 56 6 + 1 → Z94 56 10 ≤ 9) ∧ (Z94 56 7 ≤ Z94 56 6 + 2 → Z94 56 10 ≤ 99)) → XH n s S Z94 h94 → GI n S Z94 → fr' [(56, 7), (56, 10)] Z92 Z94 → mx_J (tB l D b0 ad Hb tau) mt_162 (d + 5) 146 [some (.ref 56), none] [] h94 Post := by
                    intro m93
                    induction m93 with
                    | zero => intro Z94 h94 q93 f93_0 hx94 hG94 hf94; exact absurd q93 (by omega)
                    | succ m93 ih93 =>
                      intro Z94 h94 q93 f93_0 hx94 hG94 hf94
                      have eq95 : Z94 56 6 = Z5 56 6 := ((hf94 56 6 rfl).trans ((up_ni hE92 (by decide)).trans (up_ni hE32 (by decide))))
                      have b96 : 0 ≤ Z5 56 6 ∧ Z5 56 6 ≤ 900 := hG5.pr 56 6
                      have b97 : 0 ≤ Z94 56 7 ∧ Z94 56 7 ≤ 900 := hG94.pr 56 7
                      have b98 : 0 ≤ Z94 56 10 ∧ Z94 56 10 ≤ 999 := hG94.pr 56 10
                      have b99 : 0 ≤ Z94 56 7 ∧ Z94 56 7 ≤ 900 := hG94.pr 56 7
                      refine mx_J.step (sn_162 146) (fun _ _ => rfl) ?_
                      refine mx_J.step (sn_162 147) (fun _ _ => rfl) ?_
                      have b101 : 0 ≤ Z94 56 7 ∧ Z94 56 7 ≤ 900 := hG94.pr 56 7
                      refine JgetI (g := 7) (z := Z94 56 7) hx94 (show mx_Sn _ _ 148 (mx_getf 12 7 151) from sn_162 148) a56 s56 rfl rfl rfl ?_
                      have eq103 : Z94 56 8 = Z 56 8 := ((hf94 56 8 rfl).trans ((up_ni hE92 (by decide)).trans ((up_ni hE32 (by decide)).trans ((hf5 56 8 rfl).trans (up_ni hE3 (by decide))))))
                      have b104 : 0 ≤ Z 56 8 ∧ Z 56 8 ≤ 900 := hG.pr 56 8
                      have eq105 : Z94 59 (Z94 56 7) = Z 59 (Z94 56 7) := ((hf94 59 (Z94 56 7) rfl).trans ((up_nk hE92 rfl).trans ((up_nk hE32 rfl).trans ((hf5 59 (Z94 56 7) rfl).trans (up_nk hE3 rfl)))))
                      have b106 : 0 ≤ Z 59 (Z94 56 7) ∧ Z 59 (Z94 56 7) ≤ 255 := hG.pr 59 (Z94 56 7)
                      obtain ⟨z102, hc102, b102⟩ := ct_158_56 (d := d + 4) (l := l) (D := D) (b0 := b0) (ad := ad) (Hb := Hb) (tau := tau) hx94 hG94 (show 0 ≤ Z94 56 7 ∧ Z94 56 7 ≤ 901 by omega)
                      try rw [eq103] at b102
                      try rw [eq105] at b102
                      refine Jcv hx94 (show mx_Sn _ _ 151 (mx_callv 158 2 12 154) from sn_162 151) a56 s56 hc102 rfl rfl rfl ?_
                      have cg94 : (Z94 56 7) = (Z5 56 6) → Z 59 (Z94 56 7) = Z 59 (Z5 56 6) := fun e => by rw [e]
                      obtain ⟨z107, hc107, b107⟩ := ct_160_ (d := d + 4) (l := l) (D := D) (b0 := b0) (ad := ad) (Hb := Hb) (tau := tau) hx94 hG94 (show (-2147483648) ≤ z102 ∧ z102 ≤ 2147483647 by omega)
                      refine Jcs (show mx_Sn _ _ 154 (mx_calls 160 1 157) from sn_162 154) hc107 rfl rfl rfl ?_
                      refine Jif_eq (show mx_Sn _ _ 157 (mx_if_eq 209 160) from sn_162 157) (by omega) (fun q108 => ?_) (fun q108 => ?_)
                      · skip
                        refine mx_J.step (sn_162 209) (fun _ _ => rfl) ?_
                        refine mx_J.step (sn_162 210) (fun _ _ => rfl) ?_
                        have b110 : 0 ≤ Z94 56 7 ∧ Z94 56 7 ≤ 900 := hG94.pr 56 7
                        refine JgetI (g := 7) (z := Z94 56 7) hx94 (show mx_Sn _ _ 211 (mx_getf 12 7 214) from sn_162 211) a56 s56 rfl rfl rfl ?_
                        refine mx_J.step (sn_162 214) (fun _ _ => rfl) ?_
                        have b112 : 0 ≤ Z5 56 6 ∧ Z5 56 6 ≤ 900 := hG5.pr 56 6
                        refine JgetI (g := 6) (z := Z5 56 6) hx94 (show mx_Sn _ _ 215 (mx_getf 12 6 218) from sn_162 215) a56 s56 rfl rfl ((hf94 56 6 rfl).trans ((up_ni hE92 (by decide)).trans (up_ni hE32 (by decide)))) ?_
                        refine Jisub (show mx_Sn _ _ 218 (mx_isub 219) from sn_162 218) ?_
                        refine JcI (z := 3) (show mx_Sn _ _ 219 (mx_const (.int 3) 220) from sn_162 219) rfl ?_
                        have c230 : ∀ (k113_1 : Int), 23 ≤ k113_1 ∧ k113_1 ≤ 25 → mx_J (tB l D b0 ad Hb tau) mt_162 (d + 5) 230 [some (.ref 56), none] [xI k113_1, .ref 56] h94 Post := by
                          intro k113_1 f113_0
                          refine JputI (g := 9) hx94 (show mx_Sn _ _ 230 (mx_putf 1 12 9 (.int) 233) from sn_162 230) a56 s56 rfl rfl rfl rfl (fun Z114 h114 hx114 hE114 => ?_)
                          have hG114 := GI_up hG94 hE114 (show 0 ≤ k113_1 ∧ k113_1 ≤ 100 by omega) trivial rfl
                          refine mx_J.step (sn_162 233) (fun _ _ => rfl) ?_
                          have eq115 : Z114 56 6 = Z5 56 6 := ((up_ni hE114 (by decide)).trans ((hf94 56 6 rfl).trans ((up_ni hE92 (by decide)).trans (up_ni hE32 (by decide)))))
                          have b116 : 0 ≤ Z5 56 6 ∧ Z5 56 6 ≤ 900 := hG5.pr 56 6
                          have eq117 : Z114 56 7 = Z94 56 7 := (up_ni hE114 (by decide))
                          have b118 : 0 ≤ Z94 56 7 ∧ Z94 56 7 ≤ 900 := hG94.pr 56 7
                          have eq119 : Z114 56 9 = k113_1 := (up_at hE114)
                          exact c294 none Z114 h114 (by omega) hx114 hG114 (fr_tr (M := [(56, 7), (56, 9), (56, 10)]) (fr_tr (M := [(56, 7), (56, 9), (56, 10)]) (fr_tr (M := [(56, 7), (56, 9), (56, 10)]) fr_rf (fr_up hE92) (M1 := []) rfl rfl) (hf94) rfl rfl) (fr_up hE114) rfl rfl)
                        refine Jicmp_le (show mx_Sn _ _ 220 (mx_icmp_le 228 223) from sn_162 220) (by omega) (by omega) (fun q120 => ?_) (fun q120 => ?_)
                        · skip
                          refine JcI (z := 23) (show mx_Sn _ _ 228 (mx_const (.int 23) 230) from sn_162 228) rfl ?_
                          exact c230 23 (by omega)
                        · skip
                          refine JcI (z := 25) (show mx_Sn _ _ 223 (mx_const (.int 25) 225) from sn_162 223) rfl ?_
                          refine mx_J.step (sn_162 225) (fun _ _ => rfl) ?_
                          exact c230 25 (by omega)
                      · skip
                        refine mx_J.step (sn_162 160) (fun _ _ => rfl) ?_
                        have b122 : 0 ≤ Z94 56 7 ∧ Z94 56 7 ≤ 900 := hG94.pr 56 7
                        refine JgetI (g := 7) (z := Z94 56 7) hx94 (show mx_Sn _ _ 161 (mx_getf 12 7 164) from sn_162 161) a56 s56 rfl rfl rfl ?_
                        refine mx_J.step (sn_162 164) (fun _ _ => rfl) ?_
                        have b124 : 0 ≤ Z5 56 6 ∧ Z5 56 6 ≤ 900 := hG5.pr 56 6
                        refine JgetI (g := 6) (z := Z5 56 6) hx94 (show mx_Sn _ _ 165 (mx_getf 12 6 168) from sn_162 165) a56 s56 rfl rfl ((hf94 56 6 rfl).trans ((up_ni hE92 (by decide)).trans (up_ni hE32 (by decide)))) ?_
                        refine Jisub (show mx_Sn _ _ 168 (mx_isub 169) from sn_162 168) ?_
                        refine JcI (z := 3) (show mx_Sn _ _ 169 (mx_const (.int 3) 170) from sn_162 169) rfl ?_
                        have c196 : ∀  (Z126 : xZ) (h126 : mx_H), ((Z126 56 7 ≤ Z126 56 6 → Z126 56 10 ≤ 9) ∧ (Z126 56 7 ≤ Z126 56 6 + 1 → Z126 56 10 ≤ 99) ∧ Z126 56 7 < Z 56 8) → XH n s S Z126 h126 → GI n S Z126 → fr' [(56, 10)] Z94 Z126 → mx_J (tB l D b0 ad Hb tau) mt_162 (d + 5) 196 [some (.ref 56), none] [] h126 Post := by
                          intro Z126 h126 f125_0 hx126 hG126 hf126
                          have eq127 : Z126 56 6 = Z5 56 6 := ((hf126 56 6 rfl).trans ((hf94 56 6 rfl).trans ((up_ni hE92 (by decide)).trans (up_ni hE32 (by decide)))))
                          have b128 : 0 ≤ Z5 56 6 ∧ Z5 56 6 ≤ 900 := hG5.pr 56 6
                          have eq129 : Z126 56 7 = Z94 56 7 := (hf126 56 7 rfl)
                          have b130 : 0 ≤ Z94 56 7 ∧ Z94 56 7 ≤ 900 := hG94.pr 56 7
                          have b131 : 0 ≤ Z126 56 10 ∧ Z126 56 10 ≤ 999 := hG126.pr 56 10
                          refine mx_J.step (sn_162 196) (fun _ _ => rfl) ?_
                          refine mx_J.step (sn_162 197) (fun _ _ => rfl) ?_
                          have b133 : 0 ≤ Z94 56 7 ∧ Z94 56 7 ≤ 900 := hG94.pr 56 7
                          refine JgetI (g := 7) (z := Z94 56 7) hx126 (show mx_Sn _ _ 198 (mx_getf 12 7 201) from sn_162 198) a56 s56 rfl rfl (hf126 56 7 rfl) ?_
                          refine JcI (z := 1) (show mx_Sn _ _ 201 (mx_const (.int 1) 202) from sn_162 201) rfl ?_
                          refine Jiadd (show mx_Sn _ _ 202 (mx_iadd 203) from sn_162 202) ?_
                          refine JputI (g := 7) hx126 (show mx_Sn _ _ 203 (mx_putf 1 12 7 (.int) 206) from sn_162 203) a56 s56 rfl rfl rfl rfl (fun Z134 h134 hx134 hE134 => ?_)
                          have hG134 := GI_up hG126 hE134 (show 0 ≤ (Z94 56 7) + 1 ∧ (Z94 56 7) + 1 ≤ 900 by omega) trivial rfl
                          refine mx_J.step (sn_162 206) (fun _ _ => rfl) ?_
                          have eq135 : Z134 56 6 = Z5 56 6 := ((up_ni hE134 (by decide)).trans ((hf126 56 6 rfl).trans ((hf94 56 6 rfl).trans ((up_ni hE92 (by decide)).trans (up_ni hE32 (by decide))))))
                          have b136 : 0 ≤ Z5 56 6 ∧ Z5 56 6 ≤ 900 := hG5.pr 56 6
                          have eq137 : Z134 56 7 = (Z94 56 7) + 1 := (up_at hE134)
                          have eq138 : Z134 56 10 = Z126 56 10 := (up_ni hE134 (by decide))
                          have b139 : 0 ≤ Z126 56 10 ∧ Z126 56 10 ≤ 999 := hG126.pr 56 10
                          have eq140 : Z134 56 7 = (Z94 56 7) + 1 := (up_at hE134)
                          exact ih93 Z134 h134 (by omega) (by omega) hx134 hG134 (fr_tr (M := [(56, 7), (56, 10)]) (fr_tr (M := [(56, 7), (56, 10)]) (fr_tr (M := [(56, 7), (56, 10)]) fr_rf (hf94) (M1 := []) rfl rfl) (hf126) rfl rfl) (fr_up hE134) rfl rfl)
                        refine Jicmp_ge (show mx_Sn _ _ 170 (mx_icmp_ge 196 173) from sn_162 170) (by omega) (by omega) (fun q141 => ?_) (fun q141 => ?_)
                        · skip
                          have eq142 : Z94 56 6 = Z5 56 6 := ((hf94 56 6 rfl).trans ((up_ni hE92 (by decide)).trans (up_ni hE32 (by decide))))
                          have b143 : 0 ≤ Z5 56 6 ∧ Z5 56 6 ≤ 900 := hG5.pr 56 6
                          have b144 : 0 ≤ Z94 56 7 ∧ Z94 56 7 ≤ 900 := hG94.pr 56 7
                          have b145 : 0 ≤ Z94 56 10 ∧ Z94 56 10 ≤ 999 := hG94.pr 56 10
                          exact c196 Z94 h94 (by omega) hx94 hG94 fr_rf
                        · skip
                          refine mx_J.step (sn_162 173) (fun _ _ => rfl) ?_
                          refine JcI (z := 10) (show mx_Sn _ _ 174 (mx_const (.int 10) 176) from sn_162 174) rfl ?_
                          refine mx_J.step (sn_162 176) (fun _ _ => rfl) ?_
                          have b147 : 0 ≤ Z94 56 10 ∧ Z94 56 10 ≤ 999 := hG94.pr 56 10
                          refine JgetI (g := 10) (z := Z94 56 10) hx94 (show mx_Sn _ _ 177 (mx_getf 12 10 180) from sn_162 177) a56 s56 rfl rfl rfl ?_
                          refine Jimul (show mx_Sn _ _ 180 (mx_imul 181) from sn_162 180) ?_
                          refine mx_J.step (sn_162 181) (fun _ _ => rfl) ?_
                          refine mx_J.step (sn_162 182) (fun _ _ => rfl) ?_
                          have b149 : 0 ≤ Z94 56 7 ∧ Z94 56 7 ≤ 900 := hG94.pr 56 7
                          refine JgetI (g := 7) (z := Z94 56 7) hx94 (show mx_Sn _ _ 183 (mx_getf 12 7 186) from sn_162 183) a56 s56 rfl rfl rfl ?_
                          have eq151 : Z94 56 8 = Z 56 8 := ((hf94 56 8 rfl).trans ((up_ni hE92 (by decide)).trans ((up_ni hE32 (by decide)).trans ((hf5 56 8 rfl).trans (up_ni hE3 (by decide))))))
                          have b152 : 0 ≤ Z 56 8 ∧ Z 56 8 ≤ 900 := hG.pr 56 8
                          have eq153 : Z94 59 (Z94 56 7) = Z 59 (Z94 56 7) := ((hf94 59 (Z94 56 7) rfl).trans ((up_nk hE92 rfl).trans ((up_nk hE32 rfl).trans ((hf5 59 (Z94 56 7) rfl).trans (up_nk hE3 rfl)))))
                          have b154 : 0 ≤ Z 59 (Z94 56 7) ∧ Z 59 (Z94 56 7) ≤ 255 := hG.pr 59 (Z94 56 7)
                          obtain ⟨z150, hc150, b150⟩ := ct_158_56 (d := d + 4) (l := l) (D := D) (b0 := b0) (ad := ad) (Hb := Hb) (tau := tau) hx94 hG94 (show 0 ≤ Z94 56 7 ∧ Z94 56 7 ≤ 901 by omega)
                          try rw [eq151] at b150
                          try rw [eq153] at b150
                          refine Jcv hx94 (show mx_Sn _ _ 186 (mx_callv 158 2 12 189) from sn_162 186) a56 s56 hc150 rfl rfl rfl ?_
                          refine Jiadd (show mx_Sn _ _ 189 (mx_iadd 190) from sn_162 189) ?_
                          refine JcI (z := 48) (show mx_Sn _ _ 190 (mx_const (.int 48) 192) from sn_162 190) rfl ?_
                          refine Jisub (show mx_Sn _ _ 192 (mx_isub 193) from sn_162 192) ?_
                          refine JputI (g := 10) hx94 (show mx_Sn _ _ 193 (mx_putf 1 12 10 (.int) 196) from sn_162 193) a56 s56 rfl rfl rfl rfl (fun Z155 h155 hx155 hE155 => ?_)
                          have hG155 := GI_up hG94 hE155 (show 0 ≤ ((10 * (Z94 56 10)) + z150) - 48 ∧ ((10 * (Z94 56 10)) + z150) - 48 ≤ 999 by omega) trivial rfl
                          have eq156 : Z155 56 6 = Z5 56 6 := ((up_ni hE155 (by decide)).trans ((hf94 56 6 rfl).trans ((up_ni hE92 (by decide)).trans (up_ni hE32 (by decide)))))
                          have b157 : 0 ≤ Z5 56 6 ∧ Z5 56 6 ≤ 900 := hG5.pr 56 6
                          have eq158 : Z155 56 7 = Z94 56 7 := (up_ni hE155 (by decide))
                          have b159 : 0 ≤ Z94 56 7 ∧ Z94 56 7 ≤ 900 := hG94.pr 56 7
                          have eq160 : Z155 56 10 = ((10 * (Z94 56 10)) + z150) - 48 := (up_at hE155)
                          exact c196 Z155 h155 (by omega) hx155 hG155 (fr_tr (M := [(56, 10)]) fr_rf (fr_up hE155) (M1 := []) rfl rfl)
                  have eq161 : Z92 56 6 = Z5 56 6 := ((up_ni hE92 (by decide)).trans (up_ni hE32 (by decide)))
                  have b162 : 0 ≤ Z5 56 6 ∧ Z5 56 6 ≤ 900 := hG5.pr 56 6
                  have eq163 : Z92 56 7 = Z5 56 6 := ((up_ni hE92 (by decide)).trans (up_at hE32))
                  have eq164 : Z92 56 10 = 0 := (up_at hE92)
                  have eq165 : Z92 56 7 = Z5 56 6 := ((up_ni hE92 (by decide)).trans (up_at hE32))
                  exact c146 (Int.toNat (Z 56 8 - Z92 56 7) + 1) Z92 h92 (by omega) (by omega) hx92 hG92 fr_rf
              · skip
                have c89 : ∀ (m166 : Nat)  (Z167 : xZ) (h167 : mx_H), Z 56 8 - Z167 56 7 < (m166 : Int) → (Z167 56 6 ≤ Z167 56 7 ∧ Z167 56 7 ≤ Z 56 8 ∧ (Z167 56 6 < Z167 56 7 ∨ (97 ≤ Z 59 (Z5 56 6) ∧ Z 59 (Z5 56 6) ≤ 122))) → XH n s S Z167 h167 → GI n S Z167 → fr' [(56, 7)] Z32 Z167 → mx_J (tB l D b0 ad Hb tau) mt_162 (d + 5) 89 [some (.ref 56), none] [] h167 Post := by
                  intro m166
                  induction m166 with
                  | zero => intro Z167 h167 q166 f166_0 hx167 hG167 hf167; exact absurd q166 (by omega)
                  | succ m166 ih166 =>
                    intro Z167 h167 q166 f166_0 hx167 hG167 hf167
                    have eq168 : Z167 56 6 = Z5 56 6 := ((hf167 56 6 rfl).trans (up_ni hE32 (by decide)))
                    have b169 : 0 ≤ Z5 56 6 ∧ Z5 56 6 ≤ 900 := hG5.pr 56 6
                    have b170 : 0 ≤ Z167 56 7 ∧ Z167 56 7 ≤ 900 := hG167.pr 56 7
                    have b171 : 0 ≤ Z167 56 7 ∧ Z167 56 7 ≤ 900 := hG167.pr 56 7
                    refine mx_J.step (sn_162 89) (fun _ _ => rfl) ?_
                    refine mx_J.step (sn_162 90) (fun _ _ => rfl) ?_
                    have b173 : 0 ≤ Z167 56 7 ∧ Z167 56 7 ≤ 900 := hG167.pr 56 7
                    refine JgetI (g := 7) (z := Z167 56 7) hx167 (show mx_Sn _ _ 91 (mx_getf 12 7 94) from sn_162 91) a56 s56 rfl rfl rfl ?_
                    have eq175 : Z167 56 8 = Z 56 8 := ((hf167 56 8 rfl).trans ((up_ni hE32 (by decide)).trans ((hf5 56 8 rfl).trans (up_ni hE3 (by decide)))))
                    have b176 : 0 ≤ Z 56 8 ∧ Z 56 8 ≤ 900 := hG.pr 56 8
                    have eq177 : Z167 59 (Z167 56 7) = Z 59 (Z167 56 7) := ((hf167 59 (Z167 56 7) rfl).trans ((up_nk hE32 rfl).trans ((hf5 59 (Z167 56 7) rfl).trans (up_nk hE3 rfl))))
                    have b178 : 0 ≤ Z 59 (Z167 56 7) ∧ Z 59 (Z167 56 7) ≤ 255 := hG.pr 59 (Z167 56 7)
                    obtain ⟨z174, hc174, b174⟩ := ct_158_56 (d := d + 4) (l := l) (D := D) (b0 := b0) (ad := ad) (Hb := Hb) (tau := tau) hx167 hG167 (show 0 ≤ Z167 56 7 ∧ Z167 56 7 ≤ 901 by omega)
                    try rw [eq175] at b174
                    try rw [eq177] at b174
                    refine Jcv hx167 (show mx_Sn _ _ 94 (mx_callv 158 2 12 97) from sn_162 94) a56 s56 hc174 rfl rfl rfl ?_
                    have cg167 : (Z167 56 7) = (Z5 56 6) → Z 59 (Z167 56 7) = Z 59 (Z5 56 6) := fun e => by rw [e]
                    obtain ⟨z179, hc179, b179⟩ := ct_159_ (d := d + 4) (l := l) (D := D) (b0 := b0) (ad := ad) (Hb := Hb) (tau := tau) hx167 hG167 (show (-2147483648) ≤ z174 ∧ z174 ≤ 2147483647 by omega)
                    refine Jcs (show mx_Sn _ _ 97 (mx_calls 159 1 100) from sn_162 97) hc179 rfl rfl rfl ?_
                    refine Jif_eq (show mx_Sn _ _ 100 (mx_if_eq 116 103) from sn_162 100) (by omega) (fun q180 => ?_) (fun q180 => ?_)
                    · skip
                      refine mx_J.step (sn_162 116) (fun _ _ => rfl) ?_
                      refine mx_J.step (sn_162 117) (fun _ _ => rfl) ?_
                      have b182 : 0 ≤ Z167 56 7 ∧ Z167 56 7 ≤ 900 := hG167.pr 56 7
                      have eq183 : Z167 56 8 = Z 56 8 := ((hf167 56 8 rfl).trans ((up_ni hE32 (by decide)).trans ((hf5 56 8 rfl).trans (up_ni hE3 (by decide)))))
                      have b184 : 0 ≤ Z 56 8 ∧ Z 56 8 ≤ 900 := hG.pr 56 8
                      obtain ⟨z181, hc181, b181⟩ := ct_161_56 (d := d + 0) (l := l) (D := D) (b0 := b0) (ad := ad) (Hb := Hb) (tau := tau) hx167 hG167  (show Z167 56 7 ≤ Z167 56 8 by first | omega | (simp only [eq183]; omega))
                      try rw [eq183] at b181
                      refine Jcv hx167 (show mx_Sn _ _ 118 (mx_callv 161 1 12 121) from sn_162 118) a56 s56 hc181 rfl rfl rfl ?_
                      refine JputI (g := 9) hx167 (show mx_Sn _ _ 121 (mx_putf 1 12 9 (.int) 124) from sn_162 121) a56 s56 rfl rfl rfl rfl (fun Z185 h185 hx185 hE185 => ?_)
                      have hG185 := GI_up hG167 hE185 (show 0 ≤ z181 ∧ z181 ≤ 100 by omega) trivial rfl
                      refine mx_J.step (sn_162 124) (fun _ _ => rfl) ?_
                      have eq186 : Z185 56 6 = Z5 56 6 := ((up_ni hE185 (by decide)).trans ((hf167 56 6 rfl).trans (up_ni hE32 (by decide))))
                      have b187 : 0 ≤ Z5 56 6 ∧ Z5 56 6 ≤ 900 := hG5.pr 56 6
                      have eq188 : Z185 56 7 = Z167 56 7 := (up_ni hE185 (by decide))
                      have b189 : 0 ≤ Z167 56 7 ∧ Z167 56 7 ≤ 900 := hG167.pr 56 7
                      have eq190 : Z185 56 9 = z181 := (up_at hE185)
                      exact c294 none Z185 h185 (by omega) hx185 hG185 (fr_tr (M := [(56, 7), (56, 9), (56, 10)]) (fr_tr (M := [(56, 7), (56, 9), (56, 10)]) fr_rf (hf167) (M1 := []) rfl rfl) (fr_up hE185) rfl rfl)
                    · skip
                      refine mx_J.step (sn_162 103) (fun _ _ => rfl) ?_
                      refine mx_J.step (sn_162 104) (fun _ _ => rfl) ?_
                      have b192 : 0 ≤ Z167 56 7 ∧ Z167 56 7 ≤ 900 := hG167.pr 56 7
                      refine JgetI (g := 7) (z := Z167 56 7) hx167 (show mx_Sn _ _ 105 (mx_getf 12 7 108) from sn_162 105) a56 s56 rfl rfl rfl ?_
                      refine JcI (z := 1) (show mx_Sn _ _ 108 (mx_const (.int 1) 109) from sn_162 108) rfl ?_
                      refine Jiadd (show mx_Sn _ _ 109 (mx_iadd 110) from sn_162 109) ?_
                      refine JputI (g := 7) hx167 (show mx_Sn _ _ 110 (mx_putf 1 12 7 (.int) 113) from sn_162 110) a56 s56 rfl rfl rfl rfl (fun Z193 h193 hx193 hE193 => ?_)
                      have hG193 := GI_up hG167 hE193 (show 0 ≤ (Z167 56 7) + 1 ∧ (Z167 56 7) + 1 ≤ 900 by omega) trivial rfl
                      refine mx_J.step (sn_162 113) (fun _ _ => rfl) ?_
                      have eq194 : Z193 56 6 = Z5 56 6 := ((up_ni hE193 (by decide)).trans ((hf167 56 6 rfl).trans (up_ni hE32 (by decide))))
                      have b195 : 0 ≤ Z5 56 6 ∧ Z5 56 6 ≤ 900 := hG5.pr 56 6
                      have eq196 : Z193 56 7 = (Z167 56 7) + 1 := (up_at hE193)
                      have eq197 : Z193 56 7 = (Z167 56 7) + 1 := (up_at hE193)
                      exact ih166 Z193 h193 (by omega) (by omega) hx193 hG193 (fr_tr (M := [(56, 7)]) (fr_tr (M := [(56, 7)]) fr_rf (hf167) (M1 := []) rfl rfl) (fr_up hE193) rfl rfl)
                have eq198 : Z32 56 6 = Z5 56 6 := (up_ni hE32 (by decide))
                have b199 : 0 ≤ Z5 56 6 ∧ Z5 56 6 ≤ 900 := hG5.pr 56 6
                have eq200 : Z32 56 7 = Z5 56 6 := (up_at hE32)
                have eq201 : Z32 56 7 = Z5 56 6 := (up_at hE32)
                exact c89 (Int.toNat (Z 56 8 - Z32 56 7) + 1) Z32 h32 (by omega) (by omega) hx32 hG32 fr_rf
            · skip
              refine mx_J.step (sn_162 66) (fun _ _ => rfl) ?_
              refine JcI (z := 24) (show mx_Sn _ _ 67 (mx_const (.int 24) 69) from sn_162 67) rfl ?_
              refine JputI (g := 9) hx32 (show mx_Sn _ _ 69 (mx_putf 1 12 9 (.int) 72) from sn_162 69) a56 s56 rfl rfl rfl rfl (fun Z202 h202 hx202 hE202 => ?_)
              have hG202 := GI_up hG32 hE202 (show 0 ≤ 24 ∧ 24 ≤ 100 by omega) trivial rfl
              refine mx_J.step (sn_162 72) (fun _ _ => rfl) ?_
              have eq203 : Z202 56 6 = Z5 56 6 := ((up_ni hE202 (by decide)).trans (up_ni hE32 (by decide)))
              have b204 : 0 ≤ Z5 56 6 ∧ Z5 56 6 ≤ 900 := hG5.pr 56 6
              have eq205 : Z202 56 7 = Z5 56 6 := ((up_ni hE202 (by decide)).trans (up_at hE32))
              have eq206 : Z202 56 9 = 24 := (up_at hE202)
              exact c294 none Z202 h202 (by omega) hx202 hG202 (fr_tr (M := [(56, 7), (56, 9), (56, 10)]) fr_rf (fr_up hE202) (M1 := []) rfl rfl)
          · skip
            exact c34 (by omega)
    have eq207 : Z3 56 6 = Z 56 7 := (up_at hE3)
    have eq208 : Z3 56 6 = Z 56 7 := (up_at hE3)
    exact c8 (Int.toNat (Z 56 8 - Z3 56 6) + 1) Z3 h3 (by omega) (by omega) hx3 hG3 fr_rf
theorem ct_162_56 {l : Launch} {D : va_G} {b0 : Nat} {ad : Nat → Nat} {Hb : Heap} {tau : Nat → Int64} {d n s : Nat} {S : Nat → xS} {Z : xZ} {h : mx_H} (hx : XH n s S Z h) (hG : GI n S Z)   (k0 : Z 56 7 ≤ Z 56 8) : ∃ (Z' : xZ) (h' : mx_H), mx_Ca (tB l D b0 ad Hb tau) (d + 6) 162 [.ref 56] h (none, h') ∧ XH n s S Z' h' ∧ GI n S Z' ∧ fr' [(56, 6), (56, 7), (56, 9), (56, 10)] Z Z' ∧ (((Z' 56 6 ≤ Z' 56 7 ∧ Z' 56 7 ≤ Z 56 8 ∧ (Z' 56 9 = 24 ∨ Z' 56 6 < Z' 56 7)) ∧ Z 56 7 ≤ Z' 56 6)) := by
  obtain ⟨r, hca, Z', h', e, q⟩ := Jmt (B := tB l D b0 ad Hb tau) (M := mt_162) (mi := 162) (as := [.ref 56]) (d := d + 5) (ls := [some (.ref 56), none]) rfl rfl rfl rfl rfl rfl (cw_162_56 (l := l) (D := D) (b0 := b0) (ad := ad) (Hb := Hb) (tau := tau) (d := d) (Post := fun r => ∃ (Z' : xZ) (h' : mx_H), r = (none, h') ∧ XH n s S Z' h' ∧ GI n S Z' ∧ fr' [(56, 6), (56, 7), (56, 9), (56, 10)] Z Z' ∧ (((Z' 56 6 ≤ Z' 56 7 ∧ Z' 56 7 ≤ Z 56 8 ∧ (Z' 56 9 = 24 ∨ Z' 56 6 < Z' 56 7)) ∧ Z 56 7 ≤ Z' 56 6))) hx hG k0 (fun Z' h' q1 q2 q3 q4 => ⟨Z', h', rfl, q1, q2, q3, q4⟩))
  subst e; exact ⟨Z', h', hca, q⟩
set_option maxRecDepth 100000 in
theorem cw_163_56 {l : Launch} {D : va_G} {b0 : Nat} {ad : Nat → Nat} {Hb : Heap} {tau : Nat → Int64} {d n s : Nat} {S : Nat → xS} {Z : xZ} {h : mx_H} {Post : mx_R → Prop} (hx : XH n s S Z h) (hG : GI n S Z)  {x0 : Int} (p0 : 1 ≤ x0 ∧ x0 ≤ 4) (hP : ∀ (Z' : xZ) (h' : mx_H), XH n s S Z' h' → GI n S Z' → fr' [(56, 11), (56, 12)] Z Z' → (¬ Z' 56 11 = 0) → Post (none, h')) : mx_J (tB l D b0 ad Hb tau) mt_163 (d + 0) 0 [some (.ref 56), some (xI x0)] [] h Post := by
    have a56 : 56 < n := lt83 (GI_n hG) rfl
    have s56 : S 56 = .inl (12, [0, 2, 2, 2, 2, 0, 0, 0, 0, 0, 0, 0, 0, 0, 0, 2, 2, 2, 0, 2, 2, 2, 0, 0, 2, 2, 2, 2, 2, 2, 0, 0, 2, 2, 2, 2, 2, 2, 2, 2, 2, 2]) := GI_s hG 56 rfl
    refine mx_J.step (sn_163 0) (fun _ _ => rfl) ?_
    have b2 : 0 ≤ Z 56 11 ∧ Z 56 11 ≤ 4 := hG.pr 56 11
    refine JgetI (g := 11) (z := Z 56 11) hx (show mx_Sn _ _ 1 (mx_getf 12 11 4) from sn_163 1) a56 s56 rfl rfl rfl ?_
    refine Jif_eq (show mx_Sn _ _ 4 (mx_if_eq 8 7) from sn_163 4) (by omega) (fun q3 => ?_) (fun q3 => ?_)
    · skip
      refine mx_J.step (sn_163 8) (fun _ _ => rfl) ?_
      refine mx_J.step (sn_163 9) (fun _ _ => rfl) ?_
      have b5 : 0 ≤ Z 56 9 ∧ Z 56 9 ≤ 100 := hG.pr 56 9
      refine JgetI (g := 9) (z := Z 56 9) hx (show mx_Sn _ _ 10 (mx_getf 12 9 13) from sn_163 10) a56 s56 rfl rfl rfl ?_
      refine JcI (z := 25) (show mx_Sn _ _ 13 (mx_const (.int 25) 15) from sn_163 13) rfl ?_
      have c23 : ∀ (k6_1 : Int), 1 ≤ k6_1 ∧ k6_1 ≤ 4 → mx_J (tB l D b0 ad Hb tau) mt_163 (d + 0) 23 [some (.ref 56), some (xI x0)] [xI k6_1, .ref 56] h Post := by
        intro k6_1 f6_0
        refine JputI (g := 11) hx (show mx_Sn _ _ 23 (mx_putf 1 12 11 (.int) 26) from sn_163 23) a56 s56 rfl rfl rfl rfl (fun Z7 h7 hx7 hE7 => ?_)
        have hG7 := GI_up hG hE7 (show 0 ≤ k6_1 ∧ k6_1 ≤ 4 by omega) trivial rfl
        refine mx_J.step (sn_163 26) (fun _ _ => rfl) ?_
        refine mx_J.step (sn_163 27) (fun _ _ => rfl) ?_
        have b9 : 0 ≤ Z 56 6 ∧ Z 56 6 ≤ 900 := hG.pr 56 6
        refine JgetI (g := 6) (z := Z 56 6) hx7 (show mx_Sn _ _ 28 (mx_getf 12 6 31) from sn_163 28) a56 s56 rfl rfl (up_ni hE7 (by decide)) ?_
        refine JputI (g := 12) hx7 (show mx_Sn _ _ 31 (mx_putf 1 12 12 (.int) 34) from sn_163 31) a56 s56 rfl rfl rfl rfl (fun Z10 h10 hx10 hE10 => ?_)
        have hG10 := GI_up hG7 hE10 (show 0 ≤ Z 56 6 ∧ Z 56 6 ≤ 900 by omega) trivial rfl
        have eq11 : Z10 56 11 = k6_1 := ((up_ni hE10 (by decide)).trans (up_at hE7))
        exact mx_J.ret (sn_163 34) (fun _ _ => rfl) (hP Z10 h10 hx10 hG10 (fr_tr (M := [(56, 11), (56, 12)]) (fr_tr (M := [(56, 11), (56, 12)]) fr_rf (fr_up hE7) (M1 := []) rfl rfl) (fr_up hE10) rfl rfl) (by omega))
      refine Jicmp_ne (show mx_Sn _ _ 15 (mx_icmp_ne 22 18) from sn_163 15) (by omega) (by omega) (fun q12 => ?_) (fun q12 => ?_)
      · skip
        refine mx_J.step (sn_163 22) (fun _ _ => rfl) ?_
        exact c23 x0 (by omega)
      · skip
        refine JcI (z := 1) (show mx_Sn _ _ 18 (mx_const (.int 1) 19) from sn_163 18) rfl ?_
        refine mx_J.step (sn_163 19) (fun _ _ => rfl) ?_
        exact c23 1 (by omega)
    · skip
      have b13 : 0 ≤ Z 56 11 ∧ Z 56 11 ≤ 4 := hG.pr 56 11
      exact mx_J.ret (sn_163 7) (fun _ _ => rfl) (hP Z h hx hG fr_rf (by omega))
theorem ct_163_56 {l : Launch} {D : va_G} {b0 : Nat} {ad : Nat → Nat} {Hb : Heap} {tau : Nat → Int64} {d n s : Nat} {S : Nat → xS} {Z : xZ} {h : mx_H} (hx : XH n s S Z h) (hG : GI n S Z)  {x0 : Int} (p0 : 1 ≤ x0 ∧ x0 ≤ 4) : ∃ (Z' : xZ) (h' : mx_H), mx_Ca (tB l D b0 ad Hb tau) (d + 1) 163 [.ref 56, xI x0] h (none, h') ∧ XH n s S Z' h' ∧ GI n S Z' ∧ fr' [(56, 11), (56, 12)] Z Z' ∧ ((¬ Z' 56 11 = 0)) := by
  obtain ⟨r, hca, Z', h', e, q⟩ := Jmt (B := tB l D b0 ad Hb tau) (M := mt_163) (mi := 163) (as := [.ref 56, xI x0]) (d := d + 0) (ls := [some (.ref 56), some (xI x0)]) rfl rfl rfl rfl rfl rfl (cw_163_56 (l := l) (D := D) (b0 := b0) (ad := ad) (Hb := Hb) (tau := tau) (d := d) (Post := fun r => ∃ (Z' : xZ) (h' : mx_H), r = (none, h') ∧ XH n s S Z' h' ∧ GI n S Z' ∧ fr' [(56, 11), (56, 12)] Z Z' ∧ ((¬ Z' 56 11 = 0))) hx hG p0 (fun Z' h' q1 q2 q3 q4 => ⟨Z', h', rfl, q1, q2, q3, q4⟩))
  subst e; exact ⟨Z', h', hca, q⟩
set_option maxRecDepth 100000 in
theorem cw_164_56 {l : Launch} {D : va_G} {b0 : Nat} {ad : Nat → Nat} {Hb : Heap} {tau : Nat → Int64} {d n s : Nat} {S : Nat → xS} {Z : xZ} {h : mx_H} {Post : mx_R → Prop} (hx : XH n s S Z h) (hG : GI n S Z)  {x0 : Int} (p0 : 0 ≤ x0 ∧ x0 ≤ 100) (hP : ∀ z : Int, 0 ≤ z ∧ z ≤ 1 ∧ ((z = 1 ∧ Z 56 11 = 0 ∧ Z 56 9 = x0) ∨ (z = 0 ∧ ¬ (Z 56 11 = 0 ∧ Z 56 9 = x0))) → Post (some (xI z), h)) : mx_J (tB l D b0 ad Hb tau) mt_164 (d + 0) 0 [some (.ref 56), some (xI x0)] [] h Post := by
    have a56 : 56 < n := lt83 (GI_n hG) rfl
    have s56 : S 56 = .inl (12, [0, 2, 2, 2, 2, 0, 0, 0, 0, 0, 0, 0, 0, 0, 0, 2, 2, 2, 0, 2, 2, 2, 0, 0, 2, 2, 2, 2, 2, 2, 0, 0, 2, 2, 2, 2, 2, 2, 2, 2, 2, 2]) := GI_s hG 56 rfl
    refine mx_J.step (sn_164 0) (fun _ _ => rfl) ?_
    have b2 : 0 ≤ Z 56 11 ∧ Z 56 11 ≤ 4 := hG.pr 56 11
    refine JgetI (g := 11) (z := Z 56 11) hx (show mx_Sn _ _ 1 (mx_getf 12 11 4) from sn_164 1) a56 s56 rfl rfl rfl ?_
    have c20 : ∀ (k3_0 : Int), 0 ≤ k3_0 ∧ k3_0 ≤ 1 → ((k3_0 = 1 ∧ Z 56 11 = 0 ∧ Z 56 9 = x0) ∨ (k3_0 = 0 ∧ ¬ (Z 56 11 = 0 ∧ Z 56 9 = x0))) → mx_J (tB l D b0 ad Hb tau) mt_164 (d + 0) 20 [some (.ref 56), some (xI x0)] [xI k3_0] h Post := by
      intro k3_0 f3_0 f3_1
      have b4 : 0 ≤ Z 56 9 ∧ Z 56 9 ≤ 100 := hG.pr 56 9
      have b5 : 0 ≤ Z 56 11 ∧ Z 56 11 ≤ 4 := hG.pr 56 11
      exact mx_J.ret (show mx_Sn _ _ 20 (mx_zret) from sn_164 20) (fun _ _ => zr_ok (by omega)) (hP k3_0 (by omega))
    have c19 : ¬ (Z 56 11 = 0 ∧ Z 56 9 = x0) → mx_J (tB l D b0 ad Hb tau) mt_164 (d + 0) 19 [some (.ref 56), some (xI x0)] [] h Post := by
      intro f6_0
      refine JcI (z := 0) (show mx_Sn _ _ 19 (mx_const (.int 0) 20) from sn_164 19) rfl ?_
      exact c20 0 (by omega) (by omega)
    refine Jif_ne (show mx_Sn _ _ 4 (mx_if_ne 19 7) from sn_164 4) (by omega) (fun q7 => ?_) (fun q7 => ?_)
    · skip
      exact c19 (by omega)
    · skip
      refine mx_J.step (sn_164 7) (fun _ _ => rfl) ?_
      have b9 : 0 ≤ Z 56 9 ∧ Z 56 9 ≤ 100 := hG.pr 56 9
      refine JgetI (g := 9) (z := Z 56 9) hx (show mx_Sn _ _ 8 (mx_getf 12 9 11) from sn_164 8) a56 s56 rfl rfl rfl ?_
      refine mx_J.step (sn_164 11) (fun _ _ => rfl) ?_
      refine Jicmp_ne (show mx_Sn _ _ 12 (mx_icmp_ne 19 15) from sn_164 12) (by omega) (by omega) (fun q10 => ?_) (fun q10 => ?_)
      · skip
        exact c19 (by omega)
      · skip
        refine JcI (z := 1) (show mx_Sn _ _ 15 (mx_const (.int 1) 16) from sn_164 15) rfl ?_
        refine mx_J.step (sn_164 16) (fun _ _ => rfl) ?_
        exact c20 1 (by omega) (by omega)
theorem ct_164_56 {l : Launch} {D : va_G} {b0 : Nat} {ad : Nat → Nat} {Hb : Heap} {tau : Nat → Int64} {d n s : Nat} {S : Nat → xS} {Z : xZ} {h : mx_H} (hx : XH n s S Z h) (hG : GI n S Z)  {x0 : Int} (p0 : 0 ≤ x0 ∧ x0 ≤ 100) : ∃ z : Int, mx_Ca (tB l D b0 ad Hb tau) (d + 1) 164 [.ref 56, xI x0] h (some (xI z), h) ∧ (0 ≤ z ∧ z ≤ 1 ∧ ((z = 1 ∧ Z 56 11 = 0 ∧ Z 56 9 = x0) ∨ (z = 0 ∧ ¬ (Z 56 11 = 0 ∧ Z 56 9 = x0)))) := by
  obtain ⟨r, hca, z, e, hp⟩ := Jmt (B := tB l D b0 ad Hb tau) (M := mt_164) (mi := 164) (as := [.ref 56, xI x0]) (d := d + 0) (ls := [some (.ref 56), some (xI x0)]) rfl rfl rfl rfl rfl rfl (cw_164_56 (l := l) (D := D) (b0 := b0) (ad := ad) (Hb := Hb) (tau := tau) (d := d) (Post := fun r => ∃ z : Int, r = (some (xI z), h) ∧ (0 ≤ z ∧ z ≤ 1 ∧ ((z = 1 ∧ Z 56 11 = 0 ∧ Z 56 9 = x0) ∨ (z = 0 ∧ ¬ (Z 56 11 = 0 ∧ Z 56 9 = x0))))) hx hG p0 (fun z hz => ⟨z, rfl, hz⟩))
  subst e; exact ⟨z, hca, hp⟩
set_option maxRecDepth 100000 in
theorem cw_165_56 {l : Launch} {D : va_G} {b0 : Nat} {ad : Nat → Nat} {Hb : Heap} {tau : Nat → Int64} {d n s : Nat} {S : Nat → xS} {Z : xZ} {h : mx_H} {Post : mx_R → Prop} (hx : XH n s S Z h) (hG : GI n S Z)  {x0 : Int} (p0 : 0 ≤ x0 ∧ x0 ≤ 100) (k0 : (Z 56 6 ≤ Z 56 7 ∧ Z 56 7 ≤ Z 56 8 ∧ (Z 56 9 = 24 ∨ Z 56 6 < Z 56 7))) (k1 : ¬ x0 = 24) (hP : ∀ (z : Int) (Z' : xZ) (h' : mx_H), XH n s S Z' h' → GI n S Z' → fr' [(56, 6), (56, 7), (56, 9), (56, 10)] Z Z' → 0 ≤ z ∧ z ≤ 1 ∧ ((Z' 56 6 ≤ Z' 56 7 ∧ Z' 56 7 ≤ Z 56 8 ∧ (Z' 56 9 = 24 ∨ Z' 56 6 < Z' 56 7)) ∧ Z 56 6 ≤ Z' 56 6 ∧ (z = 1 → Z 56 11 = 0 ∧ Z 56 9 = x0 ∧ Z 56 6 + 1 ≤ Z' 56 6) ∧ (z = 0 → Z' 56 6 = Z 56 6 ∧ ¬ (Z 56 11 = 0 ∧ Z 56 9 = x0))) → Post (some (xI z), h')) : mx_J (tB l D b0 ad Hb tau) mt_165 (d + 6) 0 [some (.ref 56), some (xI x0)] [] h Post := by
    have a56 : 56 < n := lt83 (GI_n hG) rfl
    have s56 : S 56 = .inl (12, [0, 2, 2, 2, 2, 0, 0, 0, 0, 0, 0, 0, 0, 0, 0, 2, 2, 2, 0, 2, 2, 2, 0, 0, 2, 2, 2, 2, 2, 2, 0, 0, 2, 2, 2, 2, 2, 2, 2, 2, 2, 2]) := GI_s hG 56 rfl
    refine mx_J.step (sn_165 0) (fun _ _ => rfl) ?_
    refine mx_J.step (sn_165 1) (fun _ _ => rfl) ?_
    have b2 : 0 ≤ Z 56 9 ∧ Z 56 9 ≤ 100 := hG.pr 56 9
    have b3 : 0 ≤ Z 56 11 ∧ Z 56 11 ≤ 4 := hG.pr 56 11
    obtain ⟨z1, hc1, b1⟩ := ct_164_56 (d := d + 5) (l := l) (D := D) (b0 := b0) (ad := ad) (Hb := Hb) (tau := tau) hx hG (show 0 ≤ x0 ∧ x0 ≤ 100 by omega)
    refine Jcv hx (show mx_Sn _ _ 2 (mx_callv 164 2 12 5) from sn_165 2) a56 s56 hc1 rfl rfl rfl ?_
    refine Jif_ne (show mx_Sn _ _ 5 (mx_if_ne 10 8) from sn_165 5) (by omega) (fun q4 => ?_) (fun q4 => ?_)
    · skip
      refine mx_J.step (sn_165 10) (fun _ _ => rfl) ?_
      have b6 : 0 ≤ Z 56 7 ∧ Z 56 7 ≤ 900 := hG.pr 56 7
      have b7 : 0 ≤ Z 56 8 ∧ Z 56 8 ≤ 900 := hG.pr 56 8
      obtain ⟨Z5, h5, hc5, hx5, hG5, hf5, b5⟩ := ct_162_56 (d := d + 0) (l := l) (D := D) (b0 := b0) (ad := ad) (Hb := Hb) (tau := tau) hx hG  (show Z 56 7 ≤ Z 56 8 by omega)
      have b8 : 0 ≤ Z5 56 6 ∧ Z5 56 6 ≤ 900 := hG5.pr 56 6
      have b9 : 0 ≤ Z5 56 7 ∧ Z5 56 7 ≤ 900 := hG5.pr 56 7
      have b10 : 0 ≤ Z5 56 9 ∧ Z5 56 9 ≤ 100 := hG5.pr 56 9
      refine Jcv0 hx (show mx_Sn _ _ 11 (mx_callv 162 1 12 14) from sn_165 11) a56 s56 hc5 rfl rfl rfl ?_
      refine JcI (z := 1) (show mx_Sn _ _ 14 (mx_const (.int 1) 15) from sn_165 14) rfl ?_
      have b11 : 0 ≤ Z5 56 6 ∧ Z5 56 6 ≤ 900 := hG5.pr 56 6
      have b12 : 0 ≤ Z5 56 7 ∧ Z5 56 7 ≤ 900 := hG5.pr 56 7
      have b13 : 0 ≤ Z5 56 9 ∧ Z5 56 9 ≤ 100 := hG5.pr 56 9
      have b14 : 0 ≤ Z5 56 6 ∧ Z5 56 6 ≤ 900 := hG5.pr 56 6
      have b15 : 0 ≤ Z5 56 7 ∧ Z5 56 7 ≤ 900 := hG5.pr 56 7
      have eq16 : Z5 56 8 = Z 56 8 := (hf5 56 8 rfl)
      have b17 : 0 ≤ Z 56 8 ∧ Z 56 8 ≤ 900 := hG.pr 56 8
      have b18 : 0 ≤ Z5 56 9 ∧ Z5 56 9 ≤ 100 := hG5.pr 56 9
      have eq19 : Z5 56 11 = Z 56 11 := (hf5 56 11 rfl)
      have b20 : 0 ≤ Z 56 11 ∧ Z 56 11 ≤ 4 := hG.pr 56 11
      exact mx_J.ret (show mx_Sn _ _ 15 (mx_zret) from sn_165 15) (fun _ _ => zr_ok (by omega)) (hP 1 Z5 h5 hx5 hG5 (fr_tr (M := [(56, 6), (56, 7), (56, 9), (56, 10)]) fr_rf (hf5) (M1 := []) rfl rfl) (by omega))
    · skip
      refine JcI (z := 0) (show mx_Sn _ _ 8 (mx_const (.int 0) 9) from sn_165 8) rfl ?_
      have b21 : 0 ≤ Z 56 6 ∧ Z 56 6 ≤ 900 := hG.pr 56 6
      have b22 : 0 ≤ Z 56 7 ∧ Z 56 7 ≤ 900 := hG.pr 56 7
      have b23 : 0 ≤ Z 56 9 ∧ Z 56 9 ≤ 100 := hG.pr 56 9
      have b24 : 0 ≤ Z 56 6 ∧ Z 56 6 ≤ 900 := hG.pr 56 6
      have b25 : 0 ≤ Z 56 7 ∧ Z 56 7 ≤ 900 := hG.pr 56 7
      have b26 : 0 ≤ Z 56 8 ∧ Z 56 8 ≤ 900 := hG.pr 56 8
      have b27 : 0 ≤ Z 56 9 ∧ Z 56 9 ≤ 100 := hG.pr 56 9
      have b28 : 0 ≤ Z 56 11 ∧ Z 56 11 ≤ 4 := hG.pr 56 11
      exact mx_J.ret (show mx_Sn _ _ 9 (mx_zret) from sn_165 9) (fun _ _ => zr_ok (by omega)) (hP 0 Z h hx hG fr_rf (by omega))
theorem ct_165_56 {l : Launch} {D : va_G} {b0 : Nat} {ad : Nat → Nat} {Hb : Heap} {tau : Nat → Int64} {d n s : Nat} {S : Nat → xS} {Z : xZ} {h : mx_H} (hx : XH n s S Z h) (hG : GI n S Z)  {x0 : Int} (p0 : 0 ≤ x0 ∧ x0 ≤ 100) (k0 : (Z 56 6 ≤ Z 56 7 ∧ Z 56 7 ≤ Z 56 8 ∧ (Z 56 9 = 24 ∨ Z 56 6 < Z 56 7))) (k1 : ¬ x0 = 24) : ∃ (z : Int) (Z' : xZ) (h' : mx_H), mx_Ca (tB l D b0 ad Hb tau) (d + 7) 165 [.ref 56, xI x0] h (some (xI z), h') ∧ XH n s S Z' h' ∧ GI n S Z' ∧ fr' [(56, 6), (56, 7), (56, 9), (56, 10)] Z Z' ∧ (0 ≤ z ∧ z ≤ 1 ∧ ((Z' 56 6 ≤ Z' 56 7 ∧ Z' 56 7 ≤ Z 56 8 ∧ (Z' 56 9 = 24 ∨ Z' 56 6 < Z' 56 7)) ∧ Z 56 6 ≤ Z' 56 6 ∧ (z = 1 → Z 56 11 = 0 ∧ Z 56 9 = x0 ∧ Z 56 6 + 1 ≤ Z' 56 6) ∧ (z = 0 → Z' 56 6 = Z 56 6 ∧ ¬ (Z 56 11 = 0 ∧ Z 56 9 = x0)))) := by
  obtain ⟨r, hca, z, Z', h', e, q⟩ := Jmt (B := tB l D b0 ad Hb tau) (M := mt_165) (mi := 165) (as := [.ref 56, xI x0]) (d := d + 6) (ls := [some (.ref 56), some (xI x0)]) rfl rfl rfl rfl rfl rfl (cw_165_56 (l := l) (D := D) (b0 := b0) (ad := ad) (Hb := Hb) (tau := tau) (d := d) (Post := fun r => ∃ (z : Int) (Z' : xZ) (h' : mx_H), r = (some (xI z), h') ∧ XH n s S Z' h' ∧ GI n S Z' ∧ fr' [(56, 6), (56, 7), (56, 9), (56, 10)] Z Z' ∧ (0 ≤ z ∧ z ≤ 1 ∧ ((Z' 56 6 ≤ Z' 56 7 ∧ Z' 56 7 ≤ Z 56 8 ∧ (Z' 56 9 = 24 ∨ Z' 56 6 < Z' 56 7)) ∧ Z 56 6 ≤ Z' 56 6 ∧ (z = 1 → Z 56 11 = 0 ∧ Z 56 9 = x0 ∧ Z 56 6 + 1 ≤ Z' 56 6) ∧ (z = 0 → Z' 56 6 = Z 56 6 ∧ ¬ (Z 56 11 = 0 ∧ Z 56 9 = x0))))) hx hG p0 k0 k1 (fun z Z' h' q1 q2 q3 q4 => ⟨z, Z', h', rfl, q1, q2, q3, q4⟩))
  subst e; exact ⟨z, Z', h', hca, q⟩
set_option maxRecDepth 100000 in
theorem cw_169_56_0 {l : Launch} {D : va_G} {b0 : Nat} {ad : Nat → Nat} {Hb : Heap} {tau : Nat → Int64} {d n s : Nat} {S : Nat → xS} {Z : xZ} {h : mx_H} {Post : mx_R → Prop} {a0 : Int} (hx : XH n s S Z h) (hG : GI n S Z)  {x0 : Int} (p0 : 0 ≤ x0 ∧ x0 ≤ 1004) (k0 : (Z 56 11 = 0 → Z 60 61 ≤ 899)) (k1 : a0 ≤ Z 60 61) (k2 : 0 ≤ a0) (hP : ∀ (Z' : xZ) (h' : mx_H), XH n s S Z' h' → GI n S Z' → fr' [(60, (-1))] Z Z' → QC Z Z' a0 1 0 ∧ (Z' 60 1 = Z 60 1 ∧ Z' 60 2 = Z 60 2 ∧ ((¬ Z 56 11 = 0 ∧ Z' 60 61 = Z 60 61) ∨ (Z 56 11 = 0 ∧ Z' 60 61 = Z 60 61 + 1))) → Post (none, h')) : mx_J (tB l D b0 ad Hb tau) mt_169 (d + 0) 0 [some (.ref 56), some (xI x0)] [] h Post := by
    have a56 : 56 < n := lt83 (GI_n hG) rfl
    have s56 : S 56 = .inl (12, [0, 2, 2, 2, 2, 0, 0, 0, 0, 0, 0, 0, 0, 0, 0, 2, 2, 2, 0, 2, 2, 2, 0, 0, 2, 2, 2, 2, 2, 2, 0, 0, 2, 2, 2, 2, 2, 2, 2, 2, 2, 2]) := GI_s hG 56 rfl
    have a60 : 60 < n := lt83 (GI_n hG) rfl
    have s60 : S 60 = .inr (.int, 962, 0) := GI_s hG 60 rfl
    refine mx_J.step (sn_169 0) (fun _ _ => rfl) ?_
    have b2 : 0 ≤ Z 56 11 ∧ Z 56 11 ≤ 4 := hG.pr 56 11
    refine JgetI (g := 11) (z := Z 56 11) hx (show mx_Sn _ _ 1 (mx_getf 12 11 4) from sn_169 1) a56 s56 rfl rfl rfl ?_
    refine Jif_eq (show mx_Sn _ _ 4 (mx_if_eq 8 7) from sn_169 4) (by omega) (fun q3 => ?_) (fun q3 => ?_)
    · skip
      refine mx_J.step (sn_169 8) (fun _ _ => rfl) ?_
      refine JgetR (g := 4) (b := 60) hx (show mx_Sn _ _ 9 (mx_getf 12 4 12) from sn_169 9) a56 s56 rfl rfl (hG.prr 56 4 rfl) ?_
      refine JcI (z := 62) (show mx_Sn _ _ 12 (mx_const (.int 62) 14) from sn_169 12) rfl ?_
      refine mx_J.step (sn_169 14) (fun _ _ => rfl) ?_
      refine JgetR (g := 4) (b := 60) hx (show mx_Sn _ _ 15 (mx_getf 12 4 18) from sn_169 15) a56 s56 rfl rfl (hG.prr 56 4 rfl) ?_
      refine JcI (z := 61) (show mx_Sn _ _ 18 (mx_const (.int 61) 20) from sn_169 18) rfl ?_
      have b6 : 0 ≤ Z 60 61 ∧ Z 60 61 ≤ 900 := by have hq := GI_ex hG 60 61; replace hq : f60 (61 % 962) (Z 60 61) := hq; unfold f60 at hq; omega
      have b7 : (-2147483648) ≤ Z 60 61 ∧ Z 60 61 ≤ 2147483647 := hG.pr 60 61
      refine JialdI (z := Z 60 61) hx (show mx_Sn _ _ 20 (mx_iald 21) from sn_169 20) a60 s60 (by omega) rfl ?_
      refine Jiadd (show mx_Sn _ _ 21 (mx_iadd 22) from sn_169 21) ?_
      refine mx_J.step (sn_169 22) (fun _ _ => rfl) ?_
      refine JiastI hx (show mx_Sn _ _ 23 (mx_iast 1 24) from sn_169 23) a60 s60 rfl (by omega) (fun Z8 h8 hx8 hE8 => ?_)
      have hG8 := GI_up hG hE8 (show (-2147483648) ≤ x0 ∧ x0 ≤ 2147483647 by omega) (show f60 ((62 + (Z 60 61)) % 962) (x0) by first | (rw [Int.emod_eq_of_lt (by omega) (by omega)]; unfold f60; omega) | assumption | (unfold f60; omega) | (unfold f60 at *; omega)) rfl
      refine mx_J.step (sn_169 24) (fun _ _ => rfl) ?_
      refine JgetR (g := 4) (b := 60) hx8 (show mx_Sn _ _ 25 (mx_getf 12 4 28) from sn_169 25) a56 s56 rfl rfl (hG8.prr 56 4 rfl) ?_
      refine JcI (z := 61) (show mx_Sn _ _ 28 (mx_const (.int 61) 30) from sn_169 28) rfl ?_
      refine mx_J.step (sn_169 30) (fun _ _ => rfl) ?_
      have b10 : 0 ≤ Z 60 61 ∧ Z 60 61 ≤ 900 := by have hq := GI_ex hG 60 61; replace hq : f60 (61 % 962) (Z 60 61) := hq; unfold f60 at hq; omega
      have b11 : (-2147483648) ≤ Z 60 61 ∧ Z 60 61 ≤ 2147483647 := hG.pr 60 61
      refine JialdI (z := Z 60 61) hx8 (show mx_Sn _ _ 31 (mx_iald 32) from sn_169 31) a60 s60 (by omega) (up_ni hE8 (by omega)) ?_
      refine JcI (z := 1) (show mx_Sn _ _ 32 (mx_const (.int 1) 33) from sn_169 32) rfl ?_
      refine Jiadd (show mx_Sn _ _ 33 (mx_iadd 34) from sn_169 33) ?_
      refine JiastI hx8 (show mx_Sn _ _ 34 (mx_iast 1 35) from sn_169 34) a60 s60 rfl (by omega) (fun Z12 h12 hx12 hE12 => ?_)
      have hG12 := GI_up hG8 hE12 (show (-2147483648) ≤ (Z 60 61) + 1 ∧ (Z 60 61) + 1 ≤ 2147483647 by omega) (show f60 ((61) % 962) ((Z 60 61) + 1) by first | assumption | (unfold f60; omega) | (unfold f60 at *; omega)) rfl
      have c1 := cd_dp (a := a0) hE8 hE12 (by omega) (by omega)
      have dv := dl_e x0
      have c2 : MW Z a0 = 1 → nd x0 ≤ DP Z a0 → MW Z12 a0 = 1 := fun h1 h2 => cd_mw hE8 hE12 h1 (by unfold okc; omega) h2
      have c3 : WFF Z = 1 → WFF Z12 = 1 := cd_wf hE8 hE12 (by omega)
      have eq13 : Z12 60 61 = (Z 60 61) + 1 := (up_at hE12)
      have eq14 : Z12 60 1 = Z 60 1 := ((up_ni hE12 (by decide)).trans (up_ni hE8 (by omega)))
      have b15 : 0 ≤ Z 60 1 ∧ Z 60 1 ≤ 18 := by have hq := GI_ex hG 60 1; replace hq : f60 (1 % 962) (Z 60 1) := hq; unfold f60 at hq; omega
      have b16 : (-2147483648) ≤ Z 60 1 ∧ Z 60 1 ≤ 2147483647 := hG.pr 60 1
      have eq17 : Z12 60 2 = Z 60 2 := ((up_ni hE12 (by decide)).trans (up_ni hE8 (by omega)))
      have b18 : 0 ≤ Z 60 2 ∧ Z 60 2 ≤ 18 := by have hq := GI_ex hG 60 2; replace hq : f60 (2 % 962) (Z 60 2) := hq; unfold f60 at hq; omega
      have b19 : (-2147483648) ≤ Z 60 2 ∧ Z 60 2 ≤ 2147483647 := hG.pr 60 2
      have eq20 : Z12 56 8 = Z 56 8 := ((up_nk hE12 rfl).trans (up_nk hE8 rfl))
      have b21 : 0 ≤ Z 56 8 ∧ Z 56 8 ≤ 900 := hG.pr 56 8
      have eq22 : Z12 56 11 = Z 56 11 := ((up_nk hE12 rfl).trans (up_nk hE8 rfl))
      have b23 : 0 ≤ Z 56 11 ∧ Z 56 11 ≤ 4 := hG.pr 56 11
      have eq24 : Z12 60 61 = (Z 60 61) + 1 := (up_at hE12)
      have eq25 : Z12 60 1 = Z 60 1 := ((up_ni hE12 (by decide)).trans (up_ni hE8 (by omega)))
      have b26 : 0 ≤ Z 60 1 ∧ Z 60 1 ≤ 18 := by have hq := GI_ex hG 60 1; replace hq : f60 (1 % 962) (Z 60 1) := hq; unfold f60 at hq; omega
      have b27 : (-2147483648) ≤ Z 60 1 ∧ Z 60 1 ≤ 2147483647 := hG.pr 60 1
      have eq28 : Z12 60 2 = Z 60 2 := ((up_ni hE12 (by decide)).trans (up_ni hE8 (by omega)))
      have b29 : 0 ≤ Z 60 2 ∧ Z 60 2 ≤ 18 := by have hq := GI_ex hG 60 2; replace hq : f60 (2 % 962) (Z 60 2) := hq; unfold f60 at hq; omega
      have b30 : (-2147483648) ≤ Z 60 2 ∧ Z 60 2 ≤ 2147483647 := hG.pr 60 2
      exact mx_J.ret (sn_169 35) (fun _ _ => rfl) (hP Z12 h12 hx12 hG12 (fr_tr (M := [(60, (-1))]) (fr_tr (M := [(60, (-1))]) fr_rf (fr_ua hE8) (M1 := []) rfl rfl) (fr_ua hE12) rfl rfl) ⟨fun e => ⟨by omega, fun h1 h2 => c2 h1 (by omega), c3⟩, by omega⟩)
    · skip
      have b31 : 0 ≤ Z 60 61 ∧ Z 60 61 ≤ 900 := by have hq := GI_ex hG 60 61; replace hq : f60 (61 % 962) (Z 60 61) := hq; unfold f60 at hq; omega
      have b32 : (-2147483648) ≤ Z 60 61 ∧ Z 60 61 ≤ 2147483647 := hG.pr 60 61
      have b33 : 0 ≤ Z 60 1 ∧ Z 60 1 ≤ 18 := by have hq := GI_ex hG 60 1; replace hq : f60 (1 % 962) (Z 60 1) := hq; unfold f60 at hq; omega
      have b34 : (-2147483648) ≤ Z 60 1 ∧ Z 60 1 ≤ 2147483647 := hG.pr 60 1
      have b35 : 0 ≤ Z 60 2 ∧ Z 60 2 ≤ 18 := by have hq := GI_ex hG 60 2; replace hq : f60 (2 % 962) (Z 60 2) := hq; unfold f60 at hq; omega
      have b36 : (-2147483648) ≤ Z 60 2 ∧ Z 60 2 ≤ 2147483647 := hG.pr 60 2
      have b37 : 0 ≤ Z 56 8 ∧ Z 56 8 ≤ 900 := hG.pr 56 8
      have b38 : 0 ≤ Z 56 11 ∧ Z 56 11 ≤ 4 := hG.pr 56 11
      have b39 : 0 ≤ Z 60 61 ∧ Z 60 61 ≤ 900 := by have hq := GI_ex hG 60 61; replace hq : f60 (61 % 962) (Z 60 61) := hq; unfold f60 at hq; omega
      have b40 : (-2147483648) ≤ Z 60 61 ∧ Z 60 61 ≤ 2147483647 := hG.pr 60 61
      have b41 : 0 ≤ Z 60 1 ∧ Z 60 1 ≤ 18 := by have hq := GI_ex hG 60 1; replace hq : f60 (1 % 962) (Z 60 1) := hq; unfold f60 at hq; omega
      have b42 : (-2147483648) ≤ Z 60 1 ∧ Z 60 1 ≤ 2147483647 := hG.pr 60 1
      have b43 : 0 ≤ Z 60 2 ∧ Z 60 2 ≤ 18 := by have hq := GI_ex hG 60 2; replace hq : f60 (2 % 962) (Z 60 2) := hq; unfold f60 at hq; omega
      have b44 : (-2147483648) ≤ Z 60 2 ∧ Z 60 2 ≤ 2147483647 := hG.pr 60 2
      exact mx_J.ret (sn_169 7) (fun _ _ => rfl) (hP Z h hx hG fr_rf ⟨fun e => absurd e (by omega), by omega⟩)
theorem ct_169_56_0 {l : Launch} {D : va_G} {b0 : Nat} {ad : Nat → Nat} {Hb : Heap} {tau : Nat → Int64} {d n s : Nat} {S : Nat → xS} {Z : xZ} {h : mx_H} {a0 : Int} (hx : XH n s S Z h) (hG : GI n S Z)  {x0 : Int} (p0 : 0 ≤ x0 ∧ x0 ≤ 1004) (k0 : (Z 56 11 = 0 → Z 60 61 ≤ 899)) (k1 : a0 ≤ Z 60 61) (k2 : 0 ≤ a0) : ∃ (Z' : xZ) (h' : mx_H), mx_Ca (tB l D b0 ad Hb tau) (d + 1) 169 [.ref 56, xI x0] h (none, h') ∧ XH n s S Z' h' ∧ GI n S Z' ∧ fr' [(60, (-1))] Z Z' ∧ (QC Z Z' a0 1 0 ∧ (Z' 60 1 = Z 60 1 ∧ Z' 60 2 = Z 60 2 ∧ ((¬ Z 56 11 = 0 ∧ Z' 60 61 = Z 60 61) ∨ (Z 56 11 = 0 ∧ Z' 60 61 = Z 60 61 + 1)))) := by
  obtain ⟨r, hca, Z', h', e, q⟩ := Jmt (B := tB l D b0 ad Hb tau) (M := mt_169) (mi := 169) (as := [.ref 56, xI x0]) (d := d + 0) (ls := [some (.ref 56), some (xI x0)]) rfl rfl rfl rfl rfl rfl (cw_169_56_0 (l := l) (D := D) (b0 := b0) (ad := ad) (Hb := Hb) (tau := tau) (d := d) (Post := fun r => ∃ (Z' : xZ) (h' : mx_H), r = (none, h') ∧ XH n s S Z' h' ∧ GI n S Z' ∧ fr' [(60, (-1))] Z Z' ∧ (QC Z Z' a0 1 0 ∧ (Z' 60 1 = Z 60 1 ∧ Z' 60 2 = Z 60 2 ∧ ((¬ Z 56 11 = 0 ∧ Z' 60 61 = Z 60 61) ∨ (Z 56 11 = 0 ∧ Z' 60 61 = Z 60 61 + 1))))) hx hG p0 k0 k1 k2 (fun Z' h' q1 q2 q3 q4 => ⟨Z', h', rfl, q1, q2, q3, q4⟩))
  subst e; exact ⟨Z', h', hca, q⟩
set_option maxRecDepth 100000 in
theorem cw_169_56_3006 {l : Launch} {D : va_G} {b0 : Nat} {ad : Nat → Nat} {Hb : Heap} {tau : Nat → Int64} {d n s : Nat} {S : Nat → xS} {Z : xZ} {h : mx_H} {Post : mx_R → Prop} {a0 : Int} (hx : XH n s S Z h) (hG : GI n S Z)   (k0 : (Z 56 11 = 0 → Z 60 61 ≤ 899)) (k1 : a0 ≤ Z 60 61) (k2 : 0 ≤ a0) (hP : ∀ (Z' : xZ) (h' : mx_H), XH n s S Z' h' → GI n S Z' → fr' [(60, (-1))] Z Z' → QC Z Z' a0 0 1 ∧ (Z' 60 1 = Z 60 1 ∧ Z' 60 2 = Z 60 2 ∧ ((¬ Z 56 11 = 0 ∧ Z' 60 61 = Z 60 61) ∨ (Z 56 11 = 0 ∧ Z' 60 61 = Z 60 61 + 1))) → Post (none, h')) : mx_J (tB l D b0 ad Hb tau) mt_169 (d + 0) 0 [some (.ref 56), some (xI 3006)] [] h Post := by
    have a56 : 56 < n := lt83 (GI_n hG) rfl
    have s56 : S 56 = .inl (12, [0, 2, 2, 2, 2, 0, 0, 0, 0, 0, 0, 0, 0, 0, 0, 2, 2, 2, 0, 2, 2, 2, 0, 0, 2, 2, 2, 2, 2, 2, 0, 0, 2, 2, 2, 2, 2, 2, 2, 2, 2, 2]) := GI_s hG 56 rfl
    have a60 : 60 < n := lt83 (GI_n hG) rfl
    have s60 : S 60 = .inr (.int, 962, 0) := GI_s hG 60 rfl
    refine mx_J.step (sn_169 0) (fun _ _ => rfl) ?_
    have b2 : 0 ≤ Z 56 11 ∧ Z 56 11 ≤ 4 := hG.pr 56 11
    refine JgetI (g := 11) (z := Z 56 11) hx (show mx_Sn _ _ 1 (mx_getf 12 11 4) from sn_169 1) a56 s56 rfl rfl rfl ?_
    refine Jif_eq (show mx_Sn _ _ 4 (mx_if_eq 8 7) from sn_169 4) (by omega) (fun q3 => ?_) (fun q3 => ?_)
    · skip
      refine mx_J.step (sn_169 8) (fun _ _ => rfl) ?_
      refine JgetR (g := 4) (b := 60) hx (show mx_Sn _ _ 9 (mx_getf 12 4 12) from sn_169 9) a56 s56 rfl rfl (hG.prr 56 4 rfl) ?_
      refine JcI (z := 62) (show mx_Sn _ _ 12 (mx_const (.int 62) 14) from sn_169 12) rfl ?_
      refine mx_J.step (sn_169 14) (fun _ _ => rfl) ?_
      refine JgetR (g := 4) (b := 60) hx (show mx_Sn _ _ 15 (mx_getf 12 4 18) from sn_169 15) a56 s56 rfl rfl (hG.prr 56 4 rfl) ?_
      refine JcI (z := 61) (show mx_Sn _ _ 18 (mx_const (.int 61) 20) from sn_169 18) rfl ?_
      have b6 : 0 ≤ Z 60 61 ∧ Z 60 61 ≤ 900 := by have hq := GI_ex hG 60 61; replace hq : f60 (61 % 962) (Z 60 61) := hq; unfold f60 at hq; omega
      have b7 : (-2147483648) ≤ Z 60 61 ∧ Z 60 61 ≤ 2147483647 := hG.pr 60 61
      refine JialdI (z := Z 60 61) hx (show mx_Sn _ _ 20 (mx_iald 21) from sn_169 20) a60 s60 (by omega) rfl ?_
      refine Jiadd (show mx_Sn _ _ 21 (mx_iadd 22) from sn_169 21) ?_
      refine mx_J.step (sn_169 22) (fun _ _ => rfl) ?_
      refine JiastI hx (show mx_Sn _ _ 23 (mx_iast 1 24) from sn_169 23) a60 s60 rfl (by omega) (fun Z8 h8 hx8 hE8 => ?_)
      have hG8 := GI_up hG hE8 (show (-2147483648) ≤ 3006 ∧ 3006 ≤ 2147483647 by omega) (show f60 ((62 + (Z 60 61)) % 962) (3006) by first | (rw [Int.emod_eq_of_lt (by omega) (by omega)]; unfold f60; omega) | assumption | (unfold f60; omega) | (unfold f60 at *; omega)) rfl
      refine mx_J.step (sn_169 24) (fun _ _ => rfl) ?_
      refine JgetR (g := 4) (b := 60) hx8 (show mx_Sn _ _ 25 (mx_getf 12 4 28) from sn_169 25) a56 s56 rfl rfl (hG8.prr 56 4 rfl) ?_
      refine JcI (z := 61) (show mx_Sn _ _ 28 (mx_const (.int 61) 30) from sn_169 28) rfl ?_
      refine mx_J.step (sn_169 30) (fun _ _ => rfl) ?_
      have b10 : 0 ≤ Z 60 61 ∧ Z 60 61 ≤ 900 := by have hq := GI_ex hG 60 61; replace hq : f60 (61 % 962) (Z 60 61) := hq; unfold f60 at hq; omega
      have b11 : (-2147483648) ≤ Z 60 61 ∧ Z 60 61 ≤ 2147483647 := hG.pr 60 61
      refine JialdI (z := Z 60 61) hx8 (show mx_Sn _ _ 31 (mx_iald 32) from sn_169 31) a60 s60 (by omega) (up_ni hE8 (by omega)) ?_
      refine JcI (z := 1) (show mx_Sn _ _ 32 (mx_const (.int 1) 33) from sn_169 32) rfl ?_
      refine Jiadd (show mx_Sn _ _ 33 (mx_iadd 34) from sn_169 33) ?_
      refine JiastI hx8 (show mx_Sn _ _ 34 (mx_iast 1 35) from sn_169 34) a60 s60 rfl (by omega) (fun Z12 h12 hx12 hE12 => ?_)
      have hG12 := GI_up hG8 hE12 (show (-2147483648) ≤ (Z 60 61) + 1 ∧ (Z 60 61) + 1 ≤ 2147483647 by omega) (show f60 ((61) % 962) ((Z 60 61) + 1) by first | assumption | (unfold f60; omega) | (unfold f60 at *; omega)) rfl
      have c1 := cd_dp (a := a0) hE8 hE12 (by omega) (by omega)
      have dv := dl_e 3006
      have c2 : MW Z a0 = 1 → nd 3006 ≤ DP Z a0 → MW Z12 a0 = 1 := fun h1 h2 => cd_mw hE8 hE12 h1 (by unfold okc; omega) h2
      have c3 : WFF Z = 1 → WFF Z12 = 1 := cd_wf hE8 hE12 (by omega)
      have eq13 : Z12 60 61 = (Z 60 61) + 1 := (up_at hE12)
      have eq14 : Z12 60 1 = Z 60 1 := ((up_ni hE12 (by decide)).trans (up_ni hE8 (by omega)))
      have b15 : 0 ≤ Z 60 1 ∧ Z 60 1 ≤ 18 := by have hq := GI_ex hG 60 1; replace hq : f60 (1 % 962) (Z 60 1) := hq; unfold f60 at hq; omega
      have b16 : (-2147483648) ≤ Z 60 1 ∧ Z 60 1 ≤ 2147483647 := hG.pr 60 1
      have eq17 : Z12 60 2 = Z 60 2 := ((up_ni hE12 (by decide)).trans (up_ni hE8 (by omega)))
      have b18 : 0 ≤ Z 60 2 ∧ Z 60 2 ≤ 18 := by have hq := GI_ex hG 60 2; replace hq : f60 (2 % 962) (Z 60 2) := hq; unfold f60 at hq; omega
      have b19 : (-2147483648) ≤ Z 60 2 ∧ Z 60 2 ≤ 2147483647 := hG.pr 60 2
      have eq20 : Z12 56 8 = Z 56 8 := ((up_nk hE12 rfl).trans (up_nk hE8 rfl))
      have b21 : 0 ≤ Z 56 8 ∧ Z 56 8 ≤ 900 := hG.pr 56 8
      have eq22 : Z12 56 11 = Z 56 11 := ((up_nk hE12 rfl).trans (up_nk hE8 rfl))
      have b23 : 0 ≤ Z 56 11 ∧ Z 56 11 ≤ 4 := hG.pr 56 11
      have eq24 : Z12 60 61 = (Z 60 61) + 1 := (up_at hE12)
      have eq25 : Z12 60 1 = Z 60 1 := ((up_ni hE12 (by decide)).trans (up_ni hE8 (by omega)))
      have b26 : 0 ≤ Z 60 1 ∧ Z 60 1 ≤ 18 := by have hq := GI_ex hG 60 1; replace hq : f60 (1 % 962) (Z 60 1) := hq; unfold f60 at hq; omega
      have b27 : (-2147483648) ≤ Z 60 1 ∧ Z 60 1 ≤ 2147483647 := hG.pr 60 1
      have eq28 : Z12 60 2 = Z 60 2 := ((up_ni hE12 (by decide)).trans (up_ni hE8 (by omega)))
      have b29 : 0 ≤ Z 60 2 ∧ Z 60 2 ≤ 18 := by have hq := GI_ex hG 60 2; replace hq : f60 (2 % 962) (Z 60 2) := hq; unfold f60 at hq; omega
      have b30 : (-2147483648) ≤ Z 60 2 ∧ Z 60 2 ≤ 2147483647 := hG.pr 60 2
      exact mx_J.ret (sn_169 35) (fun _ _ => rfl) (hP Z12 h12 hx12 hG12 (fr_tr (M := [(60, (-1))]) (fr_tr (M := [(60, (-1))]) fr_rf (fr_ua hE8) (M1 := []) rfl rfl) (fr_ua hE12) rfl rfl) ⟨fun e => ⟨by omega, fun h1 h2 => c2 h1 (by omega), c3⟩, by omega⟩)
    · skip
      have b31 : 0 ≤ Z 60 61 ∧ Z 60 61 ≤ 900 := by have hq := GI_ex hG 60 61; replace hq : f60 (61 % 962) (Z 60 61) := hq; unfold f60 at hq; omega
      have b32 : (-2147483648) ≤ Z 60 61 ∧ Z 60 61 ≤ 2147483647 := hG.pr 60 61
      have b33 : 0 ≤ Z 60 1 ∧ Z 60 1 ≤ 18 := by have hq := GI_ex hG 60 1; replace hq : f60 (1 % 962) (Z 60 1) := hq; unfold f60 at hq; omega
      have b34 : (-2147483648) ≤ Z 60 1 ∧ Z 60 1 ≤ 2147483647 := hG.pr 60 1
      have b35 : 0 ≤ Z 60 2 ∧ Z 60 2 ≤ 18 := by have hq := GI_ex hG 60 2; replace hq : f60 (2 % 962) (Z 60 2) := hq; unfold f60 at hq; omega
      have b36 : (-2147483648) ≤ Z 60 2 ∧ Z 60 2 ≤ 2147483647 := hG.pr 60 2
      have b37 : 0 ≤ Z 56 8 ∧ Z 56 8 ≤ 900 := hG.pr 56 8
      have b38 : 0 ≤ Z 56 11 ∧ Z 56 11 ≤ 4 := hG.pr 56 11
      have b39 : 0 ≤ Z 60 61 ∧ Z 60 61 ≤ 900 := by have hq := GI_ex hG 60 61; replace hq : f60 (61 % 962) (Z 60 61) := hq; unfold f60 at hq; omega
      have b40 : (-2147483648) ≤ Z 60 61 ∧ Z 60 61 ≤ 2147483647 := hG.pr 60 61
      have b41 : 0 ≤ Z 60 1 ∧ Z 60 1 ≤ 18 := by have hq := GI_ex hG 60 1; replace hq : f60 (1 % 962) (Z 60 1) := hq; unfold f60 at hq; omega
      have b42 : (-2147483648) ≤ Z 60 1 ∧ Z 60 1 ≤ 2147483647 := hG.pr 60 1
      have b43 : 0 ≤ Z 60 2 ∧ Z 60 2 ≤ 18 := by have hq := GI_ex hG 60 2; replace hq : f60 (2 % 962) (Z 60 2) := hq; unfold f60 at hq; omega
      have b44 : (-2147483648) ≤ Z 60 2 ∧ Z 60 2 ≤ 2147483647 := hG.pr 60 2
      exact mx_J.ret (sn_169 7) (fun _ _ => rfl) (hP Z h hx hG fr_rf ⟨fun e => absurd e (by omega), by omega⟩)
theorem ct_169_56_3006 {l : Launch} {D : va_G} {b0 : Nat} {ad : Nat → Nat} {Hb : Heap} {tau : Nat → Int64} {d n s : Nat} {S : Nat → xS} {Z : xZ} {h : mx_H} {a0 : Int} (hx : XH n s S Z h) (hG : GI n S Z)   (k0 : (Z 56 11 = 0 → Z 60 61 ≤ 899)) (k1 : a0 ≤ Z 60 61) (k2 : 0 ≤ a0) : ∃ (Z' : xZ) (h' : mx_H), mx_Ca (tB l D b0 ad Hb tau) (d + 1) 169 [.ref 56, xI 3006] h (none, h') ∧ XH n s S Z' h' ∧ GI n S Z' ∧ fr' [(60, (-1))] Z Z' ∧ (QC Z Z' a0 0 1 ∧ (Z' 60 1 = Z 60 1 ∧ Z' 60 2 = Z 60 2 ∧ ((¬ Z 56 11 = 0 ∧ Z' 60 61 = Z 60 61) ∨ (Z 56 11 = 0 ∧ Z' 60 61 = Z 60 61 + 1)))) := by
  obtain ⟨r, hca, Z', h', e, q⟩ := Jmt (B := tB l D b0 ad Hb tau) (M := mt_169) (mi := 169) (as := [.ref 56, xI 3006]) (d := d + 0) (ls := [some (.ref 56), some (xI 3006)]) rfl rfl rfl rfl rfl rfl (cw_169_56_3006 (l := l) (D := D) (b0 := b0) (ad := ad) (Hb := Hb) (tau := tau) (d := d) (Post := fun r => ∃ (Z' : xZ) (h' : mx_H), r = (none, h') ∧ XH n s S Z' h' ∧ GI n S Z' ∧ fr' [(60, (-1))] Z Z' ∧ (QC Z Z' a0 0 1 ∧ (Z' 60 1 = Z 60 1 ∧ Z' 60 2 = Z 60 2 ∧ ((¬ Z 56 11 = 0 ∧ Z' 60 61 = Z 60 61) ∨ (Z 56 11 = 0 ∧ Z' 60 61 = Z 60 61 + 1))))) hx hG k0 k1 k2 (fun Z' h' q1 q2 q3 q4 => ⟨Z', h', rfl, q1, q2, q3, q4⟩))
  subst e; exact ⟨Z', h', hca, q⟩
set_option maxRecDepth 100000 in
theorem cw_169_56_3009 {l : Launch} {D : va_G} {b0 : Nat} {ad : Nat → Nat} {Hb : Heap} {tau : Nat → Int64} {d n s : Nat} {S : Nat → xS} {Z : xZ} {h : mx_H} {Post : mx_R → Prop} {a0 : Int} (hx : XH n s S Z h) (hG : GI n S Z)   (k0 : (Z 56 11 = 0 → Z 60 61 ≤ 899)) (k1 : a0 ≤ Z 60 61) (k2 : 0 ≤ a0) (hP : ∀ (Z' : xZ) (h' : mx_H), XH n s S Z' h' → GI n S Z' → fr' [(60, (-1))] Z Z' → QC Z Z' a0 (-2) 3 ∧ (Z' 60 1 = Z 60 1 ∧ Z' 60 2 = Z 60 2 ∧ ((¬ Z 56 11 = 0 ∧ Z' 60 61 = Z 60 61) ∨ (Z 56 11 = 0 ∧ Z' 60 61 = Z 60 61 + 1))) → Post (none, h')) : mx_J (tB l D b0 ad Hb tau) mt_169 (d + 0) 0 [some (.ref 56), some (xI 3009)] [] h Post := by
    have a56 : 56 < n := lt83 (GI_n hG) rfl
    have s56 : S 56 = .inl (12, [0, 2, 2, 2, 2, 0, 0, 0, 0, 0, 0, 0, 0, 0, 0, 2, 2, 2, 0, 2, 2, 2, 0, 0, 2, 2, 2, 2, 2, 2, 0, 0, 2, 2, 2, 2, 2, 2, 2, 2, 2, 2]) := GI_s hG 56 rfl
    have a60 : 60 < n := lt83 (GI_n hG) rfl
    have s60 : S 60 = .inr (.int, 962, 0) := GI_s hG 60 rfl
    refine mx_J.step (sn_169 0) (fun _ _ => rfl) ?_
    have b2 : 0 ≤ Z 56 11 ∧ Z 56 11 ≤ 4 := hG.pr 56 11
    refine JgetI (g := 11) (z := Z 56 11) hx (show mx_Sn _ _ 1 (mx_getf 12 11 4) from sn_169 1) a56 s56 rfl rfl rfl ?_
    refine Jif_eq (show mx_Sn _ _ 4 (mx_if_eq 8 7) from sn_169 4) (by omega) (fun q3 => ?_) (fun q3 => ?_)
    · skip
      refine mx_J.step (sn_169 8) (fun _ _ => rfl) ?_
      refine JgetR (g := 4) (b := 60) hx (show mx_Sn _ _ 9 (mx_getf 12 4 12) from sn_169 9) a56 s56 rfl rfl (hG.prr 56 4 rfl) ?_
      refine JcI (z := 62) (show mx_Sn _ _ 12 (mx_const (.int 62) 14) from sn_169 12) rfl ?_
      refine mx_J.step (sn_169 14) (fun _ _ => rfl) ?_
      refine JgetR (g := 4) (b := 60) hx (show mx_Sn _ _ 15 (mx_getf 12 4 18) from sn_169 15) a56 s56 rfl rfl (hG.prr 56 4 rfl) ?_
      refine JcI (z := 61) (show mx_Sn _ _ 18 (mx_const (.int 61) 20) from sn_169 18) rfl ?_
      have b6 : 0 ≤ Z 60 61 ∧ Z 60 61 ≤ 900 := by have hq := GI_ex hG 60 61; replace hq : f60 (61 % 962) (Z 60 61) := hq; unfold f60 at hq; omega
      have b7 : (-2147483648) ≤ Z 60 61 ∧ Z 60 61 ≤ 2147483647 := hG.pr 60 61
      refine JialdI (z := Z 60 61) hx (show mx_Sn _ _ 20 (mx_iald 21) from sn_169 20) a60 s60 (by omega) rfl ?_
      refine Jiadd (show mx_Sn _ _ 21 (mx_iadd 22) from sn_169 21) ?_
      refine mx_J.step (sn_169 22) (fun _ _ => rfl) ?_
      refine JiastI hx (show mx_Sn _ _ 23 (mx_iast 1 24) from sn_169 23) a60 s60 rfl (by omega) (fun Z8 h8 hx8 hE8 => ?_)
      have hG8 := GI_up hG hE8 (show (-2147483648) ≤ 3009 ∧ 3009 ≤ 2147483647 by omega) (show f60 ((62 + (Z 60 61)) % 962) (3009) by first | (rw [Int.emod_eq_of_lt (by omega) (by omega)]; unfold f60; omega) | assumption | (unfold f60; omega) | (unfold f60 at *; omega)) rfl
      refine mx_J.step (sn_169 24) (fun _ _ => rfl) ?_
      refine JgetR (g := 4) (b := 60) hx8 (show mx_Sn _ _ 25 (mx_getf 12 4 28) from sn_169 25) a56 s56 rfl rfl (hG8.prr 56 4 rfl) ?_
      refine JcI (z := 61) (show mx_Sn _ _ 28 (mx_const (.int 61) 30) from sn_169 28) rfl ?_
      refine mx_J.step (sn_169 30) (fun _ _ => rfl) ?_
      have b10 : 0 ≤ Z 60 61 ∧ Z 60 61 ≤ 900 := by have hq := GI_ex hG 60 61; replace hq : f60 (61 % 962) (Z 60 61) := hq; unfold f60 at hq; omega
      have b11 : (-2147483648) ≤ Z 60 61 ∧ Z 60 61 ≤ 2147483647 := hG.pr 60 61
      refine JialdI (z := Z 60 61) hx8 (show mx_Sn _ _ 31 (mx_iald 32) from sn_169 31) a60 s60 (by omega) (up_ni hE8 (by omega)) ?_
      refine JcI (z := 1) (show mx_Sn _ _ 32 (mx_const (.int 1) 33) from sn_169 32) rfl ?_
      refine Jiadd (show mx_Sn _ _ 33 (mx_iadd 34) from sn_169 33) ?_
      refine JiastI hx8 (show mx_Sn _ _ 34 (mx_iast 1 35) from sn_169 34) a60 s60 rfl (by omega) (fun Z12 h12 hx12 hE12 => ?_)
      have hG12 := GI_up hG8 hE12 (show (-2147483648) ≤ (Z 60 61) + 1 ∧ (Z 60 61) + 1 ≤ 2147483647 by omega) (show f60 ((61) % 962) ((Z 60 61) + 1) by first | assumption | (unfold f60; omega) | (unfold f60 at *; omega)) rfl
      have c1 := cd_dp (a := a0) hE8 hE12 (by omega) (by omega)
      have dv := dl_e 3009
      have c2 : MW Z a0 = 1 → nd 3009 ≤ DP Z a0 → MW Z12 a0 = 1 := fun h1 h2 => cd_mw hE8 hE12 h1 (by unfold okc; omega) h2
      have c3 : WFF Z = 1 → WFF Z12 = 1 := cd_wf hE8 hE12 (by omega)
      have eq13 : Z12 60 61 = (Z 60 61) + 1 := (up_at hE12)
      have eq14 : Z12 60 1 = Z 60 1 := ((up_ni hE12 (by decide)).trans (up_ni hE8 (by omega)))
      have b15 : 0 ≤ Z 60 1 ∧ Z 60 1 ≤ 18 := by have hq := GI_ex hG 60 1; replace hq : f60 (1 % 962) (Z 60 1) := hq; unfold f60 at hq; omega
      have b16 : (-2147483648) ≤ Z 60 1 ∧ Z 60 1 ≤ 2147483647 := hG.pr 60 1
      have eq17 : Z12 60 2 = Z 60 2 := ((up_ni hE12 (by decide)).trans (up_ni hE8 (by omega)))
      have b18 : 0 ≤ Z 60 2 ∧ Z 60 2 ≤ 18 := by have hq := GI_ex hG 60 2; replace hq : f60 (2 % 962) (Z 60 2) := hq; unfold f60 at hq; omega
      have b19 : (-2147483648) ≤ Z 60 2 ∧ Z 60 2 ≤ 2147483647 := hG.pr 60 2
      have eq20 : Z12 56 8 = Z 56 8 := ((up_nk hE12 rfl).trans (up_nk hE8 rfl))
      have b21 : 0 ≤ Z 56 8 ∧ Z 56 8 ≤ 900 := hG.pr 56 8
      have eq22 : Z12 56 11 = Z 56 11 := ((up_nk hE12 rfl).trans (up_nk hE8 rfl))
      have b23 : 0 ≤ Z 56 11 ∧ Z 56 11 ≤ 4 := hG.pr 56 11
      have eq24 : Z12 60 61 = (Z 60 61) + 1 := (up_at hE12)
      have eq25 : Z12 60 1 = Z 60 1 := ((up_ni hE12 (by decide)).trans (up_ni hE8 (by omega)))
      have b26 : 0 ≤ Z 60 1 ∧ Z 60 1 ≤ 18 := by have hq := GI_ex hG 60 1; replace hq : f60 (1 % 962) (Z 60 1) := hq; unfold f60 at hq; omega
      have b27 : (-2147483648) ≤ Z 60 1 ∧ Z 60 1 ≤ 2147483647 := hG.pr 60 1
      have eq28 : Z12 60 2 = Z 60 2 := ((up_ni hE12 (by decide)).trans (up_ni hE8 (by omega)))
      have b29 : 0 ≤ Z 60 2 ∧ Z 60 2 ≤ 18 := by have hq := GI_ex hG 60 2; replace hq : f60 (2 % 962) (Z 60 2) := hq; unfold f60 at hq; omega
      have b30 : (-2147483648) ≤ Z 60 2 ∧ Z 60 2 ≤ 2147483647 := hG.pr 60 2
      exact mx_J.ret (sn_169 35) (fun _ _ => rfl) (hP Z12 h12 hx12 hG12 (fr_tr (M := [(60, (-1))]) (fr_tr (M := [(60, (-1))]) fr_rf (fr_ua hE8) (M1 := []) rfl rfl) (fr_ua hE12) rfl rfl) ⟨fun e => ⟨by omega, fun h1 h2 => c2 h1 (by omega), c3⟩, by omega⟩)
    · skip
      have b31 : 0 ≤ Z 60 61 ∧ Z 60 61 ≤ 900 := by have hq := GI_ex hG 60 61; replace hq : f60 (61 % 962) (Z 60 61) := hq; unfold f60 at hq; omega
      have b32 : (-2147483648) ≤ Z 60 61 ∧ Z 60 61 ≤ 2147483647 := hG.pr 60 61
      have b33 : 0 ≤ Z 60 1 ∧ Z 60 1 ≤ 18 := by have hq := GI_ex hG 60 1; replace hq : f60 (1 % 962) (Z 60 1) := hq; unfold f60 at hq; omega
      have b34 : (-2147483648) ≤ Z 60 1 ∧ Z 60 1 ≤ 2147483647 := hG.pr 60 1
      have b35 : 0 ≤ Z 60 2 ∧ Z 60 2 ≤ 18 := by have hq := GI_ex hG 60 2; replace hq : f60 (2 % 962) (Z 60 2) := hq; unfold f60 at hq; omega
      have b36 : (-2147483648) ≤ Z 60 2 ∧ Z 60 2 ≤ 2147483647 := hG.pr 60 2
      have b37 : 0 ≤ Z 56 8 ∧ Z 56 8 ≤ 900 := hG.pr 56 8
      have b38 : 0 ≤ Z 56 11 ∧ Z 56 11 ≤ 4 := hG.pr 56 11
      have b39 : 0 ≤ Z 60 61 ∧ Z 60 61 ≤ 900 := by have hq := GI_ex hG 60 61; replace hq : f60 (61 % 962) (Z 60 61) := hq; unfold f60 at hq; omega
      have b40 : (-2147483648) ≤ Z 60 61 ∧ Z 60 61 ≤ 2147483647 := hG.pr 60 61
      have b41 : 0 ≤ Z 60 1 ∧ Z 60 1 ≤ 18 := by have hq := GI_ex hG 60 1; replace hq : f60 (1 % 962) (Z 60 1) := hq; unfold f60 at hq; omega
      have b42 : (-2147483648) ≤ Z 60 1 ∧ Z 60 1 ≤ 2147483647 := hG.pr 60 1
      have b43 : 0 ≤ Z 60 2 ∧ Z 60 2 ≤ 18 := by have hq := GI_ex hG 60 2; replace hq : f60 (2 % 962) (Z 60 2) := hq; unfold f60 at hq; omega
      have b44 : (-2147483648) ≤ Z 60 2 ∧ Z 60 2 ≤ 2147483647 := hG.pr 60 2
      exact mx_J.ret (sn_169 7) (fun _ _ => rfl) (hP Z h hx hG fr_rf ⟨fun e => absurd e (by omega), by omega⟩)
theorem ct_169_56_3009 {l : Launch} {D : va_G} {b0 : Nat} {ad : Nat → Nat} {Hb : Heap} {tau : Nat → Int64} {d n s : Nat} {S : Nat → xS} {Z : xZ} {h : mx_H} {a0 : Int} (hx : XH n s S Z h) (hG : GI n S Z)   (k0 : (Z 56 11 = 0 → Z 60 61 ≤ 899)) (k1 : a0 ≤ Z 60 61) (k2 : 0 ≤ a0) : ∃ (Z' : xZ) (h' : mx_H), mx_Ca (tB l D b0 ad Hb tau) (d + 1) 169 [.ref 56, xI 3009] h (none, h') ∧ XH n s S Z' h' ∧ GI n S Z' ∧ fr' [(60, (-1))] Z Z' ∧ (QC Z Z' a0 (-2) 3 ∧ (Z' 60 1 = Z 60 1 ∧ Z' 60 2 = Z 60 2 ∧ ((¬ Z 56 11 = 0 ∧ Z' 60 61 = Z 60 61) ∨ (Z 56 11 = 0 ∧ Z' 60 61 = Z 60 61 + 1)))) := by
  obtain ⟨r, hca, Z', h', e, q⟩ := Jmt (B := tB l D b0 ad Hb tau) (M := mt_169) (mi := 169) (as := [.ref 56, xI 3009]) (d := d + 0) (ls := [some (.ref 56), some (xI 3009)]) rfl rfl rfl rfl rfl rfl (cw_169_56_3009 (l := l) (D := D) (b0 := b0) (ad := ad) (Hb := Hb) (tau := tau) (d := d) (Post := fun r => ∃ (Z' : xZ) (h' : mx_H), r = (none, h') ∧ XH n s S Z' h' ∧ GI n S Z' ∧ fr' [(60, (-1))] Z Z' ∧ (QC Z Z' a0 (-2) 3 ∧ (Z' 60 1 = Z 60 1 ∧ Z' 60 2 = Z 60 2 ∧ ((¬ Z 56 11 = 0 ∧ Z' 60 61 = Z 60 61) ∨ (Z 56 11 = 0 ∧ Z' 60 61 = Z 60 61 + 1))))) hx hG k0 k1 k2 (fun Z' h' q1 q2 q3 q4 => ⟨Z', h', rfl, q1, q2, q3, q4⟩))
  subst e; exact ⟨Z', h', hca, q⟩
set_option maxRecDepth 100000 in
theorem cw_169_56_3000 {l : Launch} {D : va_G} {b0 : Nat} {ad : Nat → Nat} {Hb : Heap} {tau : Nat → Int64} {d n s : Nat} {S : Nat → xS} {Z : xZ} {h : mx_H} {Post : mx_R → Prop} {a0 : Int} (hx : XH n s S Z h) (hG : GI n S Z)  {x0 : Int} (p0 : 3000 ≤ x0 ∧ x0 ≤ 3005) (k0 : (Z 56 11 = 0 → Z 60 61 ≤ 899)) (k1 : a0 ≤ Z 60 61) (k2 : 0 ≤ a0) (hP : ∀ (Z' : xZ) (h' : mx_H), XH n s S Z' h' → GI n S Z' → fr' [(60, (-1))] Z Z' → QC Z Z' a0 (-1) 2 ∧ (Z' 60 1 = Z 60 1 ∧ Z' 60 2 = Z 60 2 ∧ ((¬ Z 56 11 = 0 ∧ Z' 60 61 = Z 60 61) ∨ (Z 56 11 = 0 ∧ Z' 60 61 = Z 60 61 + 1))) → Post (none, h')) : mx_J (tB l D b0 ad Hb tau) mt_169 (d + 0) 0 [some (.ref 56), some (xI x0)] [] h Post := by
    have a56 : 56 < n := lt83 (GI_n hG) rfl
    have s56 : S 56 = .inl (12, [0, 2, 2, 2, 2, 0, 0, 0, 0, 0, 0, 0, 0, 0, 0, 2, 2, 2, 0, 2, 2, 2, 0, 0, 2, 2, 2, 2, 2, 2, 0, 0, 2, 2, 2, 2, 2, 2, 2, 2, 2, 2]) := GI_s hG 56 rfl
    have a60 : 60 < n := lt83 (GI_n hG) rfl
    have s60 : S 60 = .inr (.int, 962, 0) := GI_s hG 60 rfl
    refine mx_J.step (sn_169 0) (fun _ _ => rfl) ?_
    have b2 : 0 ≤ Z 56 11 ∧ Z 56 11 ≤ 4 := hG.pr 56 11
    refine JgetI (g := 11) (z := Z 56 11) hx (show mx_Sn _ _ 1 (mx_getf 12 11 4) from sn_169 1) a56 s56 rfl rfl rfl ?_
    refine Jif_eq (show mx_Sn _ _ 4 (mx_if_eq 8 7) from sn_169 4) (by omega) (fun q3 => ?_) (fun q3 => ?_)
    · skip
      refine mx_J.step (sn_169 8) (fun _ _ => rfl) ?_
      refine JgetR (g := 4) (b := 60) hx (show mx_Sn _ _ 9 (mx_getf 12 4 12) from sn_169 9) a56 s56 rfl rfl (hG.prr 56 4 rfl) ?_
      refine JcI (z := 62) (show mx_Sn _ _ 12 (mx_const (.int 62) 14) from sn_169 12) rfl ?_
      refine mx_J.step (sn_169 14) (fun _ _ => rfl) ?_
      refine JgetR (g := 4) (b := 60) hx (show mx_Sn _ _ 15 (mx_getf 12 4 18) from sn_169 15) a56 s56 rfl rfl (hG.prr 56 4 rfl) ?_
      refine JcI (z := 61) (show mx_Sn _ _ 18 (mx_const (.int 61) 20) from sn_169 18) rfl ?_
      have b6 : 0 ≤ Z 60 61 ∧ Z 60 61 ≤ 900 := by have hq := GI_ex hG 60 61; replace hq : f60 (61 % 962) (Z 60 61) := hq; unfold f60 at hq; omega
      have b7 : (-2147483648) ≤ Z 60 61 ∧ Z 60 61 ≤ 2147483647 := hG.pr 60 61
      refine JialdI (z := Z 60 61) hx (show mx_Sn _ _ 20 (mx_iald 21) from sn_169 20) a60 s60 (by omega) rfl ?_
      refine Jiadd (show mx_Sn _ _ 21 (mx_iadd 22) from sn_169 21) ?_
      refine mx_J.step (sn_169 22) (fun _ _ => rfl) ?_
      refine JiastI hx (show mx_Sn _ _ 23 (mx_iast 1 24) from sn_169 23) a60 s60 rfl (by omega) (fun Z8 h8 hx8 hE8 => ?_)
      have hG8 := GI_up hG hE8 (show (-2147483648) ≤ x0 ∧ x0 ≤ 2147483647 by omega) (show f60 ((62 + (Z 60 61)) % 962) (x0) by first | (rw [Int.emod_eq_of_lt (by omega) (by omega)]; unfold f60; omega) | assumption | (unfold f60; omega) | (unfold f60 at *; omega)) rfl
      refine mx_J.step (sn_169 24) (fun _ _ => rfl) ?_
      refine JgetR (g := 4) (b := 60) hx8 (show mx_Sn _ _ 25 (mx_getf 12 4 28) from sn_169 25) a56 s56 rfl rfl (hG8.prr 56 4 rfl) ?_
      refine JcI (z := 61) (show mx_Sn _ _ 28 (mx_const (.int 61) 30) from sn_169 28) rfl ?_
      refine mx_J.step (sn_169 30) (fun _ _ => rfl) ?_
      have b10 : 0 ≤ Z 60 61 ∧ Z 60 61 ≤ 900 := by have hq := GI_ex hG 60 61; replace hq : f60 (61 % 962) (Z 60 61) := hq; unfold f60 at hq; omega
      have b11 : (-2147483648) ≤ Z 60 61 ∧ Z 60 61 ≤ 2147483647 := hG.pr 60 61
      refine JialdI (z := Z 60 61) hx8 (show mx_Sn _ _ 31 (mx_iald 32) from sn_169 31) a60 s60 (by omega) (up_ni hE8 (by omega)) ?_
      refine JcI (z := 1) (show mx_Sn _ _ 32 (mx_const (.int 1) 33) from sn_169 32) rfl ?_
      refine Jiadd (show mx_Sn _ _ 33 (mx_iadd 34) from sn_169 33) ?_
      refine JiastI hx8 (show mx_Sn _ _ 34 (mx_iast 1 35) from sn_169 34) a60 s60 rfl (by omega) (fun Z12 h12 hx12 hE12 => ?_)
      have hG12 := GI_up hG8 hE12 (show (-2147483648) ≤ (Z 60 61) + 1 ∧ (Z 60 61) + 1 ≤ 2147483647 by omega) (show f60 ((61) % 962) ((Z 60 61) + 1) by first | assumption | (unfold f60; omega) | (unfold f60 at *; omega)) rfl
      have c1 := cd_dp (a := a0) hE8 hE12 (by omega) (by omega)
      have dv := dl_e x0
      have c2 : MW Z a0 = 1 → nd x0 ≤ DP Z a0 → MW Z12 a0 = 1 := fun h1 h2 => cd_mw hE8 hE12 h1 (by unfold okc; omega) h2
      have c3 : WFF Z = 1 → WFF Z12 = 1 := cd_wf hE8 hE12 (by omega)
      have eq13 : Z12 60 61 = (Z 60 61) + 1 := (up_at hE12)
      have eq14 : Z12 60 1 = Z 60 1 := ((up_ni hE12 (by decide)).trans (up_ni hE8 (by omega)))
      have b15 : 0 ≤ Z 60 1 ∧ Z 60 1 ≤ 18 := by have hq := GI_ex hG 60 1; replace hq : f60 (1 % 962) (Z 60 1) := hq; unfold f60 at hq; omega
      have b16 : (-2147483648) ≤ Z 60 1 ∧ Z 60 1 ≤ 2147483647 := hG.pr 60 1
      have eq17 : Z12 60 2 = Z 60 2 := ((up_ni hE12 (by decide)).trans (up_ni hE8 (by omega)))
      have b18 : 0 ≤ Z 60 2 ∧ Z 60 2 ≤ 18 := by have hq := GI_ex hG 60 2; replace hq : f60 (2 % 962) (Z 60 2) := hq; unfold f60 at hq; omega
      have b19 : (-2147483648) ≤ Z 60 2 ∧ Z 60 2 ≤ 2147483647 := hG.pr 60 2
      have eq20 : Z12 56 8 = Z 56 8 := ((up_nk hE12 rfl).trans (up_nk hE8 rfl))
      have b21 : 0 ≤ Z 56 8 ∧ Z 56 8 ≤ 900 := hG.pr 56 8
      have eq22 : Z12 56 11 = Z 56 11 := ((up_nk hE12 rfl).trans (up_nk hE8 rfl))
      have b23 : 0 ≤ Z 56 11 ∧ Z 56 11 ≤ 4 := hG.pr 56 11
      have eq24 : Z12 60 61 = (Z 60 61) + 1 := (up_at hE12)
      have eq25 : Z12 60 1 = Z 60 1 := ((up_ni hE12 (by decide)).trans (up_ni hE8 (by omega)))
      have b26 : 0 ≤ Z 60 1 ∧ Z 60 1 ≤ 18 := by have hq := GI_ex hG 60 1; replace hq : f60 (1 % 962) (Z 60 1) := hq; unfold f60 at hq; omega
      have b27 : (-2147483648) ≤ Z 60 1 ∧ Z 60 1 ≤ 2147483647 := hG.pr 60 1
      have eq28 : Z12 60 2 = Z 60 2 := ((up_ni hE12 (by decide)).trans (up_ni hE8 (by omega)))
      have b29 : 0 ≤ Z 60 2 ∧ Z 60 2 ≤ 18 := by have hq := GI_ex hG 60 2; replace hq : f60 (2 % 962) (Z 60 2) := hq; unfold f60 at hq; omega
      have b30 : (-2147483648) ≤ Z 60 2 ∧ Z 60 2 ≤ 2147483647 := hG.pr 60 2
      exact mx_J.ret (sn_169 35) (fun _ _ => rfl) (hP Z12 h12 hx12 hG12 (fr_tr (M := [(60, (-1))]) (fr_tr (M := [(60, (-1))]) fr_rf (fr_ua hE8) (M1 := []) rfl rfl) (fr_ua hE12) rfl rfl) ⟨fun e => ⟨by omega, fun h1 h2 => c2 h1 (by omega), c3⟩, by omega⟩)
    · skip
      have b31 : 0 ≤ Z 60 61 ∧ Z 60 61 ≤ 900 := by have hq := GI_ex hG 60 61; replace hq : f60 (61 % 962) (Z 60 61) := hq; unfold f60 at hq; omega
      have b32 : (-2147483648) ≤ Z 60 61 ∧ Z 60 61 ≤ 2147483647 := hG.pr 60 61
      have b33 : 0 ≤ Z 60 1 ∧ Z 60 1 ≤ 18 := by have hq := GI_ex hG 60 1; replace hq : f60 (1 % 962) (Z 60 1) := hq; unfold f60 at hq; omega
      have b34 : (-2147483648) ≤ Z 60 1 ∧ Z 60 1 ≤ 2147483647 := hG.pr 60 1
      have b35 : 0 ≤ Z 60 2 ∧ Z 60 2 ≤ 18 := by have hq := GI_ex hG 60 2; replace hq : f60 (2 % 962) (Z 60 2) := hq; unfold f60 at hq; omega
      have b36 : (-2147483648) ≤ Z 60 2 ∧ Z 60 2 ≤ 2147483647 := hG.pr 60 2
      have b37 : 0 ≤ Z 56 8 ∧ Z 56 8 ≤ 900 := hG.pr 56 8
      have b38 : 0 ≤ Z 56 11 ∧ Z 56 11 ≤ 4 := hG.pr 56 11
      have b39 : 0 ≤ Z 60 61 ∧ Z 60 61 ≤ 900 := by have hq := GI_ex hG 60 61; replace hq : f60 (61 % 962) (Z 60 61) := hq; unfold f60 at hq; omega
      have b40 : (-2147483648) ≤ Z 60 61 ∧ Z 60 61 ≤ 2147483647 := hG.pr 60 61
      have b41 : 0 ≤ Z 60 1 ∧ Z 60 1 ≤ 18 := by have hq := GI_ex hG 60 1; replace hq : f60 (1 % 962) (Z 60 1) := hq; unfold f60 at hq; omega
      have b42 : (-2147483648) ≤ Z 60 1 ∧ Z 60 1 ≤ 2147483647 := hG.pr 60 1
      have b43 : 0 ≤ Z 60 2 ∧ Z 60 2 ≤ 18 := by have hq := GI_ex hG 60 2; replace hq : f60 (2 % 962) (Z 60 2) := hq; unfold f60 at hq; omega
      have b44 : (-2147483648) ≤ Z 60 2 ∧ Z 60 2 ≤ 2147483647 := hG.pr 60 2
      exact mx_J.ret (sn_169 7) (fun _ _ => rfl) (hP Z h hx hG fr_rf ⟨fun e => absurd e (by omega), by omega⟩)
theorem ct_169_56_3000 {l : Launch} {D : va_G} {b0 : Nat} {ad : Nat → Nat} {Hb : Heap} {tau : Nat → Int64} {d n s : Nat} {S : Nat → xS} {Z : xZ} {h : mx_H} {a0 : Int} (hx : XH n s S Z h) (hG : GI n S Z)  {x0 : Int} (p0 : 3000 ≤ x0 ∧ x0 ≤ 3005) (k0 : (Z 56 11 = 0 → Z 60 61 ≤ 899)) (k1 : a0 ≤ Z 60 61) (k2 : 0 ≤ a0) : ∃ (Z' : xZ) (h' : mx_H), mx_Ca (tB l D b0 ad Hb tau) (d + 1) 169 [.ref 56, xI x0] h (none, h') ∧ XH n s S Z' h' ∧ GI n S Z' ∧ fr' [(60, (-1))] Z Z' ∧ (QC Z Z' a0 (-1) 2 ∧ (Z' 60 1 = Z 60 1 ∧ Z' 60 2 = Z 60 2 ∧ ((¬ Z 56 11 = 0 ∧ Z' 60 61 = Z 60 61) ∨ (Z 56 11 = 0 ∧ Z' 60 61 = Z 60 61 + 1)))) := by
  obtain ⟨r, hca, Z', h', e, q⟩ := Jmt (B := tB l D b0 ad Hb tau) (M := mt_169) (mi := 169) (as := [.ref 56, xI x0]) (d := d + 0) (ls := [some (.ref 56), some (xI x0)]) rfl rfl rfl rfl rfl rfl (cw_169_56_3000 (l := l) (D := D) (b0 := b0) (ad := ad) (Hb := Hb) (tau := tau) (d := d) (Post := fun r => ∃ (Z' : xZ) (h' : mx_H), r = (none, h') ∧ XH n s S Z' h' ∧ GI n S Z' ∧ fr' [(60, (-1))] Z Z' ∧ (QC Z Z' a0 (-1) 2 ∧ (Z' 60 1 = Z 60 1 ∧ Z' 60 2 = Z 60 2 ∧ ((¬ Z 56 11 = 0 ∧ Z' 60 61 = Z 60 61) ∨ (Z 56 11 = 0 ∧ Z' 60 61 = Z 60 61 + 1))))) hx hG p0 k0 k1 k2 (fun Z' h' q1 q2 q3 q4 => ⟨Z', h', rfl, q1, q2, q3, q4⟩))
  subst e; exact ⟨Z', h', hca, q⟩
set_option maxRecDepth 100000 in
theorem cw_169_56_3007 {l : Launch} {D : va_G} {b0 : Nat} {ad : Nat → Nat} {Hb : Heap} {tau : Nat → Int64} {d n s : Nat} {S : Nat → xS} {Z : xZ} {h : mx_H} {Post : mx_R → Prop} {a0 : Int} (hx : XH n s S Z h) (hG : GI n S Z)  {x0 : Int} (p0 : 3007 ≤ x0 ∧ x0 ≤ 3008) (k0 : (Z 56 11 = 0 → Z 60 61 ≤ 899)) (k1 : a0 ≤ Z 60 61) (k2 : 0 ≤ a0) (hP : ∀ (Z' : xZ) (h' : mx_H), XH n s S Z' h' → GI n S Z' → fr' [(60, (-1))] Z Z' → QC Z Z' a0 (-1) 2 ∧ (Z' 60 1 = Z 60 1 ∧ Z' 60 2 = Z 60 2 ∧ ((¬ Z 56 11 = 0 ∧ Z' 60 61 = Z 60 61) ∨ (Z 56 11 = 0 ∧ Z' 60 61 = Z 60 61 + 1))) → Post (none, h')) : mx_J (tB l D b0 ad Hb tau) mt_169 (d + 0) 0 [some (.ref 56), some (xI x0)] [] h Post := by
    have a56 : 56 < n := lt83 (GI_n hG) rfl
    have s56 : S 56 = .inl (12, [0, 2, 2, 2, 2, 0, 0, 0, 0, 0, 0, 0, 0, 0, 0, 2, 2, 2, 0, 2, 2, 2, 0, 0, 2, 2, 2, 2, 2, 2, 0, 0, 2, 2, 2, 2, 2, 2, 2, 2, 2, 2]) := GI_s hG 56 rfl
    have a60 : 60 < n := lt83 (GI_n hG) rfl
    have s60 : S 60 = .inr (.int, 962, 0) := GI_s hG 60 rfl
    refine mx_J.step (sn_169 0) (fun _ _ => rfl) ?_
    have b2 : 0 ≤ Z 56 11 ∧ Z 56 11 ≤ 4 := hG.pr 56 11
    refine JgetI (g := 11) (z := Z 56 11) hx (show mx_Sn _ _ 1 (mx_getf 12 11 4) from sn_169 1) a56 s56 rfl rfl rfl ?_
    refine Jif_eq (show mx_Sn _ _ 4 (mx_if_eq 8 7) from sn_169 4) (by omega) (fun q3 => ?_) (fun q3 => ?_)
    · skip
      refine mx_J.step (sn_169 8) (fun _ _ => rfl) ?_
      refine JgetR (g := 4) (b := 60) hx (show mx_Sn _ _ 9 (mx_getf 12 4 12) from sn_169 9) a56 s56 rfl rfl (hG.prr 56 4 rfl) ?_
      refine JcI (z := 62) (show mx_Sn _ _ 12 (mx_const (.int 62) 14) from sn_169 12) rfl ?_
      refine mx_J.step (sn_169 14) (fun _ _ => rfl) ?_
      refine JgetR (g := 4) (b := 60) hx (show mx_Sn _ _ 15 (mx_getf 12 4 18) from sn_169 15) a56 s56 rfl rfl (hG.prr 56 4 rfl) ?_
      refine JcI (z := 61) (show mx_Sn _ _ 18 (mx_const (.int 61) 20) from sn_169 18) rfl ?_
      have b6 : 0 ≤ Z 60 61 ∧ Z 60 61 ≤ 900 := by have hq := GI_ex hG 60 61; replace hq : f60 (61 % 962) (Z 60 61) := hq; unfold f60 at hq; omega
      have b7 : (-2147483648) ≤ Z 60 61 ∧ Z 60 61 ≤ 2147483647 := hG.pr 60 61
      refine JialdI (z := Z 60 61) hx (show mx_Sn _ _ 20 (mx_iald 21) from sn_169 20) a60 s60 (by omega) rfl ?_
      refine Jiadd (show mx_Sn _ _ 21 (mx_iadd 22) from sn_169 21) ?_
      refine mx_J.step (sn_169 22) (fun _ _ => rfl) ?_
      refine JiastI hx (show mx_Sn _ _ 23 (mx_iast 1 24) from sn_169 23) a60 s60 rfl (by omega) (fun Z8 h8 hx8 hE8 => ?_)
      have hG8 := GI_up hG hE8 (show (-2147483648) ≤ x0 ∧ x0 ≤ 2147483647 by omega) (show f60 ((62 + (Z 60 61)) % 962) (x0) by first | (rw [Int.emod_eq_of_lt (by omega) (by omega)]; unfold f60; omega) | assumption | (unfold f60; omega) | (unfold f60 at *; omega)) rfl
      refine mx_J.step (sn_169 24) (fun _ _ => rfl) ?_
      refine JgetR (g := 4) (b := 60) hx8 (show mx_Sn _ _ 25 (mx_getf 12 4 28) from sn_169 25) a56 s56 rfl rfl (hG8.prr 56 4 rfl) ?_
      refine JcI (z := 61) (show mx_Sn _ _ 28 (mx_const (.int 61) 30) from sn_169 28) rfl ?_
      refine mx_J.step (sn_169 30) (fun _ _ => rfl) ?_
      have b10 : 0 ≤ Z 60 61 ∧ Z 60 61 ≤ 900 := by have hq := GI_ex hG 60 61; replace hq : f60 (61 % 962) (Z 60 61) := hq; unfold f60 at hq; omega
      have b11 : (-2147483648) ≤ Z 60 61 ∧ Z 60 61 ≤ 2147483647 := hG.pr 60 61
      refine JialdI (z := Z 60 61) hx8 (show mx_Sn _ _ 31 (mx_iald 32) from sn_169 31) a60 s60 (by omega) (up_ni hE8 (by omega)) ?_
      refine JcI (z := 1) (show mx_Sn _ _ 32 (mx_const (.int 1) 33) from sn_169 32) rfl ?_
      refine Jiadd (show mx_Sn _ _ 33 (mx_iadd 34) from sn_169 33) ?_
      refine JiastI hx8 (show mx_Sn _ _ 34 (mx_iast 1 35) from sn_169 34) a60 s60 rfl (by omega) (fun Z12 h12 hx12 hE12 => ?_)
      have hG12 := GI_up hG8 hE12 (show (-2147483648) ≤ (Z 60 61) + 1 ∧ (Z 60 61) + 1 ≤ 2147483647 by omega) (show f60 ((61) % 962) ((Z 60 61) + 1) by first | assumption | (unfold f60; omega) | (unfold f60 at *; omega)) rfl
      have c1 := cd_dp (a := a0) hE8 hE12 (by omega) (by omega)
      have dv := dl_e x0
      have c2 : MW Z a0 = 1 → nd x0 ≤ DP Z a0 → MW Z12 a0 = 1 := fun h1 h2 => cd_mw hE8 hE12 h1 (by unfold okc; omega) h2
      have c3 : WFF Z = 1 → WFF Z12 = 1 := cd_wf hE8 hE12 (by omega)
      have eq13 : Z12 60 61 = (Z 60 61) + 1 := (up_at hE12)
      have eq14 : Z12 60 1 = Z 60 1 := ((up_ni hE12 (by decide)).trans (up_ni hE8 (by omega)))
      have b15 : 0 ≤ Z 60 1 ∧ Z 60 1 ≤ 18 := by have hq := GI_ex hG 60 1; replace hq : f60 (1 % 962) (Z 60 1) := hq; unfold f60 at hq; omega
      have b16 : (-2147483648) ≤ Z 60 1 ∧ Z 60 1 ≤ 2147483647 := hG.pr 60 1
      have eq17 : Z12 60 2 = Z 60 2 := ((up_ni hE12 (by decide)).trans (up_ni hE8 (by omega)))
      have b18 : 0 ≤ Z 60 2 ∧ Z 60 2 ≤ 18 := by have hq := GI_ex hG 60 2; replace hq : f60 (2 % 962) (Z 60 2) := hq; unfold f60 at hq; omega
      have b19 : (-2147483648) ≤ Z 60 2 ∧ Z 60 2 ≤ 2147483647 := hG.pr 60 2
      have eq20 : Z12 56 8 = Z 56 8 := ((up_nk hE12 rfl).trans (up_nk hE8 rfl))
      have b21 : 0 ≤ Z 56 8 ∧ Z 56 8 ≤ 900 := hG.pr 56 8
      have eq22 : Z12 56 11 = Z 56 11 := ((up_nk hE12 rfl).trans (up_nk hE8 rfl))
      have b23 : 0 ≤ Z 56 11 ∧ Z 56 11 ≤ 4 := hG.pr 56 11
      have eq24 : Z12 60 61 = (Z 60 61) + 1 := (up_at hE12)
      have eq25 : Z12 60 1 = Z 60 1 := ((up_ni hE12 (by decide)).trans (up_ni hE8 (by omega)))
      have b26 : 0 ≤ Z 60 1 ∧ Z 60 1 ≤ 18 := by have hq := GI_ex hG 60 1; replace hq : f60 (1 % 962) (Z 60 1) := hq; unfold f60 at hq; omega
      have b27 : (-2147483648) ≤ Z 60 1 ∧ Z 60 1 ≤ 2147483647 := hG.pr 60 1
      have eq28 : Z12 60 2 = Z 60 2 := ((up_ni hE12 (by decide)).trans (up_ni hE8 (by omega)))
      have b29 : 0 ≤ Z 60 2 ∧ Z 60 2 ≤ 18 := by have hq := GI_ex hG 60 2; replace hq : f60 (2 % 962) (Z 60 2) := hq; unfold f60 at hq; omega
      have b30 : (-2147483648) ≤ Z 60 2 ∧ Z 60 2 ≤ 2147483647 := hG.pr 60 2
      exact mx_J.ret (sn_169 35) (fun _ _ => rfl) (hP Z12 h12 hx12 hG12 (fr_tr (M := [(60, (-1))]) (fr_tr (M := [(60, (-1))]) fr_rf (fr_ua hE8) (M1 := []) rfl rfl) (fr_ua hE12) rfl rfl) ⟨fun e => ⟨by omega, fun h1 h2 => c2 h1 (by omega), c3⟩, by omega⟩)
    · skip
      have b31 : 0 ≤ Z 60 61 ∧ Z 60 61 ≤ 900 := by have hq := GI_ex hG 60 61; replace hq : f60 (61 % 962) (Z 60 61) := hq; unfold f60 at hq; omega
      have b32 : (-2147483648) ≤ Z 60 61 ∧ Z 60 61 ≤ 2147483647 := hG.pr 60 61
      have b33 : 0 ≤ Z 60 1 ∧ Z 60 1 ≤ 18 := by have hq := GI_ex hG 60 1; replace hq : f60 (1 % 962) (Z 60 1) := hq; unfold f60 at hq; omega
      have b34 : (-2147483648) ≤ Z 60 1 ∧ Z 60 1 ≤ 2147483647 := hG.pr 60 1
      have b35 : 0 ≤ Z 60 2 ∧ Z 60 2 ≤ 18 := by have hq := GI_ex hG 60 2; replace hq : f60 (2 % 962) (Z 60 2) := hq; unfold f60 at hq; omega
      have b36 : (-2147483648) ≤ Z 60 2 ∧ Z 60 2 ≤ 2147483647 := hG.pr 60 2
      have b37 : 0 ≤ Z 56 8 ∧ Z 56 8 ≤ 900 := hG.pr 56 8
      have b38 : 0 ≤ Z 56 11 ∧ Z 56 11 ≤ 4 := hG.pr 56 11
      have b39 : 0 ≤ Z 60 61 ∧ Z 60 61 ≤ 900 := by have hq := GI_ex hG 60 61; replace hq : f60 (61 % 962) (Z 60 61) := hq; unfold f60 at hq; omega
      have b40 : (-2147483648) ≤ Z 60 61 ∧ Z 60 61 ≤ 2147483647 := hG.pr 60 61
      have b41 : 0 ≤ Z 60 1 ∧ Z 60 1 ≤ 18 := by have hq := GI_ex hG 60 1; replace hq : f60 (1 % 962) (Z 60 1) := hq; unfold f60 at hq; omega
      have b42 : (-2147483648) ≤ Z 60 1 ∧ Z 60 1 ≤ 2147483647 := hG.pr 60 1
      have b43 : 0 ≤ Z 60 2 ∧ Z 60 2 ≤ 18 := by have hq := GI_ex hG 60 2; replace hq : f60 (2 % 962) (Z 60 2) := hq; unfold f60 at hq; omega
      have b44 : (-2147483648) ≤ Z 60 2 ∧ Z 60 2 ≤ 2147483647 := hG.pr 60 2
      exact mx_J.ret (sn_169 7) (fun _ _ => rfl) (hP Z h hx hG fr_rf ⟨fun e => absurd e (by omega), by omega⟩)
theorem ct_169_56_3007 {l : Launch} {D : va_G} {b0 : Nat} {ad : Nat → Nat} {Hb : Heap} {tau : Nat → Int64} {d n s : Nat} {S : Nat → xS} {Z : xZ} {h : mx_H} {a0 : Int} (hx : XH n s S Z h) (hG : GI n S Z)  {x0 : Int} (p0 : 3007 ≤ x0 ∧ x0 ≤ 3008) (k0 : (Z 56 11 = 0 → Z 60 61 ≤ 899)) (k1 : a0 ≤ Z 60 61) (k2 : 0 ≤ a0) : ∃ (Z' : xZ) (h' : mx_H), mx_Ca (tB l D b0 ad Hb tau) (d + 1) 169 [.ref 56, xI x0] h (none, h') ∧ XH n s S Z' h' ∧ GI n S Z' ∧ fr' [(60, (-1))] Z Z' ∧ (QC Z Z' a0 (-1) 2 ∧ (Z' 60 1 = Z 60 1 ∧ Z' 60 2 = Z 60 2 ∧ ((¬ Z 56 11 = 0 ∧ Z' 60 61 = Z 60 61) ∨ (Z 56 11 = 0 ∧ Z' 60 61 = Z 60 61 + 1)))) := by
  obtain ⟨r, hca, Z', h', e, q⟩ := Jmt (B := tB l D b0 ad Hb tau) (M := mt_169) (mi := 169) (as := [.ref 56, xI x0]) (d := d + 0) (ls := [some (.ref 56), some (xI x0)]) rfl rfl rfl rfl rfl rfl (cw_169_56_3007 (l := l) (D := D) (b0 := b0) (ad := ad) (Hb := Hb) (tau := tau) (d := d) (Post := fun r => ∃ (Z' : xZ) (h' : mx_H), r = (none, h') ∧ XH n s S Z' h' ∧ GI n S Z' ∧ fr' [(60, (-1))] Z Z' ∧ (QC Z Z' a0 (-1) 2 ∧ (Z' 60 1 = Z 60 1 ∧ Z' 60 2 = Z 60 2 ∧ ((¬ Z 56 11 = 0 ∧ Z' 60 61 = Z 60 61) ∨ (Z 56 11 = 0 ∧ Z' 60 61 = Z 60 61 + 1))))) hx hG p0 k0 k1 k2 (fun Z' h' q1 q2 q3 q4 => ⟨Z', h', rfl, q1, q2, q3, q4⟩))
  subst e; exact ⟨Z', h', hca, q⟩
set_option maxRecDepth 100000 in
theorem cw_166_56 {l : Launch} {D : va_G} {b0 : Nat} {ad : Nat → Nat} {Hb : Heap} {tau : Nat → Int64} {d n s : Nat} {S : Nat → xS} {Z : xZ} {h : mx_H} {Post : mx_R → Prop} (hx : XH n s S Z h) (hG : GI n S Z)  {x0 x1 : Int} (p0 : 0 ≤ x0 ∧ x0 ≤ 1) (p1 : 0 ≤ x1 ∧ x1 ≤ 18) (k0 : (Z 56 6 ≤ Z 56 7 ∧ Z 56 7 ≤ Z 56 8 ∧ (Z 56 9 = 24 ∨ Z 56 6 < Z 56 7))) (hP : ∀ (z : Int) (Z' : xZ) (h' : mx_H), XH n s S Z' h' → GI n S Z' → fr' [(56, 6), (56, 7), (56, 9), (56, 10), (56, 11), (56, 12)] Z Z' → 0 ≤ z ∧ z ≤ 999 ∧ ((Z' 56 6 ≤ Z' 56 7 ∧ Z' 56 7 ≤ Z 56 8 ∧ (Z' 56 9 = 24 ∨ Z' 56 6 < Z' 56 7)) ∧ Z 56 6 ≤ Z' 56 6 ∧ (Z' 56 11 = 0 → Z 56 11 = 0 ∧ x0 ≤ z ∧ z ≤ x1 ∧ Z 56 6 + 1 ≤ Z' 56 6) ∧ 0 ≤ z ∧ z ≤ 999) → Post (some (xI z), h')) : mx_J (tB l D b0 ad Hb tau) mt_166 (d + 6) 0 [some (.ref 56), some (xI x0), some (xI x1), none] [] h Post := by
    have a56 : 56 < n := lt83 (GI_n hG) rfl
    have s56 : S 56 = .inl (12, [0, 2, 2, 2, 2, 0, 0, 0, 0, 0, 0, 0, 0, 0, 0, 2, 2, 2, 0, 2, 2, 2, 0, 0, 2, 2, 2, 2, 2, 2, 0, 0, 2, 2, 2, 2, 2, 2, 2, 2, 2, 2]) := GI_s hG 56 rfl
    refine mx_J.step (sn_166 0) (fun _ _ => rfl) ?_
    refine JcI (z := 23) (show mx_Sn _ _ 1 (mx_const (.int 23) 3) from sn_166 1) rfl ?_
    have b2 : 0 ≤ Z 56 9 ∧ Z 56 9 ≤ 100 := hG.pr 56 9
    have b3 : 0 ≤ Z 56 11 ∧ Z 56 11 ≤ 4 := hG.pr 56 11
    obtain ⟨z1, hc1, b1⟩ := ct_164_56 (d := d + 5) (l := l) (D := D) (b0 := b0) (ad := ad) (Hb := Hb) (tau := tau) hx hG (show 0 ≤ 23 ∧ 23 ≤ 100 by omega)
    refine Jcv hx (show mx_Sn _ _ 3 (mx_callv 164 2 12 6) from sn_166 3) a56 s56 hc1 rfl rfl rfl ?_
    have c37 : ∀  (Z5 : xZ) (h5 : mx_H), (Z5 56 11 = 0 → Z 56 11 = 0 ∧ Z 56 9 = 23 ∧ x0 ≤ Z 56 10 ∧ Z 56 10 ≤ x1) → XH n s S Z5 h5 → GI n S Z5 → fr' [(56, 11), (56, 12)] Z Z5 → mx_J (tB l D b0 ad Hb tau) mt_166 (d + 6) 37 [some (.ref 56), some (xI x0), some (xI x1), none] [] h5 Post := by
      intro Z5 h5 f4_0 hx5 hG5 hf5
      have b6 : 0 ≤ Z5 56 11 ∧ Z5 56 11 ≤ 4 := hG5.pr 56 11
      refine mx_J.step (sn_166 37) (fun _ _ => rfl) ?_
      have b8 : 0 ≤ Z 56 10 ∧ Z 56 10 ≤ 999 := hG.pr 56 10
      refine JgetI (g := 10) (z := Z 56 10) hx5 (show mx_Sn _ _ 38 (mx_getf 12 10 41) from sn_166 38) a56 s56 rfl rfl (hf5 56 10 rfl) ?_
      refine mx_J.step (ls2 := [some (.ref 56), some (xI x0), some (xI x1), some (xI (Z 56 10))]) (sn_166 41) (fun _ _ => rfl) ?_
      refine mx_J.step (sn_166 42) (fun _ _ => rfl) ?_
      have b10 : 0 ≤ Z5 56 11 ∧ Z5 56 11 ≤ 4 := hG5.pr 56 11
      refine JgetI (g := 11) (z := Z5 56 11) hx5 (show mx_Sn _ _ 43 (mx_getf 12 11 46) from sn_166 43) a56 s56 rfl rfl rfl ?_
      have c53 : ∀  (Z12 : xZ) (h12 : mx_H), (Z12 56 6 ≤ Z12 56 7 ∧ Z12 56 7 ≤ Z 56 8 ∧ (Z12 56 9 = 24 ∨ Z12 56 6 < Z12 56 7) ∧ Z 56 6 ≤ Z12 56 6 ∧ (Z12 56 11 = 0 → Z 56 11 = 0 ∧ x0 ≤ (Z 56 10) ∧ (Z 56 10) ≤ x1 ∧ Z 56 6 + 1 ≤ Z12 56 6)) → XH n s S Z12 h12 → GI n S Z12 → fr' [(56, 6), (56, 7), (56, 9), (56, 10)] Z5 Z12 → mx_J (tB l D b0 ad Hb tau) mt_166 (d + 6) 53 [some (.ref 56), some (xI x0), some (xI x1), some (xI (Z 56 10))] [] h12 Post := by
        intro Z12 h12 f11_0 hx12 hG12 hf12
        have b13 : 0 ≤ Z12 56 6 ∧ Z12 56 6 ≤ 900 := hG12.pr 56 6
        have b14 : 0 ≤ Z12 56 7 ∧ Z12 56 7 ≤ 900 := hG12.pr 56 7
        have b15 : 0 ≤ Z12 56 9 ∧ Z12 56 9 ≤ 100 := hG12.pr 56 9
        have eq16 : Z12 56 11 = Z5 56 11 := (hf12 56 11 rfl)
        have b17 : 0 ≤ Z5 56 11 ∧ Z5 56 11 ≤ 4 := hG5.pr 56 11
        refine mx_J.step (sn_166 53) (fun _ _ => rfl) ?_
        have b18 : 0 ≤ Z12 56 6 ∧ Z12 56 6 ≤ 900 := hG12.pr 56 6
        have b19 : 0 ≤ Z12 56 7 ∧ Z12 56 7 ≤ 900 := hG12.pr 56 7
        have b20 : 0 ≤ Z12 56 9 ∧ Z12 56 9 ≤ 100 := hG12.pr 56 9
        have eq21 : Z12 56 11 = Z5 56 11 := (hf12 56 11 rfl)
        have b22 : 0 ≤ Z5 56 11 ∧ Z5 56 11 ≤ 4 := hG5.pr 56 11
        have b23 : 0 ≤ Z12 56 6 ∧ Z12 56 6 ≤ 900 := hG12.pr 56 6
        have b24 : 0 ≤ Z12 56 7 ∧ Z12 56 7 ≤ 900 := hG12.pr 56 7
        have eq25 : Z12 56 8 = Z 56 8 := ((hf12 56 8 rfl).trans (hf5 56 8 rfl))
        have b26 : 0 ≤ Z 56 8 ∧ Z 56 8 ≤ 900 := hG.pr 56 8
        have b27 : 0 ≤ Z12 56 9 ∧ Z12 56 9 ≤ 100 := hG12.pr 56 9
        have eq28 : Z12 56 11 = Z5 56 11 := (hf12 56 11 rfl)
        have b29 : 0 ≤ Z5 56 11 ∧ Z5 56 11 ≤ 4 := hG5.pr 56 11
        have b30 : 0 ≤ Z12 56 10 ∧ Z12 56 10 ≤ 999 := hG12.pr 56 10
        exact mx_J.ret (sn_166 54) (fun _ _ => rfl) (hP (Z 56 10) Z12 h12 hx12 hG12 (fr_tr (M := [(56, 6), (56, 7), (56, 9), (56, 10), (56, 11), (56, 12)]) (fr_tr (M := [(56, 6), (56, 7), (56, 9), (56, 10), (56, 11), (56, 12)]) fr_rf (hf5) (M1 := []) rfl rfl) (hf12) rfl rfl) (by omega))
      refine Jif_ne (show mx_Sn _ _ 46 (mx_if_ne 53 49) from sn_166 46) (by omega) (fun q31 => ?_) (fun q31 => ?_)
      · skip
        have eq32 : Z5 56 6 = Z 56 6 := (hf5 56 6 rfl)
        have b33 : 0 ≤ Z 56 6 ∧ Z 56 6 ≤ 900 := hG.pr 56 6
        have eq34 : Z5 56 7 = Z 56 7 := (hf5 56 7 rfl)
        have b35 : 0 ≤ Z 56 7 ∧ Z 56 7 ≤ 900 := hG.pr 56 7
        have eq36 : Z5 56 9 = Z 56 9 := (hf5 56 9 rfl)
        have b37 : 0 ≤ Z 56 9 ∧ Z 56 9 ≤ 100 := hG.pr 56 9
        have b38 : 0 ≤ Z5 56 11 ∧ Z5 56 11 ≤ 4 := hG5.pr 56 11
        exact c53 Z5 h5 (by omega) hx5 hG5 fr_rf
      · skip
        refine mx_J.step (sn_166 49) (fun _ _ => rfl) ?_
        have eq40 : Z5 56 7 = Z 56 7 := (hf5 56 7 rfl)
        have b41 : 0 ≤ Z 56 7 ∧ Z 56 7 ≤ 900 := hG.pr 56 7
        have eq42 : Z5 56 8 = Z 56 8 := (hf5 56 8 rfl)
        have b43 : 0 ≤ Z 56 8 ∧ Z 56 8 ≤ 900 := hG.pr 56 8
        obtain ⟨Z39, h39, hc39, hx39, hG39, hf39, b39⟩ := ct_162_56 (d := d + 0) (l := l) (D := D) (b0 := b0) (ad := ad) (Hb := Hb) (tau := tau) hx5 hG5  (show Z5 56 7 ≤ Z5 56 8 by first | omega | (simp only [eq40, eq42]; omega))
        try rw [eq40] at b39
        try rw [eq42] at b39
        have b44 : 0 ≤ Z39 56 6 ∧ Z39 56 6 ≤ 900 := hG39.pr 56 6
        have b45 : 0 ≤ Z39 56 7 ∧ Z39 56 7 ≤ 900 := hG39.pr 56 7
        have b46 : 0 ≤ Z39 56 9 ∧ Z39 56 9 ≤ 100 := hG39.pr 56 9
        refine Jcv0 hx5 (show mx_Sn _ _ 50 (mx_callv 162 1 12 53) from sn_166 50) a56 s56 hc39 rfl rfl rfl ?_
        have b47 : 0 ≤ Z39 56 6 ∧ Z39 56 6 ≤ 900 := hG39.pr 56 6
        have b48 : 0 ≤ Z39 56 7 ∧ Z39 56 7 ≤ 900 := hG39.pr 56 7
        have b49 : 0 ≤ Z39 56 9 ∧ Z39 56 9 ≤ 100 := hG39.pr 56 9
        have eq50 : Z39 56 11 = Z5 56 11 := (hf39 56 11 rfl)
        have b51 : 0 ≤ Z5 56 11 ∧ Z5 56 11 ≤ 4 := hG5.pr 56 11
        exact c53 Z39 h39 (by omega) hx39 hG39 (fr_tr (M := [(56, 6), (56, 7), (56, 9), (56, 10)]) fr_rf (hf39) (M1 := []) rfl rfl)
    refine Jif_ne (show mx_Sn _ _ 6 (mx_if_ne 17 9) from sn_166 6) (by omega) (fun q52 => ?_) (fun q52 => ?_)
    · skip
      refine mx_J.step (sn_166 17) (fun _ _ => rfl) ?_
      have b54 : 0 ≤ Z 56 10 ∧ Z 56 10 ≤ 999 := hG.pr 56 10
      refine JgetI (g := 10) (z := Z 56 10) hx (show mx_Sn _ _ 18 (mx_getf 12 10 21) from sn_166 18) a56 s56 rfl rfl rfl ?_
      refine Ji2l (show mx_Sn _ _ 21 (mx_i2l 22) from sn_166 21) (by omega) ?_
      refine mx_J.step (sn_166 22) (fun _ _ => rfl) ?_
      refine Ji2l (show mx_Sn _ _ 23 (mx_i2l 24) from sn_166 23) (by omega) ?_
      refine mx_J.step (sn_166 24) (fun _ _ => rfl) ?_
      refine Ji2l (show mx_Sn _ _ 25 (mx_i2l 26) from sn_166 25) (by omega) ?_
      obtain ⟨z55, hc55, b55⟩ := ct_154_ (d := d + 5) (l := l) (D := D) (b0 := b0) (ad := ad) (Hb := Hb) (tau := tau) hx hG (show (-9223372036854775808) ≤ Z 56 10 ∧ Z 56 10 ≤ 9223372036854775807 by omega) (show (-9223372036854775808) ≤ x0 ∧ x0 ≤ 9223372036854775807 by omega) (show (-9223372036854775808) ≤ x1 ∧ x1 ≤ 9223372036854775807 by omega)
      refine Jcs (show mx_Sn _ _ 26 (mx_calls 154 3 29) from sn_166 26) hc55 rfl rfl rfl ?_
      refine Jif_ne (show mx_Sn _ _ 29 (mx_if_ne 37 32) from sn_166 29) (by omega) (fun q56 => ?_) (fun q56 => ?_)
      · skip
        have b57 : 0 ≤ Z 56 11 ∧ Z 56 11 ≤ 4 := hG.pr 56 11
        exact c37 Z h (by omega) hx hG fr_rf
      · skip
        refine mx_J.step (sn_166 32) (fun _ _ => rfl) ?_
        refine JcI (z := 3) (show mx_Sn _ _ 33 (mx_const (.int 3) 34) from sn_166 33) rfl ?_
        obtain ⟨Z58, h58, hc58, hx58, hG58, hf58, b58⟩ := ct_163_56 (d := d + 5) (l := l) (D := D) (b0 := b0) (ad := ad) (Hb := Hb) (tau := tau) hx hG (show 1 ≤ 3 ∧ 3 ≤ 4 by omega)
        have b59 : 0 ≤ Z58 56 11 ∧ Z58 56 11 ≤ 4 := hG58.pr 56 11
        refine Jcv0 hx (show mx_Sn _ _ 34 (mx_callv 163 2 12 37) from sn_166 34) a56 s56 hc58 rfl rfl rfl ?_
        have b60 : 0 ≤ Z58 56 11 ∧ Z58 56 11 ≤ 4 := hG58.pr 56 11
        exact c37 Z58 h58 (by omega) hx58 hG58 (fr_tr (M := [(56, 11), (56, 12)]) fr_rf (hf58) (M1 := []) rfl rfl)
    · skip
      refine mx_J.step (sn_166 9) (fun _ _ => rfl) ?_
      refine JcI (z := 2) (show mx_Sn _ _ 10 (mx_const (.int 2) 11) from sn_166 10) rfl ?_
      obtain ⟨Z61, h61, hc61, hx61, hG61, hf61, b61⟩ := ct_163_56 (d := d + 5) (l := l) (D := D) (b0 := b0) (ad := ad) (Hb := Hb) (tau := tau) hx hG (show 1 ≤ 2 ∧ 2 ≤ 4 by omega)
      have b62 : 0 ≤ Z61 56 11 ∧ Z61 56 11 ≤ 4 := hG61.pr 56 11
      refine Jcv0 hx (show mx_Sn _ _ 11 (mx_callv 163 2 12 14) from sn_166 11) a56 s56 hc61 rfl rfl rfl ?_
      refine mx_J.step (sn_166 14) (fun _ _ => rfl) ?_
      have b63 : 0 ≤ Z61 56 11 ∧ Z61 56 11 ≤ 4 := hG61.pr 56 11
      exact c37 Z61 h61 (by omega) hx61 hG61 (fr_tr (M := [(56, 11), (56, 12)]) fr_rf (hf61) (M1 := []) rfl rfl)
theorem ct_166_56 {l : Launch} {D : va_G} {b0 : Nat} {ad : Nat → Nat} {Hb : Heap} {tau : Nat → Int64} {d n s : Nat} {S : Nat → xS} {Z : xZ} {h : mx_H} (hx : XH n s S Z h) (hG : GI n S Z)  {x0 x1 : Int} (p0 : 0 ≤ x0 ∧ x0 ≤ 1) (p1 : 0 ≤ x1 ∧ x1 ≤ 18) (k0 : (Z 56 6 ≤ Z 56 7 ∧ Z 56 7 ≤ Z 56 8 ∧ (Z 56 9 = 24 ∨ Z 56 6 < Z 56 7))) : ∃ (z : Int) (Z' : xZ) (h' : mx_H), mx_Ca (tB l D b0 ad Hb tau) (d + 7) 166 [.ref 56, xI x0, xI x1] h (some (xI z), h') ∧ XH n s S Z' h' ∧ GI n S Z' ∧ fr' [(56, 6), (56, 7), (56, 9), (56, 10), (56, 11), (56, 12)] Z Z' ∧ (0 ≤ z ∧ z ≤ 999 ∧ ((Z' 56 6 ≤ Z' 56 7 ∧ Z' 56 7 ≤ Z 56 8 ∧ (Z' 56 9 = 24 ∨ Z' 56 6 < Z' 56 7)) ∧ Z 56 6 ≤ Z' 56 6 ∧ (Z' 56 11 = 0 → Z 56 11 = 0 ∧ x0 ≤ z ∧ z ≤ x1 ∧ Z 56 6 + 1 ≤ Z' 56 6) ∧ 0 ≤ z ∧ z ≤ 999)) := by
  obtain ⟨r, hca, z, Z', h', e, q⟩ := Jmt (B := tB l D b0 ad Hb tau) (M := mt_166) (mi := 166) (as := [.ref 56, xI x0, xI x1]) (d := d + 6) (ls := [some (.ref 56), some (xI x0), some (xI x1), none]) rfl rfl rfl rfl rfl rfl (cw_166_56 (l := l) (D := D) (b0 := b0) (ad := ad) (Hb := Hb) (tau := tau) (d := d) (Post := fun r => ∃ (z : Int) (Z' : xZ) (h' : mx_H), r = (some (xI z), h') ∧ XH n s S Z' h' ∧ GI n S Z' ∧ fr' [(56, 6), (56, 7), (56, 9), (56, 10), (56, 11), (56, 12)] Z Z' ∧ (0 ≤ z ∧ z ≤ 999 ∧ ((Z' 56 6 ≤ Z' 56 7 ∧ Z' 56 7 ≤ Z 56 8 ∧ (Z' 56 9 = 24 ∨ Z' 56 6 < Z' 56 7)) ∧ Z 56 6 ≤ Z' 56 6 ∧ (Z' 56 11 = 0 → Z 56 11 = 0 ∧ x0 ≤ z ∧ z ≤ x1 ∧ Z 56 6 + 1 ≤ Z' 56 6) ∧ 0 ≤ z ∧ z ≤ 999))) hx hG p0 p1 k0 (fun z Z' h' q1 q2 q3 q4 => ⟨z, Z', h', rfl, q1, q2, q3, q4⟩))
  subst e; exact ⟨z, Z', h', hca, q⟩
set_option maxRecDepth 100000 in
theorem cw_168_56 {l : Launch} {D : va_G} {b0 : Nat} {ad : Nat → Nat} {Hb : Heap} {tau : Nat → Int64} {d n s : Nat} {S : Nat → xS} {Z : xZ} {h : mx_H} {Post : mx_R → Prop} (hx : XH n s S Z h) (hG : GI n S Z)  {x0 : Int} (p0 : 0 ≤ x0 ∧ x0 ≤ 100) (hP : ∀ z : Int, (-1) ≤ z ∧ z ≤ 4 ∧ (z = -1 ∨ x0 = 1 ∨ (9 ≤ x0 ∧ x0 ≤ 12)) → Post (some (xI z), h)) : mx_J (tB l D b0 ad Hb tau) mt_168 (d + 0) 0 [some (.ref 56), some (xI x0)] [] h Post := by
    refine mx_J.step (sn_168 0) (fun _ _ => rfl) ?_
    refine JcI (z := 1) (show mx_Sn _ _ 1 (mx_const (.int 1) 2) from sn_168 1) rfl ?_
    refine Jicmp_ne (show mx_Sn _ _ 2 (mx_icmp_ne 7 5) from sn_168 2) (by omega) (by omega) (fun q1 => ?_) (fun q1 => ?_)
    · skip
      refine mx_J.step (sn_168 7) (fun _ _ => rfl) ?_
      refine JcI (z := 9) (show mx_Sn _ _ 8 (mx_const (.int 9) 10) from sn_168 8) rfl ?_
      have c27 : ∀ (k2_0 : Int), (-1) ≤ k2_0 ∧ k2_0 ≤ 3 → (k2_0 = -1 ∨ (9 ≤ x0 ∧ x0 ≤ 12)) → mx_J (tB l D b0 ad Hb tau) mt_168 (d + 0) 27 [some (.ref 56), some (xI x0)] [xI k2_0] h Post := by
        intro k2_0 f2_0 f2_1
        exact mx_J.ret (sn_168 27) (fun _ _ => rfl) (hP k2_0 (by omega))
      have c26 : mx_J (tB l D b0 ad Hb tau) mt_168 (d + 0) 26 [some (.ref 56), some (xI x0)] [] h Post := by
        refine JcI (z := (-1)) (show mx_Sn _ _ 26 (mx_const (.int (-1)) 27) from sn_168 26) rfl ?_
        exact c27 (-1) (by omega) (by omega)
      refine Jicmp_lt (show mx_Sn _ _ 10 (mx_icmp_lt 26 13) from sn_168 10) (by omega) (by omega) (fun q4 => ?_) (fun q4 => ?_)
      · skip
        exact c26 
      · skip
        refine mx_J.step (sn_168 13) (fun _ _ => rfl) ?_
        refine JcI (z := 12) (show mx_Sn _ _ 14 (mx_const (.int 12) 16) from sn_168 14) rfl ?_
        refine Jicmp_gt (show mx_Sn _ _ 16 (mx_icmp_gt 26 19) from sn_168 16) (by omega) (by omega) (fun q5 => ?_) (fun q5 => ?_)
        · skip
          exact c26 
        · skip
          refine mx_J.step (sn_168 19) (fun _ _ => rfl) ?_
          refine JcI (z := 9) (show mx_Sn _ _ 20 (mx_const (.int 9) 22) from sn_168 20) rfl ?_
          refine Jisub (show mx_Sn _ _ 22 (mx_isub 23) from sn_168 22) ?_
          refine mx_J.step (sn_168 23) (fun _ _ => rfl) ?_
          exact c27 (x0 - 9) (by omega) (by omega)
    · skip
      refine JcI (z := 4) (show mx_Sn _ _ 5 (mx_const (.int 4) 6) from sn_168 5) rfl ?_
      exact mx_J.ret (sn_168 6) (fun _ _ => rfl) (hP 4 (by omega))
theorem ct_168_56 {l : Launch} {D : va_G} {b0 : Nat} {ad : Nat → Nat} {Hb : Heap} {tau : Nat → Int64} {d n s : Nat} {S : Nat → xS} {Z : xZ} {h : mx_H} (hx : XH n s S Z h) (hG : GI n S Z)  {x0 : Int} (p0 : 0 ≤ x0 ∧ x0 ≤ 100) : ∃ z : Int, mx_Ca (tB l D b0 ad Hb tau) (d + 1) 168 [.ref 56, xI x0] h (some (xI z), h) ∧ ((-1) ≤ z ∧ z ≤ 4 ∧ (z = -1 ∨ x0 = 1 ∨ (9 ≤ x0 ∧ x0 ≤ 12))) := by
  obtain ⟨r, hca, z, e, hp⟩ := Jmt (B := tB l D b0 ad Hb tau) (M := mt_168) (mi := 168) (as := [.ref 56, xI x0]) (d := d + 0) (ls := [some (.ref 56), some (xI x0)]) rfl rfl rfl rfl rfl rfl (cw_168_56 (l := l) (D := D) (b0 := b0) (ad := ad) (Hb := Hb) (tau := tau) (d := d) (Post := fun r => ∃ z : Int, r = (some (xI z), h) ∧ ((-1) ≤ z ∧ z ≤ 4 ∧ (z = -1 ∨ x0 = 1 ∨ (9 ≤ x0 ∧ x0 ≤ 12)))) hx hG p0 (fun z hz => ⟨z, rfl, hz⟩))
  subst e; exact ⟨z, hca, hp⟩
set_option maxRecDepth 100000 in
theorem cw_170_56 {l : Launch} {D : va_G} {b0 : Nat} {ad : Nat → Nat} {Hb : Heap} {tau : Nat → Int64} {d n s : Nat} {S : Nat → xS} {Z : xZ} {h : mx_H} {Post : mx_R → Prop} (hx : XH n s S Z h) (hG : GI n S Z)  {x0 : Int} (p0 : 0 ≤ x0 ∧ x0 ≤ 6) (k0 : (Z 56 6 ≤ Z 56 7 ∧ Z 56 7 ≤ Z 56 8 ∧ (Z 56 9 = 24 ∨ Z 56 6 < Z 56 7))) (k1 : ¬ Z 56 9 = 24) (hP : ∀ (z : Int) (Z' : xZ) (h' : mx_H), XH n s S Z' h' → GI n S Z' → fr' [(56, 6), (56, 7), (56, 9), (56, 10), (56, 11), (56, 12)] Z Z' → 0 ≤ z ∧ z ≤ 1 ∧ ((Z' 56 6 ≤ Z' 56 7 ∧ Z' 56 7 ≤ Z 56 8 ∧ (Z' 56 9 = 24 ∨ Z' 56 6 < Z' 56 7)) ∧ Z 56 6 ≤ Z' 56 6 ∧ ((z = 1 ∧ ¬ x0 = 6 ∧ Z' 56 11 = 0 ∧ Z 56 11 = 0 ∧ Z 56 6 + 1 ≤ Z' 56 6) ∨ (z = 0 ∧ ¬ Z' 56 11 = 0))) → Post (some (xI z), h')) : mx_J (tB l D b0 ad Hb tau) mt_170 (d + 6) 0 [some (.ref 56), some (xI x0)] [] h Post := by
    have a56 : 56 < n := lt83 (GI_n hG) rfl
    have s56 : S 56 = .inl (12, [0, 2, 2, 2, 2, 0, 0, 0, 0, 0, 0, 0, 0, 0, 0, 2, 2, 2, 0, 2, 2, 2, 0, 0, 2, 2, 2, 2, 2, 2, 0, 0, 2, 2, 2, 2, 2, 2, 2, 2, 2, 2]) := GI_s hG 56 rfl
    refine mx_J.step (sn_170 0) (fun _ _ => rfl) ?_
    refine JcI (z := 6) (show mx_Sn _ _ 1 (mx_const (.int 6) 3) from sn_170 1) rfl ?_
    have c11 : ∀  (Z2 : xZ) (h2 : mx_H), (Z2 56 11 = 0 → Z 56 11 = 0 ∧ ¬ x0 = 6) → XH n s S Z2 h2 → GI n S Z2 → fr' [(56, 11), (56, 12)] Z Z2 → mx_J (tB l D b0 ad Hb tau) mt_170 (d + 6) 11 [some (.ref 56), some (xI x0)] [] h2 Post := by
      intro Z2 h2 f1_0 hx2 hG2 hf2
      have b3 : 0 ≤ Z2 56 11 ∧ Z2 56 11 ≤ 4 := hG2.pr 56 11
      refine mx_J.step (sn_170 11) (fun _ _ => rfl) ?_
      have b5 : 0 ≤ Z2 56 11 ∧ Z2 56 11 ≤ 4 := hG2.pr 56 11
      refine JgetI (g := 11) (z := Z2 56 11) hx2 (show mx_Sn _ _ 12 (mx_getf 12 11 15) from sn_170 12) a56 s56 rfl rfl rfl ?_
      have c22 : ∀  (Z7 : xZ) (h7 : mx_H), (Z7 56 6 ≤ Z7 56 7 ∧ Z7 56 7 ≤ Z 56 8 ∧ (Z7 56 9 = 24 ∨ Z7 56 6 < Z7 56 7) ∧ Z 56 6 ≤ Z7 56 6 ∧ (Z7 56 11 = 0 → Z 56 11 = 0 ∧ ¬ x0 = 6 ∧ Z 56 6 + 1 ≤ Z7 56 6)) → XH n s S Z7 h7 → GI n S Z7 → fr' [(56, 6), (56, 7), (56, 9), (56, 10)] Z2 Z7 → mx_J (tB l D b0 ad Hb tau) mt_170 (d + 6) 22 [some (.ref 56), some (xI x0)] [] h7 Post := by
        intro Z7 h7 f6_0 hx7 hG7 hf7
        have b8 : 0 ≤ Z7 56 6 ∧ Z7 56 6 ≤ 900 := hG7.pr 56 6
        have b9 : 0 ≤ Z7 56 7 ∧ Z7 56 7 ≤ 900 := hG7.pr 56 7
        have b10 : 0 ≤ Z7 56 9 ∧ Z7 56 9 ≤ 100 := hG7.pr 56 9
        have eq11 : Z7 56 11 = Z2 56 11 := (hf7 56 11 rfl)
        have b12 : 0 ≤ Z2 56 11 ∧ Z2 56 11 ≤ 4 := hG2.pr 56 11
        refine mx_J.step (sn_170 22) (fun _ _ => rfl) ?_
        have b14 : 0 ≤ Z2 56 11 ∧ Z2 56 11 ≤ 4 := hG2.pr 56 11
        refine JgetI (g := 11) (z := Z2 56 11) hx7 (show mx_Sn _ _ 23 (mx_getf 12 11 26) from sn_170 23) a56 s56 rfl rfl (hf7 56 11 rfl) ?_
        have c34 : ∀ (k15_0 : Int), 0 ≤ k15_0 ∧ k15_0 ≤ 1 → ((k15_0 = 1 ∧ Z7 56 11 = 0) ∨ (k15_0 = 0 ∧ ¬ Z7 56 11 = 0)) → mx_J (tB l D b0 ad Hb tau) mt_170 (d + 6) 34 [some (.ref 56), some (xI x0)] [xI k15_0] h7 Post := by
          intro k15_0 f15_0 f15_1
          have eq16 : Z7 56 11 = Z2 56 11 := (hf7 56 11 rfl)
          have b17 : 0 ≤ Z2 56 11 ∧ Z2 56 11 ≤ 4 := hG2.pr 56 11
          have b18 : 0 ≤ Z7 56 6 ∧ Z7 56 6 ≤ 900 := hG7.pr 56 6
          have b19 : 0 ≤ Z7 56 7 ∧ Z7 56 7 ≤ 900 := hG7.pr 56 7
          have b20 : 0 ≤ Z7 56 9 ∧ Z7 56 9 ≤ 100 := hG7.pr 56 9
          have eq21 : Z7 56 11 = Z2 56 11 := (hf7 56 11 rfl)
          have b22 : 0 ≤ Z2 56 11 ∧ Z2 56 11 ≤ 4 := hG2.pr 56 11
          have b23 : 0 ≤ Z7 56 6 ∧ Z7 56 6 ≤ 900 := hG7.pr 56 6
          have b24 : 0 ≤ Z7 56 7 ∧ Z7 56 7 ≤ 900 := hG7.pr 56 7
          have eq25 : Z7 56 8 = Z 56 8 := ((hf7 56 8 rfl).trans (hf2 56 8 rfl))
          have b26 : 0 ≤ Z 56 8 ∧ Z 56 8 ≤ 900 := hG.pr 56 8
          have b27 : 0 ≤ Z7 56 9 ∧ Z7 56 9 ≤ 100 := hG7.pr 56 9
          have eq28 : Z7 56 11 = Z2 56 11 := (hf7 56 11 rfl)
          have b29 : 0 ≤ Z2 56 11 ∧ Z2 56 11 ≤ 4 := hG2.pr 56 11
          exact mx_J.ret (show mx_Sn _ _ 34 (mx_zret) from sn_170 34) (fun _ _ => zr_ok (by omega)) (hP k15_0 Z7 h7 hx7 hG7 (fr_tr (M := [(56, 6), (56, 7), (56, 9), (56, 10), (56, 11), (56, 12)]) (fr_tr (M := [(56, 6), (56, 7), (56, 9), (56, 10), (56, 11), (56, 12)]) fr_rf (hf2) (M1 := []) rfl rfl) (hf7) rfl rfl) (by omega))
        refine Jif_ne (show mx_Sn _ _ 26 (mx_if_ne 33 29) from sn_170 26) (by omega) (fun q30 => ?_) (fun q30 => ?_)
        · skip
          refine JcI (z := 0) (show mx_Sn _ _ 33 (mx_const (.int 0) 34) from sn_170 33) rfl ?_
          have eq31 : Z7 56 11 = Z2 56 11 := (hf7 56 11 rfl)
          have b32 : 0 ≤ Z2 56 11 ∧ Z2 56 11 ≤ 4 := hG2.pr 56 11
          exact c34 0 (by omega) (by omega)
        · skip
          refine JcI (z := 1) (show mx_Sn _ _ 29 (mx_const (.int 1) 30) from sn_170 29) rfl ?_
          refine mx_J.step (sn_170 30) (fun _ _ => rfl) ?_
          have eq33 : Z7 56 11 = Z2 56 11 := (hf7 56 11 rfl)
          have b34 : 0 ≤ Z2 56 11 ∧ Z2 56 11 ≤ 4 := hG2.pr 56 11
          exact c34 1 (by omega) (by omega)
      refine Jif_ne (show mx_Sn _ _ 15 (mx_if_ne 22 18) from sn_170 15) (by omega) (fun q35 => ?_) (fun q35 => ?_)
      · skip
        have eq36 : Z2 56 6 = Z 56 6 := (hf2 56 6 rfl)
        have b37 : 0 ≤ Z 56 6 ∧ Z 56 6 ≤ 900 := hG.pr 56 6
        have eq38 : Z2 56 7 = Z 56 7 := (hf2 56 7 rfl)
        have b39 : 0 ≤ Z 56 7 ∧ Z 56 7 ≤ 900 := hG.pr 56 7
        have eq40 : Z2 56 9 = Z 56 9 := (hf2 56 9 rfl)
        have b41 : 0 ≤ Z 56 9 ∧ Z 56 9 ≤ 100 := hG.pr 56 9
        have b42 : 0 ≤ Z2 56 11 ∧ Z2 56 11 ≤ 4 := hG2.pr 56 11
        exact c22 Z2 h2 (by omega) hx2 hG2 fr_rf
      · skip
        refine mx_J.step (sn_170 18) (fun _ _ => rfl) ?_
        have eq44 : Z2 56 7 = Z 56 7 := (hf2 56 7 rfl)
        have b45 : 0 ≤ Z 56 7 ∧ Z 56 7 ≤ 900 := hG.pr 56 7
        have eq46 : Z2 56 8 = Z 56 8 := (hf2 56 8 rfl)
        have b47 : 0 ≤ Z 56 8 ∧ Z 56 8 ≤ 900 := hG.pr 56 8
        obtain ⟨Z43, h43, hc43, hx43, hG43, hf43, b43⟩ := ct_162_56 (d := d + 0) (l := l) (D := D) (b0 := b0) (ad := ad) (Hb := Hb) (tau := tau) hx2 hG2  (show Z2 56 7 ≤ Z2 56 8 by first | omega | (simp only [eq44, eq46]; omega))
        try rw [eq44] at b43
        try rw [eq46] at b43
        have b48 : 0 ≤ Z43 56 6 ∧ Z43 56 6 ≤ 900 := hG43.pr 56 6
        have b49 : 0 ≤ Z43 56 7 ∧ Z43 56 7 ≤ 900 := hG43.pr 56 7
        have b50 : 0 ≤ Z43 56 9 ∧ Z43 56 9 ≤ 100 := hG43.pr 56 9
        refine Jcv0 hx2 (show mx_Sn _ _ 19 (mx_callv 162 1 12 22) from sn_170 19) a56 s56 hc43 rfl rfl rfl ?_
        have b51 : 0 ≤ Z43 56 6 ∧ Z43 56 6 ≤ 900 := hG43.pr 56 6
        have b52 : 0 ≤ Z43 56 7 ∧ Z43 56 7 ≤ 900 := hG43.pr 56 7
        have b53 : 0 ≤ Z43 56 9 ∧ Z43 56 9 ≤ 100 := hG43.pr 56 9
        have eq54 : Z43 56 11 = Z2 56 11 := (hf43 56 11 rfl)
        have b55 : 0 ≤ Z2 56 11 ∧ Z2 56 11 ≤ 4 := hG2.pr 56 11
        exact c22 Z43 h43 (by omega) hx43 hG43 (fr_tr (M := [(56, 6), (56, 7), (56, 9), (56, 10)]) fr_rf (hf43) (M1 := []) rfl rfl)
    refine Jicmp_ne (show mx_Sn _ _ 3 (mx_icmp_ne 11 6) from sn_170 3) (by omega) (by omega) (fun q56 => ?_) (fun q56 => ?_)
    · skip
      have b57 : 0 ≤ Z 56 11 ∧ Z 56 11 ≤ 4 := hG.pr 56 11
      exact c11 Z h (by omega) hx hG fr_rf
    · skip
      refine mx_J.step (sn_170 6) (fun _ _ => rfl) ?_
      refine JcI (z := 4) (show mx_Sn _ _ 7 (mx_const (.int 4) 8) from sn_170 7) rfl ?_
      obtain ⟨Z58, h58, hc58, hx58, hG58, hf58, b58⟩ := ct_163_56 (d := d + 5) (l := l) (D := D) (b0 := b0) (ad := ad) (Hb := Hb) (tau := tau) hx hG (show 1 ≤ 4 ∧ 4 ≤ 4 by omega)
      have b59 : 0 ≤ Z58 56 11 ∧ Z58 56 11 ≤ 4 := hG58.pr 56 11
      refine Jcv0 hx (show mx_Sn _ _ 8 (mx_callv 163 2 12 11) from sn_170 8) a56 s56 hc58 rfl rfl rfl ?_
      have b60 : 0 ≤ Z58 56 11 ∧ Z58 56 11 ≤ 4 := hG58.pr 56 11
      exact c11 Z58 h58 (by omega) hx58 hG58 (fr_tr (M := [(56, 11), (56, 12)]) fr_rf (hf58) (M1 := []) rfl rfl)
theorem ct_170_56 {l : Launch} {D : va_G} {b0 : Nat} {ad : Nat → Nat} {Hb : Heap} {tau : Nat → Int64} {d n s : Nat} {S : Nat → xS} {Z : xZ} {h : mx_H} (hx : XH n s S Z h) (hG : GI n S Z)  {x0 : Int} (p0 : 0 ≤ x0 ∧ x0 ≤ 6) (k0 : (Z 56 6 ≤ Z 56 7 ∧ Z 56 7 ≤ Z 56 8 ∧ (Z 56 9 = 24 ∨ Z 56 6 < Z 56 7))) (k1 : ¬ Z 56 9 = 24) : ∃ (z : Int) (Z' : xZ) (h' : mx_H), mx_Ca (tB l D b0 ad Hb tau) (d + 7) 170 [.ref 56, xI x0] h (some (xI z), h') ∧ XH n s S Z' h' ∧ GI n S Z' ∧ fr' [(56, 6), (56, 7), (56, 9), (56, 10), (56, 11), (56, 12)] Z Z' ∧ (0 ≤ z ∧ z ≤ 1 ∧ ((Z' 56 6 ≤ Z' 56 7 ∧ Z' 56 7 ≤ Z 56 8 ∧ (Z' 56 9 = 24 ∨ Z' 56 6 < Z' 56 7)) ∧ Z 56 6 ≤ Z' 56 6 ∧ ((z = 1 ∧ ¬ x0 = 6 ∧ Z' 56 11 = 0 ∧ Z 56 11 = 0 ∧ Z 56 6 + 1 ≤ Z' 56 6) ∨ (z = 0 ∧ ¬ Z' 56 11 = 0)))) := by
  obtain ⟨r, hca, z, Z', h', e, q⟩ := Jmt (B := tB l D b0 ad Hb tau) (M := mt_170) (mi := 170) (as := [.ref 56, xI x0]) (d := d + 6) (ls := [some (.ref 56), some (xI x0)]) rfl rfl rfl rfl rfl rfl (cw_170_56 (l := l) (D := D) (b0 := b0) (ad := ad) (Hb := Hb) (tau := tau) (d := d) (Post := fun r => ∃ (z : Int) (Z' : xZ) (h' : mx_H), r = (some (xI z), h') ∧ XH n s S Z' h' ∧ GI n S Z' ∧ fr' [(56, 6), (56, 7), (56, 9), (56, 10), (56, 11), (56, 12)] Z Z' ∧ (0 ≤ z ∧ z ≤ 1 ∧ ((Z' 56 6 ≤ Z' 56 7 ∧ Z' 56 7 ≤ Z 56 8 ∧ (Z' 56 9 = 24 ∨ Z' 56 6 < Z' 56 7)) ∧ Z 56 6 ≤ Z' 56 6 ∧ ((z = 1 ∧ ¬ x0 = 6 ∧ Z' 56 11 = 0 ∧ Z 56 11 = 0 ∧ Z 56 6 + 1 ≤ Z' 56 6) ∨ (z = 0 ∧ ¬ Z' 56 11 = 0))))) hx hG p0 k0 k1 (fun z Z' h' q1 q2 q3 q4 => ⟨z, Z', h', rfl, q1, q2, q3, q4⟩))
  subst e; exact ⟨z, Z', h', hca, q⟩
def rb_174 (l : Launch) (D : va_G) (b0 : Nat) (ad : Nat → Nat) (Hb : Heap) (tau : Nat → Int64) (kk : Nat) (x0 : Int) : Prop := ∀ (a0 : Int) (d n s : Nat) (S : Nat → xS) (Z : xZ) (h : mx_H) (hd : kk ≤ d) (hx : XH n s S Z h) (hG : GI n S Z) (k0 : (Z 56 6 ≤ Z 56 7 ∧ Z 56 7 ≤ Z 56 8 ∧ (Z 56 9 = 24 ∨ Z 56 6 < Z 56 7))) (k1 : Z 60 61 ≤ Z 56 6) (k2 : a0 ≤ Z 60 61) (k3 : 0 ≤ a0), ∃ (Z' : xZ) (h' : mx_H), mx_Ca (tB l D b0 ad Hb tau) d 174 [.ref 56, xI x0] h (none, h') ∧ XH n s S Z' h' ∧ GI n S Z' ∧ fr' [(56, 6), (56, 7), (56, 9), (56, 10), (56, 11), (56, 12), (60, (-1))] Z Z' ∧ (QR Z Z' a0 1 0 ∧ ((Z' 56 6 ≤ Z' 56 7 ∧ Z' 56 7 ≤ Z 56 8 ∧ (Z' 56 9 = 24 ∨ Z' 56 6 < Z' 56 7)) ∧ Z' 60 1 = Z 60 1 ∧ Z' 60 2 = Z 60 2 ∧ Z 56 6 ≤ Z' 56 6 ∧ Z 60 61 ≤ Z' 60 61 ∧ Z' 60 61 - Z 60 61 ≤ Z' 56 6 - Z 56 6))
def rb_175 (l : Launch) (D : va_G) (b0 : Nat) (ad : Nat → Nat) (Hb : Heap) (tau : Nat → Int64) (kk : Nat) (x0 : Int) : Prop := ∀ (a0 : Int) (d n s : Nat) (S : Nat → xS) (Z : xZ) (h : mx_H) (hd : kk ≤ d) (hx : XH n s S Z h) (hG : GI n S Z) (k0 : (Z 56 6 ≤ Z 56 7 ∧ Z 56 7 ≤ Z 56 8 ∧ (Z 56 9 = 24 ∨ Z 56 6 < Z 56 7))) (k1 : Z 60 61 ≤ Z 56 6) (k2 : a0 ≤ Z 60 61) (k3 : 0 ≤ a0), ∃ (Z' : xZ) (h' : mx_H), mx_Ca (tB l D b0 ad Hb tau) d 175 [.ref 56, xI x0] h (none, h') ∧ XH n s S Z' h' ∧ GI n S Z' ∧ fr' [(56, 6), (56, 7), (56, 9), (56, 10), (56, 11), (56, 12), (60, (-1))] Z Z' ∧ (QR Z Z' a0 1 0 ∧ ((Z' 56 6 ≤ Z' 56 7 ∧ Z' 56 7 ≤ Z 56 8 ∧ (Z' 56 9 = 24 ∨ Z' 56 6 < Z' 56 7)) ∧ Z' 60 1 = Z 60 1 ∧ Z' 60 2 = Z 60 2 ∧ Z 56 6 ≤ Z' 56 6 ∧ Z 60 61 ≤ Z' 60 61 ∧ Z' 60 61 - Z 60 61 ≤ Z' 56 6 - Z 56 6))
def rb_177 (l : Launch) (D : va_G) (b0 : Nat) (ad : Nat → Nat) (Hb : Heap) (tau : Nat → Int64) (kk : Nat) (x0 : Int) : Prop := ∀ (a0 : Int) (d n s : Nat) (S : Nat → xS) (Z : xZ) (h : mx_H) (hd : kk ≤ d) (hx : XH n s S Z h) (hG : GI n S Z) (k0 : (Z 56 6 ≤ Z 56 7 ∧ Z 56 7 ≤ Z 56 8 ∧ (Z 56 9 = 24 ∨ Z 56 6 < Z 56 7))) (k1 : Z 60 61 ≤ Z 56 6) (k2 : a0 ≤ Z 60 61) (k3 : 0 ≤ a0), ∃ (Z' : xZ) (h' : mx_H), mx_Ca (tB l D b0 ad Hb tau) d 177 [.ref 56, xI x0] h (none, h') ∧ XH n s S Z' h' ∧ GI n S Z' ∧ fr' [(56, 6), (56, 7), (56, 9), (56, 10), (56, 11), (56, 12), (60, (-1))] Z Z' ∧ (QR Z Z' a0 1 0 ∧ ((Z' 56 6 ≤ Z' 56 7 ∧ Z' 56 7 ≤ Z 56 8 ∧ (Z' 56 9 = 24 ∨ Z' 56 6 < Z' 56 7)) ∧ Z' 60 1 = Z 60 1 ∧ Z' 60 2 = Z 60 2 ∧ Z 56 6 ≤ Z' 56 6 ∧ Z 60 61 ≤ Z' 60 61 ∧ Z' 60 61 - Z 60 61 ≤ Z' 56 6 - Z 56 6))
def RBm (l : Launch) (D : va_G) (b0 : Nat) (ad : Nat → Nat) (Hb : Heap) (tau : Nat → Int64) (kk : Nat) (x0 : Int) : Prop := rb_174 l D b0 ad Hb tau kk x0 ∧ rb_175 l D b0 ad Hb tau kk x0 ∧ rb_177 l D b0 ad Hb tau kk x0
def RBmh (l : Launch) (D : va_G) (b0 : Nat) (ad : Nat → Nat) (Hb : Heap) (tau : Nat → Int64) (kk : Nat) (x0 : Int) : Prop := x0 ≤ 5 → RBm l D b0 ad Hb tau kk (x0 + 1)
theorem ri_174 {l : Launch} {D : va_G} {b0 : Nat} {ad : Nat → Nat} {Hb : Heap} {tau : Nat → Int64} {x0 : Int} {kk : Nat} (IH : RBmh l D b0 ad Hb tau kk x0) (h5 : x0 ≤ 5) {a0 : Int} {d n s : Nat} {S : Nat → xS} {Z : xZ} {h : mx_H} (hd : kk ≤ d) (hx : XH n s S Z h) (hG : GI n S Z) (_p0 : 1 ≤ x0 + 1 ∧ x0 + 1 ≤ 6) (k0 : (Z 56 6 ≤ Z 56 7 ∧ Z 56 7 ≤ Z 56 8 ∧ (Z 56 9 = 24 ∨ Z 56 6 < Z 56 7))) (k1 : Z 60 61 ≤ Z 56 6) (k2 : a0 ≤ Z 60 61) (k3 : 0 ≤ a0) : ∃ (Z' : xZ) (h' : mx_H), mx_Ca (tB l D b0 ad Hb tau) d 174 [.ref 56, xI (x0 + 1)] h (none, h') ∧ XH n s S Z' h' ∧ GI n S Z' ∧ fr' [(56, 6), (56, 7), (56, 9), (56, 10), (56, 11), (56, 12), (60, (-1))] Z Z' ∧ (QR Z Z' a0 1 0 ∧ ((Z' 56 6 ≤ Z' 56 7 ∧ Z' 56 7 ≤ Z 56 8 ∧ (Z' 56 9 = 24 ∨ Z' 56 6 < Z' 56 7)) ∧ Z' 60 1 = Z 60 1 ∧ Z' 60 2 = Z 60 2 ∧ Z 56 6 ≤ Z' 56 6 ∧ Z 60 61 ≤ Z' 60 61 ∧ Z' 60 61 - Z 60 61 ≤ Z' 56 6 - Z 56 6)) := (IH h5).1 a0 d n s S Z h hd hx hG k0 k1 k2 k3
theorem ri_175 {l : Launch} {D : va_G} {b0 : Nat} {ad : Nat → Nat} {Hb : Heap} {tau : Nat → Int64} {x0 : Int} {kk : Nat} (IH : RBmh l D b0 ad Hb tau kk x0) (h5 : x0 ≤ 5) {a0 : Int} {d n s : Nat} {S : Nat → xS} {Z : xZ} {h : mx_H} (hd : kk ≤ d) (hx : XH n s S Z h) (hG : GI n S Z) (_p0 : 1 ≤ x0 + 1 ∧ x0 + 1 ≤ 6) (k0 : (Z 56 6 ≤ Z 56 7 ∧ Z 56 7 ≤ Z 56 8 ∧ (Z 56 9 = 24 ∨ Z 56 6 < Z 56 7))) (k1 : Z 60 61 ≤ Z 56 6) (k2 : a0 ≤ Z 60 61) (k3 : 0 ≤ a0) : ∃ (Z' : xZ) (h' : mx_H), mx_Ca (tB l D b0 ad Hb tau) d 175 [.ref 56, xI (x0 + 1)] h (none, h') ∧ XH n s S Z' h' ∧ GI n S Z' ∧ fr' [(56, 6), (56, 7), (56, 9), (56, 10), (56, 11), (56, 12), (60, (-1))] Z Z' ∧ (QR Z Z' a0 1 0 ∧ ((Z' 56 6 ≤ Z' 56 7 ∧ Z' 56 7 ≤ Z 56 8 ∧ (Z' 56 9 = 24 ∨ Z' 56 6 < Z' 56 7)) ∧ Z' 60 1 = Z 60 1 ∧ Z' 60 2 = Z 60 2 ∧ Z 56 6 ≤ Z' 56 6 ∧ Z 60 61 ≤ Z' 60 61 ∧ Z' 60 61 - Z 60 61 ≤ Z' 56 6 - Z 56 6)) := (IH h5).2.1 a0 d n s S Z h hd hx hG k0 k1 k2 k3
theorem ri_177 {l : Launch} {D : va_G} {b0 : Nat} {ad : Nat → Nat} {Hb : Heap} {tau : Nat → Int64} {x0 : Int} {kk : Nat} (IH : RBmh l D b0 ad Hb tau kk x0) (h5 : x0 ≤ 5) {a0 : Int} {d n s : Nat} {S : Nat → xS} {Z : xZ} {h : mx_H} (hd : kk ≤ d) (hx : XH n s S Z h) (hG : GI n S Z) (_p0 : 1 ≤ x0 + 1 ∧ x0 + 1 ≤ 6) (k0 : (Z 56 6 ≤ Z 56 7 ∧ Z 56 7 ≤ Z 56 8 ∧ (Z 56 9 = 24 ∨ Z 56 6 < Z 56 7))) (k1 : Z 60 61 ≤ Z 56 6) (k2 : a0 ≤ Z 60 61) (k3 : 0 ≤ a0) : ∃ (Z' : xZ) (h' : mx_H), mx_Ca (tB l D b0 ad Hb tau) d 177 [.ref 56, xI (x0 + 1)] h (none, h') ∧ XH n s S Z' h' ∧ GI n S Z' ∧ fr' [(56, 6), (56, 7), (56, 9), (56, 10), (56, 11), (56, 12), (60, (-1))] Z Z' ∧ (QR Z Z' a0 1 0 ∧ ((Z' 56 6 ≤ Z' 56 7 ∧ Z' 56 7 ≤ Z 56 8 ∧ (Z' 56 9 = 24 ∨ Z' 56 6 < Z' 56 7)) ∧ Z' 60 1 = Z 60 1 ∧ Z' 60 2 = Z 60 2 ∧ Z 56 6 ≤ Z' 56 6 ∧ Z 60 61 ≤ Z' 60 61 ∧ Z' 60 61 - Z 60 61 ≤ Z' 56 6 - Z 56 6)) := (IH h5).2.2 a0 d n s S Z h hd hx hG k0 k1 k2 k3
set_option maxHeartbeats 8000000 in
set_option maxRecDepth 100000 in
theorem cw_172_56_s {l : Launch} {D : va_G} {b0 : Nat} {ad : Nat → Nat} {Hb : Heap} {tau : Nat → Int64} {d n s : Nat} {S : Nat → xS} {Z : xZ} {h : mx_H} {Post : mx_R → Prop} {a0 : Int} (hx : XH n s S Z h) (hG : GI n S Z)  {x0 : Int} (p0 : 0 ≤ x0 ∧ x0 ≤ 6) (k0 : (Z 56 6 ≤ Z 56 7 ∧ Z 56 7 ≤ Z 56 8 ∧ (Z 56 9 = 24 ∨ Z 56 6 < Z 56 7))) (k1 : Z 60 61 ≤ Z 56 6) (k2 : a0 ≤ Z 60 61) (k3 : 0 ≤ a0) (k4 : ¬ Z 56 9 = 24) {kk : Nat} (IH : RBmh l D b0 ad Hb tau kk x0) (hd : kk ≤ d) (hP : ∀ (Z' : xZ) (h' : mx_H), XH n s S Z' h' → GI n S Z' → fr' [(56, 6), (56, 7), (56, 9), (56, 10), (56, 11), (56, 12), (60, (-1))] Z Z' → QR Z Z' a0 1 0 ∧ ((Z' 56 6 ≤ Z' 56 7 ∧ Z' 56 7 ≤ Z 56 8 ∧ (Z' 56 9 = 24 ∨ Z' 56 6 < Z' 56 7)) ∧ Z' 60 1 = Z 60 1 ∧ Z' 60 2 = Z 60 2 ∧ Z 56 6 ≤ Z' 56 6 ∧ Z 60 61 ≤ Z' 60 61 ∧ Z' 60 61 - Z 60 61 ≤ Z' 56 6 - Z 56 6) → Post (none, h')) : mx_J (tB l D b0 ad Hb tau) mt_172 (d + 7) 0 [some (.ref 56), some (xI x0)] [] h Post := by
    have a56 : 56 < n := lt83 (GI_n hG) rfl
    have s56 : S 56 = .inl (12, [0, 2, 2, 2, 2, 0, 0, 0, 0, 0, 0, 0, 0, 0, 0, 2, 2, 2, 0, 2, 2, 2, 0, 0, 2, 2, 2, 2, 2, 2, 0, 0, 2, 2, 2, 2, 2, 2, 2, 2, 2, 2]) := GI_s hG 56 rfl
    refine mx_J.step (sn_172 0) (fun _ _ => rfl) ?_
    refine mx_J.step (sn_172 1) (fun _ _ => rfl) ?_
    have b2 : 0 ≤ Z 56 6 ∧ Z 56 6 ≤ 900 := hG.pr 56 6
    have b3 : 0 ≤ Z 56 7 ∧ Z 56 7 ≤ 900 := hG.pr 56 7
    have b4 : 0 ≤ Z 56 8 ∧ Z 56 8 ≤ 900 := hG.pr 56 8
    have b5 : 0 ≤ Z 56 9 ∧ Z 56 9 ≤ 100 := hG.pr 56 9
    have b6 : 0 ≤ Z 56 11 ∧ Z 56 11 ≤ 4 := hG.pr 56 11
    obtain ⟨z1, Z1, h1, hc1, hx1, hG1, hf1, b1⟩ := ct_170_56 (d := d + 0) (l := l) (D := D) (b0 := b0) (ad := ad) (Hb := Hb) (tau := tau) hx hG (show 0 ≤ x0 ∧ x0 ≤ 6 by omega) (show (Z 56 6 ≤ Z 56 7 ∧ Z 56 7 ≤ Z 56 8 ∧ (Z 56 9 = 24 ∨ Z 56 6 < Z 56 7)) by omega) (show ¬ Z 56 9 = 24 by omega)
    have b7 : 0 ≤ Z1 56 6 ∧ Z1 56 6 ≤ 900 := hG1.pr 56 6
    have b8 : 0 ≤ Z1 56 7 ∧ Z1 56 7 ≤ 900 := hG1.pr 56 7
    have b9 : 0 ≤ Z1 56 9 ∧ Z1 56 9 ≤ 100 := hG1.pr 56 9
    have b10 : 0 ≤ Z1 56 11 ∧ Z1 56 11 ≤ 4 := hG1.pr 56 11
    have b11 : 0 ≤ Z 56 6 ∧ Z 56 6 ≤ 900 := hG.pr 56 6
    have b12 : 0 ≤ Z 56 11 ∧ Z 56 11 ≤ 4 := hG.pr 56 11
    have b13 : 0 ≤ Z 56 9 ∧ Z 56 9 ≤ 100 := hG.pr 56 9
    have r1 := QR_g (k := 1) (c2 := 1) (QR_rf (Z := Z) (a := a0)) (fun e => by omega) (fun i => hf1 60 i rfl) (fun e => by omega) (by decide)
    refine Jcv hx (show mx_Sn _ _ 2 (mx_callv 170 2 12 5) from sn_172 2) a56 s56 hc1 rfl rfl rfl ?_
    refine Jif_ne (show mx_Sn _ _ 5 (mx_if_ne 9 8) from sn_172 5) (by omega) (fun q14 => ?_) (fun q14 => ?_)
    · skip
      have hx5 : x0 ≤ 5 := by omega
      refine mx_J.step (sn_172 9) (fun _ _ => rfl) ?_
      refine mx_J.step (sn_172 10) (fun _ _ => rfl) ?_
      refine JcI (z := 1) (show mx_Sn _ _ 11 (mx_const (.int 1) 12) from sn_172 11) rfl ?_
      refine Jiadd (show mx_Sn _ _ 12 (mx_iadd 13) from sn_172 12) ?_
      have b16 : 0 ≤ Z1 56 6 ∧ Z1 56 6 ≤ 900 := hG1.pr 56 6
      have b17 : 0 ≤ Z1 56 7 ∧ Z1 56 7 ≤ 900 := hG1.pr 56 7
      have eq18 : Z1 56 8 = Z 56 8 := (hf1 56 8 rfl)
      have b19 : 0 ≤ Z 56 8 ∧ Z 56 8 ≤ 900 := hG.pr 56 8
      have b20 : 0 ≤ Z1 56 9 ∧ Z1 56 9 ≤ 100 := hG1.pr 56 9
      have b21 : 0 ≤ Z1 56 11 ∧ Z1 56 11 ≤ 4 := hG1.pr 56 11
      have eq22 : Z1 60 61 = Z 60 61 := (hf1 60 61 rfl)
      have b23 : 0 ≤ Z 60 61 ∧ Z 60 61 ≤ 900 := by have hq := GI_ex hG 60 61; replace hq : f60 (61 % 962) (Z 60 61) := hq; unfold f60 at hq; omega
      have b24 : (-2147483648) ≤ Z 60 61 ∧ Z 60 61 ≤ 2147483647 := hG.pr 60 61
      have eq25 : Z1 60 1 = Z 60 1 := (hf1 60 1 rfl)
      have b26 : 0 ≤ Z 60 1 ∧ Z 60 1 ≤ 18 := by have hq := GI_ex hG 60 1; replace hq : f60 (1 % 962) (Z 60 1) := hq; unfold f60 at hq; omega
      have b27 : (-2147483648) ≤ Z 60 1 ∧ Z 60 1 ≤ 2147483647 := hG.pr 60 1
      have eq28 : Z1 60 2 = Z 60 2 := (hf1 60 2 rfl)
      have b29 : 0 ≤ Z 60 2 ∧ Z 60 2 ≤ 18 := by have hq := GI_ex hG 60 2; replace hq : f60 (2 % 962) (Z 60 2) := hq; unfold f60 at hq; omega
      have b30 : (-2147483648) ≤ Z 60 2 ∧ Z 60 2 ≤ 2147483647 := hG.pr 60 2
      obtain ⟨Z15, h15, hc15, hx15, hG15, hf15, b15⟩ := ri_177 IH (by omega) (hd := by omega) (a0 := a0) (d := d + 7) (l := l) (D := D) (b0 := b0) (ad := ad) (Hb := Hb) (tau := tau) hx1 hG1 (show 1 ≤ x0 + 1 ∧ x0 + 1 ≤ 6 by omega) (show (Z1 56 6 ≤ Z1 56 7 ∧ Z1 56 7 ≤ Z1 56 8 ∧ (Z1 56 9 = 24 ∨ Z1 56 6 < Z1 56 7)) by first | omega | (simp only [eq18, eq22, eq25, eq28]; omega)) (show Z1 60 61 ≤ Z1 56 6 by first | omega | (simp only [eq18, eq22, eq25, eq28]; omega)) (show a0 ≤ Z1 60 61 by first | omega | (simp only [eq18, eq22, eq25, eq28]; omega)) (show 0 ≤ a0 by first | omega | (simp only [eq18, eq22, eq25, eq28]; omega))
      try rw [eq18] at b15
      try rw [eq22] at b15
      try rw [eq25] at b15
      try rw [eq28] at b15
      obtain ⟨bq15, b15⟩ := b15
      have b31 : 0 ≤ Z15 56 6 ∧ Z15 56 6 ≤ 900 := hG15.pr 56 6
      have b32 : 0 ≤ Z15 56 7 ∧ Z15 56 7 ≤ 900 := hG15.pr 56 7
      have b33 : 0 ≤ Z15 56 9 ∧ Z15 56 9 ≤ 100 := hG15.pr 56 9
      have b34 : 0 ≤ Z15 56 11 ∧ Z15 56 11 ≤ 4 := hG15.pr 56 11
      have b35 : 0 ≤ Z15 60 61 ∧ Z15 60 61 ≤ 900 := by have hq := GI_ex hG15 60 61; replace hq : f60 (61 % 962) (Z15 60 61) := hq; unfold f60 at hq; omega
      have b36 : (-2147483648) ≤ Z15 60 61 ∧ Z15 60 61 ≤ 2147483647 := hG15.pr 60 61
      have b37 : 0 ≤ Z15 60 1 ∧ Z15 60 1 ≤ 18 := by have hq := GI_ex hG15 60 1; replace hq : f60 (1 % 962) (Z15 60 1) := hq; unfold f60 at hq; omega
      have b38 : (-2147483648) ≤ Z15 60 1 ∧ Z15 60 1 ≤ 2147483647 := hG15.pr 60 1
      have b39 : 0 ≤ Z15 60 2 ∧ Z15 60 2 ≤ 18 := by have hq := GI_ex hG15 60 2; replace hq : f60 (2 % 962) (Z15 60 2) := hq; unfold f60 at hq; omega
      have b40 : (-2147483648) ≤ Z15 60 2 ∧ Z15 60 2 ≤ 2147483647 := hG15.pr 60 2
      have r15 := QR_tr (d := 1) (c := 1) r1 bq15 (by decide) (by decide) (by decide)
      refine Jcv0 hx1 (show mx_Sn _ _ 13 (mx_callv 177 2 12 16) from sn_172 13) a56 s56 hc15 rfl rfl rfl ?_
      refine mx_J.step (sn_172 16) (fun _ _ => rfl) ?_
      refine JcI (z := 6) (show mx_Sn _ _ 17 (mx_const (.int 6) 19) from sn_172 17) rfl ?_
      have b42 : 0 ≤ Z15 56 6 ∧ Z15 56 6 ≤ 900 := hG15.pr 56 6
      have b43 : 0 ≤ Z15 56 7 ∧ Z15 56 7 ≤ 900 := hG15.pr 56 7
      have eq44 : Z15 56 8 = Z 56 8 := ((hf15 56 8 rfl).trans (hf1 56 8 rfl))
      have b45 : 0 ≤ Z 56 8 ∧ Z 56 8 ≤ 900 := hG.pr 56 8
      have b46 : 0 ≤ Z15 56 9 ∧ Z15 56 9 ≤ 100 := hG15.pr 56 9
      have b47 : 0 ≤ Z15 56 11 ∧ Z15 56 11 ≤ 4 := hG15.pr 56 11
      obtain ⟨z41, Z41, h41, hc41, hx41, hG41, hf41, b41⟩ := ct_165_56 (d := d + 0) (l := l) (D := D) (b0 := b0) (ad := ad) (Hb := Hb) (tau := tau) hx15 hG15 (show 0 ≤ 6 ∧ 6 ≤ 100 by omega) (show (Z15 56 6 ≤ Z15 56 7 ∧ Z15 56 7 ≤ Z15 56 8 ∧ (Z15 56 9 = 24 ∨ Z15 56 6 < Z15 56 7)) by first | omega | (simp only [eq44]; omega)) (show ¬ 6 = 24 by first | omega | (simp only [eq44]; omega))
      try rw [eq44] at b41
      have b48 : 0 ≤ Z41 56 6 ∧ Z41 56 6 ≤ 900 := hG41.pr 56 6
      have b49 : 0 ≤ Z41 56 7 ∧ Z41 56 7 ≤ 900 := hG41.pr 56 7
      have b50 : 0 ≤ Z41 56 9 ∧ Z41 56 9 ≤ 100 := hG41.pr 56 9
      have b51 : 0 ≤ Z15 56 6 ∧ Z15 56 6 ≤ 900 := hG15.pr 56 6
      have b52 : 0 ≤ Z15 56 11 ∧ Z15 56 11 ≤ 4 := hG15.pr 56 11
      have b53 : 0 ≤ Z15 56 9 ∧ Z15 56 9 ≤ 100 := hG15.pr 56 9
      have r41 := QR_g (k := 0) (c2 := 1) r15 (fun e => (hf41 56 11 rfl).symm.trans e) (fun i => hf41 60 i rfl) (fun e => by omega) (by decide)
      have rk41 : z41 = 1 → QR Z Z41 a0 1 2 := fun ez => QR_g (k := 1) r15 (fun e => (hf41 56 11 rfl).symm.trans e) (fun i => hf41 60 i rfl) (fun e => by omega) (by decide)
      refine Jcv hx15 (show mx_Sn _ _ 19 (mx_callv 165 2 12 22) from sn_172 19) a56 s56 hc41 rfl rfl rfl ?_
      have c30 : ∀  (Z55 : xZ) (h55 : mx_H), (Z55 56 6 ≤ Z55 56 7 ∧ Z55 56 7 ≤ Z 56 8) → (Z55 56 9 = 24 ∨ Z55 56 6 < Z55 56 7) → (Z 56 6 ≤ Z55 56 6 ∧ Z 60 61 ≤ Z55 60 61 ∧ Z55 60 61 - Z 60 61 ≤ Z55 56 6 - Z 56 6) → (Z55 60 1 = Z 60 1 ∧ Z55 60 2 = Z 60 2) → QR Z Z55 a0 1 1 → XH n s S Z55 h55 → GI n S Z55 → fr' [(56, 11), (56, 12)] Z41 Z55 → mx_J (tB l D b0 ad Hb tau) mt_172 (d + 7) 30 [some (.ref 56), some (xI x0)] [] h55 Post := by
        intro Z55 h55 f54_0 f54_1 f54_2 f54_3 f54_4 hx55 hG55 hf55
        clear b1 b15 b41
        have eq56 : Z55 56 6 = Z41 56 6 := (hf55 56 6 rfl)
        have b57 : 0 ≤ Z41 56 6 ∧ Z41 56 6 ≤ 900 := hG41.pr 56 6
        have eq58 : Z55 56 7 = Z41 56 7 := (hf55 56 7 rfl)
        have b59 : 0 ≤ Z41 56 7 ∧ Z41 56 7 ≤ 900 := hG41.pr 56 7
        have eq60 : Z55 56 6 = Z41 56 6 := (hf55 56 6 rfl)
        have b61 : 0 ≤ Z41 56 6 ∧ Z41 56 6 ≤ 900 := hG41.pr 56 6
        have eq62 : Z55 56 7 = Z41 56 7 := (hf55 56 7 rfl)
        have b63 : 0 ≤ Z41 56 7 ∧ Z41 56 7 ≤ 900 := hG41.pr 56 7
        have eq64 : Z55 56 9 = Z41 56 9 := (hf55 56 9 rfl)
        have b65 : 0 ≤ Z41 56 9 ∧ Z41 56 9 ≤ 100 := hG41.pr 56 9
        have eq66 : Z55 56 6 = Z41 56 6 := (hf55 56 6 rfl)
        have b67 : 0 ≤ Z41 56 6 ∧ Z41 56 6 ≤ 900 := hG41.pr 56 6
        have eq68 : Z55 60 61 = Z15 60 61 := ((hf55 60 61 rfl).trans (hf41 60 61 rfl))
        have b69 : 0 ≤ Z15 60 61 ∧ Z15 60 61 ≤ 900 := by have hq := GI_ex hG15 60 61; replace hq : f60 (61 % 962) (Z15 60 61) := hq; unfold f60 at hq; omega
        have b70 : (-2147483648) ≤ Z15 60 61 ∧ Z15 60 61 ≤ 2147483647 := hG15.pr 60 61
        have eq71 : Z55 60 1 = Z15 60 1 := ((hf55 60 1 rfl).trans (hf41 60 1 rfl))
        have b72 : 0 ≤ Z15 60 1 ∧ Z15 60 1 ≤ 18 := by have hq := GI_ex hG15 60 1; replace hq : f60 (1 % 962) (Z15 60 1) := hq; unfold f60 at hq; omega
        have b73 : (-2147483648) ≤ Z15 60 1 ∧ Z15 60 1 ≤ 2147483647 := hG15.pr 60 1
        have eq74 : Z55 60 2 = Z15 60 2 := ((hf55 60 2 rfl).trans (hf41 60 2 rfl))
        have b75 : 0 ≤ Z15 60 2 ∧ Z15 60 2 ≤ 18 := by have hq := GI_ex hG15 60 2; replace hq : f60 (2 % 962) (Z15 60 2) := hq; unfold f60 at hq; omega
        have b76 : (-2147483648) ≤ Z15 60 2 ∧ Z15 60 2 ≤ 2147483647 := hG15.pr 60 2
        refine mx_J.step (sn_172 30) (fun _ _ => rfl) ?_
        refine mx_J.step (sn_172 31) (fun _ _ => rfl) ?_
        refine JcI (z := 1) (show mx_Sn _ _ 32 (mx_const (.int 1) 33) from sn_172 32) rfl ?_
        refine Jiadd (show mx_Sn _ _ 33 (mx_iadd 34) from sn_172 33) ?_
        have eq78 : Z55 56 6 = Z41 56 6 := (hf55 56 6 rfl)
        have b79 : 0 ≤ Z41 56 6 ∧ Z41 56 6 ≤ 900 := hG41.pr 56 6
        have eq80 : Z55 56 7 = Z41 56 7 := (hf55 56 7 rfl)
        have b81 : 0 ≤ Z41 56 7 ∧ Z41 56 7 ≤ 900 := hG41.pr 56 7
        have eq82 : Z55 56 8 = Z 56 8 := ((hf55 56 8 rfl).trans ((hf41 56 8 rfl).trans ((hf15 56 8 rfl).trans (hf1 56 8 rfl))))
        have b83 : 0 ≤ Z 56 8 ∧ Z 56 8 ≤ 900 := hG.pr 56 8
        have eq84 : Z55 56 9 = Z41 56 9 := (hf55 56 9 rfl)
        have b85 : 0 ≤ Z41 56 9 ∧ Z41 56 9 ≤ 100 := hG41.pr 56 9
        have b86 : 0 ≤ Z55 56 11 ∧ Z55 56 11 ≤ 4 := hG55.pr 56 11
        have eq87 : Z55 60 61 = Z15 60 61 := ((hf55 60 61 rfl).trans (hf41 60 61 rfl))
        have b88 : 0 ≤ Z15 60 61 ∧ Z15 60 61 ≤ 900 := by have hq := GI_ex hG15 60 61; replace hq : f60 (61 % 962) (Z15 60 61) := hq; unfold f60 at hq; omega
        have b89 : (-2147483648) ≤ Z15 60 61 ∧ Z15 60 61 ≤ 2147483647 := hG15.pr 60 61
        have eq90 : Z55 60 1 = Z15 60 1 := ((hf55 60 1 rfl).trans (hf41 60 1 rfl))
        have b91 : 0 ≤ Z15 60 1 ∧ Z15 60 1 ≤ 18 := by have hq := GI_ex hG15 60 1; replace hq : f60 (1 % 962) (Z15 60 1) := hq; unfold f60 at hq; omega
        have b92 : (-2147483648) ≤ Z15 60 1 ∧ Z15 60 1 ≤ 2147483647 := hG15.pr 60 1
        have eq93 : Z55 60 2 = Z15 60 2 := ((hf55 60 2 rfl).trans (hf41 60 2 rfl))
        have b94 : 0 ≤ Z15 60 2 ∧ Z15 60 2 ≤ 18 := by have hq := GI_ex hG15 60 2; replace hq : f60 (2 % 962) (Z15 60 2) := hq; unfold f60 at hq; omega
        have b95 : (-2147483648) ≤ Z15 60 2 ∧ Z15 60 2 ≤ 2147483647 := hG15.pr 60 2
        obtain ⟨Z77, h77, hc77, hx77, hG77, hf77, b77⟩ := ri_174 IH (by omega) (hd := by omega) (a0 := a0) (d := d + 7) (l := l) (D := D) (b0 := b0) (ad := ad) (Hb := Hb) (tau := tau) hx55 hG55 (show 1 ≤ x0 + 1 ∧ x0 + 1 ≤ 6 by omega) (show (Z55 56 6 ≤ Z55 56 7 ∧ Z55 56 7 ≤ Z55 56 8 ∧ (Z55 56 9 = 24 ∨ Z55 56 6 < Z55 56 7)) by first | omega | (simp only [eq78, eq80, eq82, eq84, eq87, eq90, eq93]; omega)) (show Z55 60 61 ≤ Z55 56 6 by first | omega | (simp only [eq78, eq80, eq82, eq84, eq87, eq90, eq93]; omega)) (show a0 ≤ Z55 60 61 by first | omega | (simp only [eq78, eq80, eq82, eq84, eq87, eq90, eq93]; omega)) (show 0 ≤ a0 by first | omega | (simp only [eq78, eq80, eq82, eq84, eq87, eq90, eq93]; omega))
        try rw [eq78] at b77
        try rw [eq80] at b77
        try rw [eq82] at b77
        try rw [eq84] at b77
        try rw [eq87] at b77
        try rw [eq90] at b77
        try rw [eq93] at b77
        obtain ⟨bq77, b77⟩ := b77
        have b96 : 0 ≤ Z77 56 6 ∧ Z77 56 6 ≤ 900 := hG77.pr 56 6
        have b97 : 0 ≤ Z77 56 7 ∧ Z77 56 7 ≤ 900 := hG77.pr 56 7
        have b98 : 0 ≤ Z77 56 9 ∧ Z77 56 9 ≤ 100 := hG77.pr 56 9
        have b99 : 0 ≤ Z77 56 11 ∧ Z77 56 11 ≤ 4 := hG77.pr 56 11
        have b100 : 0 ≤ Z77 60 61 ∧ Z77 60 61 ≤ 900 := by have hq := GI_ex hG77 60 61; replace hq : f60 (61 % 962) (Z77 60 61) := hq; unfold f60 at hq; omega
        have b101 : (-2147483648) ≤ Z77 60 61 ∧ Z77 60 61 ≤ 2147483647 := hG77.pr 60 61
        have b102 : 0 ≤ Z77 60 1 ∧ Z77 60 1 ≤ 18 := by have hq := GI_ex hG77 60 1; replace hq : f60 (1 % 962) (Z77 60 1) := hq; unfold f60 at hq; omega
        have b103 : (-2147483648) ≤ Z77 60 1 ∧ Z77 60 1 ≤ 2147483647 := hG77.pr 60 1
        have b104 : 0 ≤ Z77 60 2 ∧ Z77 60 2 ≤ 18 := by have hq := GI_ex hG77 60 2; replace hq : f60 (2 % 962) (Z77 60 2) := hq; unfold f60 at hq; omega
        have b105 : (-2147483648) ≤ Z77 60 2 ∧ Z77 60 2 ≤ 2147483647 := hG77.pr 60 2
        have r77 := QR_tr (d := 2) (c := 1) f54_4 bq77 (by decide) (by decide) (by decide)
        refine Jcv0 hx55 (show mx_Sn _ _ 34 (mx_callv 174 2 12 37) from sn_172 34) a56 s56 hc77 rfl rfl rfl ?_
        refine mx_J.step (sn_172 37) (fun _ _ => rfl) ?_
        refine JcI (z := 7) (show mx_Sn _ _ 38 (mx_const (.int 7) 40) from sn_172 38) rfl ?_
        have b107 : 0 ≤ Z77 56 6 ∧ Z77 56 6 ≤ 900 := hG77.pr 56 6
        have b108 : 0 ≤ Z77 56 7 ∧ Z77 56 7 ≤ 900 := hG77.pr 56 7
        have eq109 : Z77 56 8 = Z 56 8 := ((hf77 56 8 rfl).trans ((hf55 56 8 rfl).trans ((hf41 56 8 rfl).trans ((hf15 56 8 rfl).trans (hf1 56 8 rfl)))))
        have b110 : 0 ≤ Z 56 8 ∧ Z 56 8 ≤ 900 := hG.pr 56 8
        have b111 : 0 ≤ Z77 56 9 ∧ Z77 56 9 ≤ 100 := hG77.pr 56 9
        have b112 : 0 ≤ Z77 56 11 ∧ Z77 56 11 ≤ 4 := hG77.pr 56 11
        obtain ⟨z106, Z106, h106, hc106, hx106, hG106, hf106, b106⟩ := ct_165_56 (d := d + 0) (l := l) (D := D) (b0 := b0) (ad := ad) (Hb := Hb) (tau := tau) hx77 hG77 (show 0 ≤ 7 ∧ 7 ≤ 100 by omega) (show (Z77 56 6 ≤ Z77 56 7 ∧ Z77 56 7 ≤ Z77 56 8 ∧ (Z77 56 9 = 24 ∨ Z77 56 6 < Z77 56 7)) by first | omega | (simp only [eq109]; omega)) (show ¬ 7 = 24 by first | omega | (simp only [eq109]; omega))
        try rw [eq109] at b106
        have b113 : 0 ≤ Z106 56 6 ∧ Z106 56 6 ≤ 900 := hG106.pr 56 6
        have b114 : 0 ≤ Z106 56 7 ∧ Z106 56 7 ≤ 900 := hG106.pr 56 7
        have b115 : 0 ≤ Z106 56 9 ∧ Z106 56 9 ≤ 100 := hG106.pr 56 9
        have b116 : 0 ≤ Z77 56 6 ∧ Z77 56 6 ≤ 900 := hG77.pr 56 6
        have b117 : 0 ≤ Z77 56 11 ∧ Z77 56 11 ≤ 4 := hG77.pr 56 11
        have b118 : 0 ≤ Z77 56 9 ∧ Z77 56 9 ≤ 100 := hG77.pr 56 9
        have r106 := QR_g (k := 0) (c2 := 1) r77 (fun e => (hf106 56 11 rfl).symm.trans e) (fun i => hf106 60 i rfl) (fun e => by omega) (by decide)
        have rk106 : z106 = 1 → QR Z Z106 a0 2 2 := fun ez => QR_g (k := 1) r77 (fun e => (hf106 56 11 rfl).symm.trans e) (fun i => hf106 60 i rfl) (fun e => by omega) (by decide)
        refine Jcv hx77 (show mx_Sn _ _ 40 (mx_callv 165 2 12 43) from sn_172 40) a56 s56 hc106 rfl rfl rfl ?_
        have c51 : ∀  (Z120 : xZ) (h120 : mx_H), (Z120 56 6 ≤ Z120 56 7 ∧ Z120 56 7 ≤ Z 56 8) → (Z120 56 9 = 24 ∨ Z120 56 6 < Z120 56 7) → (Z 56 6 ≤ Z120 56 6 ∧ Z 60 61 ≤ Z120 60 61 ∧ Z120 60 61 - Z 60 61 ≤ Z120 56 6 - Z 56 6) → (Z120 60 1 = Z 60 1 ∧ Z120 60 2 = Z 60 2) → QR Z Z120 a0 2 1 → XH n s S Z120 h120 → GI n S Z120 → fr' [(56, 11), (56, 12)] Z106 Z120 → mx_J (tB l D b0 ad Hb tau) mt_172 (d + 7) 51 [some (.ref 56), some (xI x0)] [] h120 Post := by
          intro Z120 h120 f119_0 f119_1 f119_2 f119_3 f119_4 hx120 hG120 hf120
          clear b77 b106
          have eq121 : Z120 56 6 = Z106 56 6 := (hf120 56 6 rfl)
          have b122 : 0 ≤ Z106 56 6 ∧ Z106 56 6 ≤ 900 := hG106.pr 56 6
          have eq123 : Z120 56 7 = Z106 56 7 := (hf120 56 7 rfl)
          have b124 : 0 ≤ Z106 56 7 ∧ Z106 56 7 ≤ 900 := hG106.pr 56 7
          have eq125 : Z120 56 6 = Z106 56 6 := (hf120 56 6 rfl)
          have b126 : 0 ≤ Z106 56 6 ∧ Z106 56 6 ≤ 900 := hG106.pr 56 6
          have eq127 : Z120 56 7 = Z106 56 7 := (hf120 56 7 rfl)
          have b128 : 0 ≤ Z106 56 7 ∧ Z106 56 7 ≤ 900 := hG106.pr 56 7
          have eq129 : Z120 56 9 = Z106 56 9 := (hf120 56 9 rfl)
          have b130 : 0 ≤ Z106 56 9 ∧ Z106 56 9 ≤ 100 := hG106.pr 56 9
          have eq131 : Z120 56 6 = Z106 56 6 := (hf120 56 6 rfl)
          have b132 : 0 ≤ Z106 56 6 ∧ Z106 56 6 ≤ 900 := hG106.pr 56 6
          have eq133 : Z120 60 61 = Z77 60 61 := ((hf120 60 61 rfl).trans (hf106 60 61 rfl))
          have b134 : 0 ≤ Z77 60 61 ∧ Z77 60 61 ≤ 900 := by have hq := GI_ex hG77 60 61; replace hq : f60 (61 % 962) (Z77 60 61) := hq; unfold f60 at hq; omega
          have b135 : (-2147483648) ≤ Z77 60 61 ∧ Z77 60 61 ≤ 2147483647 := hG77.pr 60 61
          have eq136 : Z120 60 1 = Z77 60 1 := ((hf120 60 1 rfl).trans (hf106 60 1 rfl))
          have b137 : 0 ≤ Z77 60 1 ∧ Z77 60 1 ≤ 18 := by have hq := GI_ex hG77 60 1; replace hq : f60 (1 % 962) (Z77 60 1) := hq; unfold f60 at hq; omega
          have b138 : (-2147483648) ≤ Z77 60 1 ∧ Z77 60 1 ≤ 2147483647 := hG77.pr 60 1
          have eq139 : Z120 60 2 = Z77 60 2 := ((hf120 60 2 rfl).trans (hf106 60 2 rfl))
          have b140 : 0 ≤ Z77 60 2 ∧ Z77 60 2 ≤ 18 := by have hq := GI_ex hG77 60 2; replace hq : f60 (2 % 962) (Z77 60 2) := hq; unfold f60 at hq; omega
          have b141 : (-2147483648) ≤ Z77 60 2 ∧ Z77 60 2 ≤ 2147483647 := hG77.pr 60 2
          refine mx_J.step (sn_172 51) (fun _ _ => rfl) ?_
          refine mx_J.step (sn_172 52) (fun _ _ => rfl) ?_
          refine JcI (z := 1) (show mx_Sn _ _ 53 (mx_const (.int 1) 54) from sn_172 53) rfl ?_
          refine Jiadd (show mx_Sn _ _ 54 (mx_iadd 55) from sn_172 54) ?_
          have eq143 : Z120 56 6 = Z106 56 6 := (hf120 56 6 rfl)
          have b144 : 0 ≤ Z106 56 6 ∧ Z106 56 6 ≤ 900 := hG106.pr 56 6
          have eq145 : Z120 56 7 = Z106 56 7 := (hf120 56 7 rfl)
          have b146 : 0 ≤ Z106 56 7 ∧ Z106 56 7 ≤ 900 := hG106.pr 56 7
          have eq147 : Z120 56 8 = Z 56 8 := ((hf120 56 8 rfl).trans ((hf106 56 8 rfl).trans ((hf77 56 8 rfl).trans ((hf55 56 8 rfl).trans ((hf41 56 8 rfl).trans ((hf15 56 8 rfl).trans (hf1 56 8 rfl)))))))
          have b148 : 0 ≤ Z 56 8 ∧ Z 56 8 ≤ 900 := hG.pr 56 8
          have eq149 : Z120 56 9 = Z106 56 9 := (hf120 56 9 rfl)
          have b150 : 0 ≤ Z106 56 9 ∧ Z106 56 9 ≤ 100 := hG106.pr 56 9
          have b151 : 0 ≤ Z120 56 11 ∧ Z120 56 11 ≤ 4 := hG120.pr 56 11
          have eq152 : Z120 60 61 = Z77 60 61 := ((hf120 60 61 rfl).trans (hf106 60 61 rfl))
          have b153 : 0 ≤ Z77 60 61 ∧ Z77 60 61 ≤ 900 := by have hq := GI_ex hG77 60 61; replace hq : f60 (61 % 962) (Z77 60 61) := hq; unfold f60 at hq; omega
          have b154 : (-2147483648) ≤ Z77 60 61 ∧ Z77 60 61 ≤ 2147483647 := hG77.pr 60 61
          have eq155 : Z120 60 1 = Z77 60 1 := ((hf120 60 1 rfl).trans (hf106 60 1 rfl))
          have b156 : 0 ≤ Z77 60 1 ∧ Z77 60 1 ≤ 18 := by have hq := GI_ex hG77 60 1; replace hq : f60 (1 % 962) (Z77 60 1) := hq; unfold f60 at hq; omega
          have b157 : (-2147483648) ≤ Z77 60 1 ∧ Z77 60 1 ≤ 2147483647 := hG77.pr 60 1
          have eq158 : Z120 60 2 = Z77 60 2 := ((hf120 60 2 rfl).trans (hf106 60 2 rfl))
          have b159 : 0 ≤ Z77 60 2 ∧ Z77 60 2 ≤ 18 := by have hq := GI_ex hG77 60 2; replace hq : f60 (2 % 962) (Z77 60 2) := hq; unfold f60 at hq; omega
          have b160 : (-2147483648) ≤ Z77 60 2 ∧ Z77 60 2 ≤ 2147483647 := hG77.pr 60 2
          obtain ⟨Z142, h142, hc142, hx142, hG142, hf142, b142⟩ := ri_174 IH (by omega) (hd := by omega) (a0 := a0) (d := d + 7) (l := l) (D := D) (b0 := b0) (ad := ad) (Hb := Hb) (tau := tau) hx120 hG120 (show 1 ≤ x0 + 1 ∧ x0 + 1 ≤ 6 by omega) (show (Z120 56 6 ≤ Z120 56 7 ∧ Z120 56 7 ≤ Z120 56 8 ∧ (Z120 56 9 = 24 ∨ Z120 56 6 < Z120 56 7)) by first | omega | (simp only [eq143, eq145, eq147, eq149, eq152, eq155, eq158]; omega)) (show Z120 60 61 ≤ Z120 56 6 by first | omega | (simp only [eq143, eq145, eq147, eq149, eq152, eq155, eq158]; omega)) (show a0 ≤ Z120 60 61 by first | omega | (simp only [eq143, eq145, eq147, eq149, eq152, eq155, eq158]; omega)) (show 0 ≤ a0 by first | omega | (simp only [eq143, eq145, eq147, eq149, eq152, eq155, eq158]; omega))
          try rw [eq143] at b142
          try rw [eq145] at b142
          try rw [eq147] at b142
          try rw [eq149] at b142
          try rw [eq152] at b142
          try rw [eq155] at b142
          try rw [eq158] at b142
          obtain ⟨bq142, b142⟩ := b142
          have b161 : 0 ≤ Z142 56 6 ∧ Z142 56 6 ≤ 900 := hG142.pr 56 6
          have b162 : 0 ≤ Z142 56 7 ∧ Z142 56 7 ≤ 900 := hG142.pr 56 7
          have b163 : 0 ≤ Z142 56 9 ∧ Z142 56 9 ≤ 100 := hG142.pr 56 9
          have b164 : 0 ≤ Z142 56 11 ∧ Z142 56 11 ≤ 4 := hG142.pr 56 11
          have b165 : 0 ≤ Z142 60 61 ∧ Z142 60 61 ≤ 900 := by have hq := GI_ex hG142 60 61; replace hq : f60 (61 % 962) (Z142 60 61) := hq; unfold f60 at hq; omega
          have b166 : (-2147483648) ≤ Z142 60 61 ∧ Z142 60 61 ≤ 2147483647 := hG142.pr 60 61
          have b167 : 0 ≤ Z142 60 1 ∧ Z142 60 1 ≤ 18 := by have hq := GI_ex hG142 60 1; replace hq : f60 (1 % 962) (Z142 60 1) := hq; unfold f60 at hq; omega
          have b168 : (-2147483648) ≤ Z142 60 1 ∧ Z142 60 1 ≤ 2147483647 := hG142.pr 60 1
          have b169 : 0 ≤ Z142 60 2 ∧ Z142 60 2 ≤ 18 := by have hq := GI_ex hG142 60 2; replace hq : f60 (2 % 962) (Z142 60 2) := hq; unfold f60 at hq; omega
          have b170 : (-2147483648) ≤ Z142 60 2 ∧ Z142 60 2 ≤ 2147483647 := hG142.pr 60 2
          have r142 := QR_tr (d := 3) (c := 1) f119_4 bq142 (by decide) (by decide) (by decide)
          refine Jcv0 hx120 (show mx_Sn _ _ 55 (mx_callv 174 2 12 58) from sn_172 55) a56 s56 hc142 rfl rfl rfl ?_
          refine mx_J.step (sn_172 58) (fun _ _ => rfl) ?_
          refine JcI (z := 8) (show mx_Sn _ _ 59 (mx_const (.int 8) 61) from sn_172 59) rfl ?_
          have b172 : 0 ≤ Z142 56 6 ∧ Z142 56 6 ≤ 900 := hG142.pr 56 6
          have b173 : 0 ≤ Z142 56 7 ∧ Z142 56 7 ≤ 900 := hG142.pr 56 7
          have eq174 : Z142 56 8 = Z 56 8 := ((hf142 56 8 rfl).trans ((hf120 56 8 rfl).trans ((hf106 56 8 rfl).trans ((hf77 56 8 rfl).trans ((hf55 56 8 rfl).trans ((hf41 56 8 rfl).trans ((hf15 56 8 rfl).trans (hf1 56 8 rfl))))))))
          have b175 : 0 ≤ Z 56 8 ∧ Z 56 8 ≤ 900 := hG.pr 56 8
          have b176 : 0 ≤ Z142 56 9 ∧ Z142 56 9 ≤ 100 := hG142.pr 56 9
          have b177 : 0 ≤ Z142 56 11 ∧ Z142 56 11 ≤ 4 := hG142.pr 56 11
          obtain ⟨z171, Z171, h171, hc171, hx171, hG171, hf171, b171⟩ := ct_165_56 (d := d + 0) (l := l) (D := D) (b0 := b0) (ad := ad) (Hb := Hb) (tau := tau) hx142 hG142 (show 0 ≤ 8 ∧ 8 ≤ 100 by omega) (show (Z142 56 6 ≤ Z142 56 7 ∧ Z142 56 7 ≤ Z142 56 8 ∧ (Z142 56 9 = 24 ∨ Z142 56 6 < Z142 56 7)) by first | omega | (simp only [eq174]; omega)) (show ¬ 8 = 24 by first | omega | (simp only [eq174]; omega))
          try rw [eq174] at b171
          have b178 : 0 ≤ Z171 56 6 ∧ Z171 56 6 ≤ 900 := hG171.pr 56 6
          have b179 : 0 ≤ Z171 56 7 ∧ Z171 56 7 ≤ 900 := hG171.pr 56 7
          have b180 : 0 ≤ Z171 56 9 ∧ Z171 56 9 ≤ 100 := hG171.pr 56 9
          have b181 : 0 ≤ Z142 56 6 ∧ Z142 56 6 ≤ 900 := hG142.pr 56 6
          have b182 : 0 ≤ Z142 56 11 ∧ Z142 56 11 ≤ 4 := hG142.pr 56 11
          have b183 : 0 ≤ Z142 56 9 ∧ Z142 56 9 ≤ 100 := hG142.pr 56 9
          have r171 := QR_g (k := 0) (c2 := 1) r142 (fun e => (hf171 56 11 rfl).symm.trans e) (fun i => hf171 60 i rfl) (fun e => by omega) (by decide)
          have rk171 : z171 = 1 → QR Z Z171 a0 3 2 := fun ez => QR_g (k := 1) r142 (fun e => (hf171 56 11 rfl).symm.trans e) (fun i => hf171 60 i rfl) (fun e => by omega) (by decide)
          refine Jcv hx142 (show mx_Sn _ _ 61 (mx_callv 165 2 12 64) from sn_172 61) a56 s56 hc171 rfl rfl rfl ?_
          have c72 : ∀  (Z185 : xZ) (h185 : mx_H), (Z185 56 6 ≤ Z185 56 7 ∧ Z185 56 7 ≤ Z 56 8) → (Z185 56 9 = 24 ∨ Z185 56 6 < Z185 56 7) → (Z 56 6 ≤ Z185 56 6 ∧ Z 60 61 ≤ Z185 60 61 ∧ Z185 60 61 - Z 60 61 ≤ Z185 56 6 - Z 56 6) → (Z185 60 1 = Z 60 1 ∧ Z185 60 2 = Z 60 2) → QR Z Z185 a0 3 1 → XH n s S Z185 h185 → GI n S Z185 → fr' [(56, 11), (56, 12)] Z171 Z185 → mx_J (tB l D b0 ad Hb tau) mt_172 (d + 7) 72 [some (.ref 56), some (xI x0)] [] h185 Post := by
            intro Z185 h185 f184_0 f184_1 f184_2 f184_3 f184_4 hx185 hG185 hf185
            clear b142 b171
            have eq186 : Z185 56 6 = Z171 56 6 := (hf185 56 6 rfl)
            have b187 : 0 ≤ Z171 56 6 ∧ Z171 56 6 ≤ 900 := hG171.pr 56 6
            have eq188 : Z185 56 7 = Z171 56 7 := (hf185 56 7 rfl)
            have b189 : 0 ≤ Z171 56 7 ∧ Z171 56 7 ≤ 900 := hG171.pr 56 7
            have eq190 : Z185 56 6 = Z171 56 6 := (hf185 56 6 rfl)
            have b191 : 0 ≤ Z171 56 6 ∧ Z171 56 6 ≤ 900 := hG171.pr 56 6
            have eq192 : Z185 56 7 = Z171 56 7 := (hf185 56 7 rfl)
            have b193 : 0 ≤ Z171 56 7 ∧ Z171 56 7 ≤ 900 := hG171.pr 56 7
            have eq194 : Z185 56 9 = Z171 56 9 := (hf185 56 9 rfl)
            have b195 : 0 ≤ Z171 56 9 ∧ Z171 56 9 ≤ 100 := hG171.pr 56 9
            have eq196 : Z185 56 6 = Z171 56 6 := (hf185 56 6 rfl)
            have b197 : 0 ≤ Z171 56 6 ∧ Z171 56 6 ≤ 900 := hG171.pr 56 6
            have eq198 : Z185 60 61 = Z142 60 61 := ((hf185 60 61 rfl).trans (hf171 60 61 rfl))
            have b199 : 0 ≤ Z142 60 61 ∧ Z142 60 61 ≤ 900 := by have hq := GI_ex hG142 60 61; replace hq : f60 (61 % 962) (Z142 60 61) := hq; unfold f60 at hq; omega
            have b200 : (-2147483648) ≤ Z142 60 61 ∧ Z142 60 61 ≤ 2147483647 := hG142.pr 60 61
            have eq201 : Z185 60 1 = Z142 60 1 := ((hf185 60 1 rfl).trans (hf171 60 1 rfl))
            have b202 : 0 ≤ Z142 60 1 ∧ Z142 60 1 ≤ 18 := by have hq := GI_ex hG142 60 1; replace hq : f60 (1 % 962) (Z142 60 1) := hq; unfold f60 at hq; omega
            have b203 : (-2147483648) ≤ Z142 60 1 ∧ Z142 60 1 ≤ 2147483647 := hG142.pr 60 1
            have eq204 : Z185 60 2 = Z142 60 2 := ((hf185 60 2 rfl).trans (hf171 60 2 rfl))
            have b205 : 0 ≤ Z142 60 2 ∧ Z142 60 2 ≤ 18 := by have hq := GI_ex hG142 60 2; replace hq : f60 (2 % 962) (Z142 60 2) := hq; unfold f60 at hq; omega
            have b206 : (-2147483648) ≤ Z142 60 2 ∧ Z142 60 2 ≤ 2147483647 := hG142.pr 60 2
            refine mx_J.step (sn_172 72) (fun _ _ => rfl) ?_
            refine JcI (z := 3009) (show mx_Sn _ _ 73 (mx_const (.int 3009) 76) from sn_172 73) rfl ?_
            have eq208 : Z185 56 8 = Z 56 8 := ((hf185 56 8 rfl).trans ((hf171 56 8 rfl).trans ((hf142 56 8 rfl).trans ((hf120 56 8 rfl).trans ((hf106 56 8 rfl).trans ((hf77 56 8 rfl).trans ((hf55 56 8 rfl).trans ((hf41 56 8 rfl).trans ((hf15 56 8 rfl).trans (hf1 56 8 rfl))))))))))
            have b209 : 0 ≤ Z 56 8 ∧ Z 56 8 ≤ 900 := hG.pr 56 8
            have b210 : 0 ≤ Z185 56 11 ∧ Z185 56 11 ≤ 4 := hG185.pr 56 11
            have eq211 : Z185 60 61 = Z142 60 61 := ((hf185 60 61 rfl).trans (hf171 60 61 rfl))
            have b212 : 0 ≤ Z142 60 61 ∧ Z142 60 61 ≤ 900 := by have hq := GI_ex hG142 60 61; replace hq : f60 (61 % 962) (Z142 60 61) := hq; unfold f60 at hq; omega
            have b213 : (-2147483648) ≤ Z142 60 61 ∧ Z142 60 61 ≤ 2147483647 := hG142.pr 60 61
            have eq214 : DP Z185 a0 = DP Z142 a0 := ((DP_c (fun i => hf185 60 i rfl)).trans (DP_c (fun i => hf171 60 i rfl)))
            have eq215 : MW Z185 a0 = MW Z142 a0 := ((MW_c (fun i => hf185 60 i rfl)).trans (MW_c (fun i => hf171 60 i rfl)))
            have eq216 : WFF Z185  = WFF Z142 := ((WFF_c (fun i => hf185 60 i rfl)).trans (WFF_c (fun i => hf171 60 i rfl)))
            have eq217 : Z185 60 1 = Z142 60 1 := ((hf185 60 1 rfl).trans (hf171 60 1 rfl))
            have b218 : 0 ≤ Z142 60 1 ∧ Z142 60 1 ≤ 18 := by have hq := GI_ex hG142 60 1; replace hq : f60 (1 % 962) (Z142 60 1) := hq; unfold f60 at hq; omega
            have b219 : (-2147483648) ≤ Z142 60 1 ∧ Z142 60 1 ≤ 2147483647 := hG142.pr 60 1
            have eq220 : Z185 60 2 = Z142 60 2 := ((hf185 60 2 rfl).trans (hf171 60 2 rfl))
            have b221 : 0 ≤ Z142 60 2 ∧ Z142 60 2 ≤ 18 := by have hq := GI_ex hG142 60 2; replace hq : f60 (2 % 962) (Z142 60 2) := hq; unfold f60 at hq; omega
            have b222 : (-2147483648) ≤ Z142 60 2 ∧ Z142 60 2 ≤ 2147483647 := hG142.pr 60 2
            have rp207 := QR_n f184_4
            obtain ⟨Z207, h207, hc207, hx207, hG207, hf207, b207⟩ := ct_169_56_3009 (a0 := a0) (d := d + 6) (l := l) (D := D) (b0 := b0) (ad := ad) (Hb := Hb) (tau := tau) hx185 hG185  (show (Z185 56 11 = 0 → Z185 60 61 ≤ 899) by first | omega | (simp only [eq208, eq211, eq217, eq220]; omega)) (show a0 ≤ Z185 60 61 by first | omega | (simp only [eq208, eq211, eq217, eq220]; omega)) (show 0 ≤ a0 by first | omega | (simp only [eq208, eq211, eq217, eq220]; omega))
            try rw [eq208] at b207
            try rw [eq211] at b207
            try rw [eq217] at b207
            try rw [eq220] at b207
            obtain ⟨bq207, b207⟩ := b207
            have b223 : 0 ≤ Z207 60 61 ∧ Z207 60 61 ≤ 900 := by have hq := GI_ex hG207 60 61; replace hq : f60 (61 % 962) (Z207 60 61) := hq; unfold f60 at hq; omega
            have b224 : (-2147483648) ≤ Z207 60 61 ∧ Z207 60 61 ≤ 2147483647 := hG207.pr 60 61
            have b225 : 0 ≤ Z207 60 1 ∧ Z207 60 1 ≤ 18 := by have hq := GI_ex hG207 60 1; replace hq : f60 (1 % 962) (Z207 60 1) := hq; unfold f60 at hq; omega
            have b226 : (-2147483648) ≤ Z207 60 1 ∧ Z207 60 1 ≤ 2147483647 := hG207.pr 60 1
            have b227 : 0 ≤ Z207 60 2 ∧ Z207 60 2 ≤ 18 := by have hq := GI_ex hG207 60 2; replace hq : f60 (2 % 962) (Z207 60 2) := hq; unfold f60 at hq; omega
            have b228 : (-2147483648) ≤ Z207 60 2 ∧ Z207 60 2 ≤ 2147483647 := hG207.pr 60 2
            have rn207 := QR_n f184_4
            have r207 := QR_c (d2 := 1) (c2 := 0) f184_4 bq207 (by omega) (hf207 56 11 rfl) (hf207 56 6 rfl) (by decide) (by decide) (by decide)
            refine Jcv0 hx185 (show mx_Sn _ _ 76 (mx_callv 169 2 12 79) from sn_172 76) a56 s56 hc207 rfl rfl rfl ?_
            have eq229 : Z207 56 6 = Z171 56 6 := ((hf207 56 6 rfl).trans (hf185 56 6 rfl))
            have b230 : 0 ≤ Z171 56 6 ∧ Z171 56 6 ≤ 900 := hG171.pr 56 6
            have eq231 : Z207 56 7 = Z171 56 7 := ((hf207 56 7 rfl).trans (hf185 56 7 rfl))
            have b232 : 0 ≤ Z171 56 7 ∧ Z171 56 7 ≤ 900 := hG171.pr 56 7
            have eq233 : Z207 56 9 = Z171 56 9 := ((hf207 56 9 rfl).trans (hf185 56 9 rfl))
            have b234 : 0 ≤ Z171 56 9 ∧ Z171 56 9 ≤ 100 := hG171.pr 56 9
            have eq235 : Z207 56 11 = Z185 56 11 := (hf207 56 11 rfl)
            have b236 : 0 ≤ Z185 56 11 ∧ Z185 56 11 ≤ 4 := hG185.pr 56 11
            have b237 : 0 ≤ Z207 60 61 ∧ Z207 60 61 ≤ 900 := by have hq := GI_ex hG207 60 61; replace hq : f60 (61 % 962) (Z207 60 61) := hq; unfold f60 at hq; omega
            have b238 : (-2147483648) ≤ Z207 60 61 ∧ Z207 60 61 ≤ 2147483647 := hG207.pr 60 61
            have b239 : 0 ≤ Z207 60 1 ∧ Z207 60 1 ≤ 18 := by have hq := GI_ex hG207 60 1; replace hq : f60 (1 % 962) (Z207 60 1) := hq; unfold f60 at hq; omega
            have b240 : (-2147483648) ≤ Z207 60 1 ∧ Z207 60 1 ≤ 2147483647 := hG207.pr 60 1
            have b241 : 0 ≤ Z207 60 2 ∧ Z207 60 2 ≤ 18 := by have hq := GI_ex hG207 60 2; replace hq : f60 (2 % 962) (Z207 60 2) := hq; unfold f60 at hq; omega
            have b242 : (-2147483648) ≤ Z207 60 2 ∧ Z207 60 2 ≤ 2147483647 := hG207.pr 60 2
            have eq243 : Z207 56 6 = Z171 56 6 := ((hf207 56 6 rfl).trans (hf185 56 6 rfl))
            have b244 : 0 ≤ Z171 56 6 ∧ Z171 56 6 ≤ 900 := hG171.pr 56 6
            have eq245 : Z207 56 7 = Z171 56 7 := ((hf207 56 7 rfl).trans (hf185 56 7 rfl))
            have b246 : 0 ≤ Z171 56 7 ∧ Z171 56 7 ≤ 900 := hG171.pr 56 7
            have eq247 : Z207 56 8 = Z 56 8 := ((hf207 56 8 rfl).trans ((hf185 56 8 rfl).trans ((hf171 56 8 rfl).trans ((hf142 56 8 rfl).trans ((hf120 56 8 rfl).trans ((hf106 56 8 rfl).trans ((hf77 56 8 rfl).trans ((hf55 56 8 rfl).trans ((hf41 56 8 rfl).trans ((hf15 56 8 rfl).trans (hf1 56 8 rfl)))))))))))
            have b248 : 0 ≤ Z 56 8 ∧ Z 56 8 ≤ 900 := hG.pr 56 8
            have eq249 : Z207 56 9 = Z171 56 9 := ((hf207 56 9 rfl).trans (hf185 56 9 rfl))
            have b250 : 0 ≤ Z171 56 9 ∧ Z171 56 9 ≤ 100 := hG171.pr 56 9
            have eq251 : Z207 56 11 = Z185 56 11 := (hf207 56 11 rfl)
            have b252 : 0 ≤ Z185 56 11 ∧ Z185 56 11 ≤ 4 := hG185.pr 56 11
            have b253 : 0 ≤ Z207 60 61 ∧ Z207 60 61 ≤ 900 := by have hq := GI_ex hG207 60 61; replace hq : f60 (61 % 962) (Z207 60 61) := hq; unfold f60 at hq; omega
            have b254 : (-2147483648) ≤ Z207 60 61 ∧ Z207 60 61 ≤ 2147483647 := hG207.pr 60 61
            have b255 : 0 ≤ Z207 60 1 ∧ Z207 60 1 ≤ 18 := by have hq := GI_ex hG207 60 1; replace hq : f60 (1 % 962) (Z207 60 1) := hq; unfold f60 at hq; omega
            have b256 : (-2147483648) ≤ Z207 60 1 ∧ Z207 60 1 ≤ 2147483647 := hG207.pr 60 1
            have b257 : 0 ≤ Z207 60 2 ∧ Z207 60 2 ≤ 18 := by have hq := GI_ex hG207 60 2; replace hq : f60 (2 % 962) (Z207 60 2) := hq; unfold f60 at hq; omega
            have b258 : (-2147483648) ≤ Z207 60 2 ∧ Z207 60 2 ≤ 2147483647 := hG207.pr 60 2
            exact mx_J.ret (sn_172 79) (fun _ _ => rfl) (hP Z207 h207 hx207 hG207 (fr_tr (M := [(56, 6), (56, 7), (56, 9), (56, 10), (56, 11), (56, 12), (60, (-1))]) (fr_tr (M := [(56, 6), (56, 7), (56, 9), (56, 10), (56, 11), (56, 12), (60, (-1))]) (fr_tr (M := [(56, 6), (56, 7), (56, 9), (56, 10), (56, 11), (56, 12), (60, (-1))]) (fr_tr (M := [(56, 6), (56, 7), (56, 9), (56, 10), (56, 11), (56, 12), (60, (-1))]) (fr_tr (M := [(56, 6), (56, 7), (56, 9), (56, 10), (56, 11), (56, 12), (60, (-1))]) (fr_tr (M := [(56, 6), (56, 7), (56, 9), (56, 10), (56, 11), (56, 12), (60, (-1))]) (fr_tr (M := [(56, 6), (56, 7), (56, 9), (56, 10), (56, 11), (56, 12), (60, (-1))]) (fr_tr (M := [(56, 6), (56, 7), (56, 9), (56, 10), (56, 11), (56, 12), (60, (-1))]) (fr_tr (M := [(56, 6), (56, 7), (56, 9), (56, 10), (56, 11), (56, 12), (60, (-1))]) (fr_tr (M := [(56, 6), (56, 7), (56, 9), (56, 10), (56, 11), (56, 12), (60, (-1))]) (fr_tr (M := [(56, 6), (56, 7), (56, 9), (56, 10), (56, 11), (56, 12), (60, (-1))]) fr_rf (hf1) (M1 := []) rfl rfl) (hf15) rfl rfl) (hf41) rfl rfl) (hf55) rfl rfl) (hf77) rfl rfl) (hf106) rfl rfl) (hf120) rfl rfl) (hf142) rfl rfl) (hf171) rfl rfl) (hf185) rfl rfl) (hf207) rfl rfl) ⟨(QR_le r207 (by decide)), by omega⟩)
          refine Jif_ne (show mx_Sn _ _ 64 (mx_if_ne 72 67) from sn_172 64) (by omega) (fun q259 => ?_) (fun q259 => ?_)
          · skip
            have b260 : 0 ≤ Z171 56 6 ∧ Z171 56 6 ≤ 900 := hG171.pr 56 6
            have b261 : 0 ≤ Z171 56 7 ∧ Z171 56 7 ≤ 900 := hG171.pr 56 7
            have b262 : 0 ≤ Z171 56 6 ∧ Z171 56 6 ≤ 900 := hG171.pr 56 6
            have b263 : 0 ≤ Z171 56 7 ∧ Z171 56 7 ≤ 900 := hG171.pr 56 7
            have b264 : 0 ≤ Z171 56 9 ∧ Z171 56 9 ≤ 100 := hG171.pr 56 9
            have b265 : 0 ≤ Z171 56 6 ∧ Z171 56 6 ≤ 900 := hG171.pr 56 6
            have eq266 : Z171 60 61 = Z142 60 61 := (hf171 60 61 rfl)
            have b267 : 0 ≤ Z142 60 61 ∧ Z142 60 61 ≤ 900 := by have hq := GI_ex hG142 60 61; replace hq : f60 (61 % 962) (Z142 60 61) := hq; unfold f60 at hq; omega
            have b268 : (-2147483648) ≤ Z142 60 61 ∧ Z142 60 61 ≤ 2147483647 := hG142.pr 60 61
            have eq269 : Z171 60 1 = Z142 60 1 := (hf171 60 1 rfl)
            have b270 : 0 ≤ Z142 60 1 ∧ Z142 60 1 ≤ 18 := by have hq := GI_ex hG142 60 1; replace hq : f60 (1 % 962) (Z142 60 1) := hq; unfold f60 at hq; omega
            have b271 : (-2147483648) ≤ Z142 60 1 ∧ Z142 60 1 ≤ 2147483647 := hG142.pr 60 1
            have eq272 : Z171 60 2 = Z142 60 2 := (hf171 60 2 rfl)
            have b273 : 0 ≤ Z142 60 2 ∧ Z142 60 2 ≤ 18 := by have hq := GI_ex hG142 60 2; replace hq : f60 (2 % 962) (Z142 60 2) := hq; unfold f60 at hq; omega
            have b274 : (-2147483648) ≤ Z142 60 2 ∧ Z142 60 2 ≤ 2147483647 := hG142.pr 60 2
            exact c72 Z171 h171 (by omega) (by omega) (by omega) (by omega) (QR_le (rk171 (by omega)) (by decide)) hx171 hG171 fr_rf
          · skip
            refine mx_J.step (sn_172 67) (fun _ _ => rfl) ?_
            refine JcI (z := 2) (show mx_Sn _ _ 68 (mx_const (.int 2) 69) from sn_172 68) rfl ?_
            obtain ⟨Z275, h275, hc275, hx275, hG275, hf275, b275⟩ := ct_163_56 (d := d + 6) (l := l) (D := D) (b0 := b0) (ad := ad) (Hb := Hb) (tau := tau) hx171 hG171 (show 1 ≤ 2 ∧ 2 ≤ 4 by omega)
            have b276 : 0 ≤ Z275 56 11 ∧ Z275 56 11 ≤ 4 := hG275.pr 56 11
            have r275 : ¬ Z275 56 11 = 0 := by omega
            refine Jcv0 hx171 (show mx_Sn _ _ 69 (mx_callv 163 2 12 72) from sn_172 69) a56 s56 hc275 rfl rfl rfl ?_
            have eq277 : Z275 56 6 = Z171 56 6 := (hf275 56 6 rfl)
            have b278 : 0 ≤ Z171 56 6 ∧ Z171 56 6 ≤ 900 := hG171.pr 56 6
            have eq279 : Z275 56 7 = Z171 56 7 := (hf275 56 7 rfl)
            have b280 : 0 ≤ Z171 56 7 ∧ Z171 56 7 ≤ 900 := hG171.pr 56 7
            have eq281 : Z275 56 6 = Z171 56 6 := (hf275 56 6 rfl)
            have b282 : 0 ≤ Z171 56 6 ∧ Z171 56 6 ≤ 900 := hG171.pr 56 6
            have eq283 : Z275 56 7 = Z171 56 7 := (hf275 56 7 rfl)
            have b284 : 0 ≤ Z171 56 7 ∧ Z171 56 7 ≤ 900 := hG171.pr 56 7
            have eq285 : Z275 56 9 = Z171 56 9 := (hf275 56 9 rfl)
            have b286 : 0 ≤ Z171 56 9 ∧ Z171 56 9 ≤ 100 := hG171.pr 56 9
            have eq287 : Z275 56 6 = Z171 56 6 := (hf275 56 6 rfl)
            have b288 : 0 ≤ Z171 56 6 ∧ Z171 56 6 ≤ 900 := hG171.pr 56 6
            have eq289 : Z275 60 61 = Z142 60 61 := ((hf275 60 61 rfl).trans (hf171 60 61 rfl))
            have b290 : 0 ≤ Z142 60 61 ∧ Z142 60 61 ≤ 900 := by have hq := GI_ex hG142 60 61; replace hq : f60 (61 % 962) (Z142 60 61) := hq; unfold f60 at hq; omega
            have b291 : (-2147483648) ≤ Z142 60 61 ∧ Z142 60 61 ≤ 2147483647 := hG142.pr 60 61
            have eq292 : Z275 60 1 = Z142 60 1 := ((hf275 60 1 rfl).trans (hf171 60 1 rfl))
            have b293 : 0 ≤ Z142 60 1 ∧ Z142 60 1 ≤ 18 := by have hq := GI_ex hG142 60 1; replace hq : f60 (1 % 962) (Z142 60 1) := hq; unfold f60 at hq; omega
            have b294 : (-2147483648) ≤ Z142 60 1 ∧ Z142 60 1 ≤ 2147483647 := hG142.pr 60 1
            have eq295 : Z275 60 2 = Z142 60 2 := ((hf275 60 2 rfl).trans (hf171 60 2 rfl))
            have b296 : 0 ≤ Z142 60 2 ∧ Z142 60 2 ≤ 18 := by have hq := GI_ex hG142 60 2; replace hq : f60 (2 % 962) (Z142 60 2) := hq; unfold f60 at hq; omega
            have b297 : (-2147483648) ≤ Z142 60 2 ∧ Z142 60 2 ≤ 2147483647 := hG142.pr 60 2
            exact c72 Z275 h275 (by omega) (by omega) (by omega) (by omega) (QR_f r275) hx275 hG275 (fr_tr (M := [(56, 11), (56, 12)]) fr_rf (hf275) (M1 := []) rfl rfl)
        refine Jif_ne (show mx_Sn _ _ 43 (mx_if_ne 51 46) from sn_172 43) (by omega) (fun q298 => ?_) (fun q298 => ?_)
        · skip
          have b299 : 0 ≤ Z106 56 6 ∧ Z106 56 6 ≤ 900 := hG106.pr 56 6
          have b300 : 0 ≤ Z106 56 7 ∧ Z106 56 7 ≤ 900 := hG106.pr 56 7
          have b301 : 0 ≤ Z106 56 6 ∧ Z106 56 6 ≤ 900 := hG106.pr 56 6
          have b302 : 0 ≤ Z106 56 7 ∧ Z106 56 7 ≤ 900 := hG106.pr 56 7
          have b303 : 0 ≤ Z106 56 9 ∧ Z106 56 9 ≤ 100 := hG106.pr 56 9
          have b304 : 0 ≤ Z106 56 6 ∧ Z106 56 6 ≤ 900 := hG106.pr 56 6
          have eq305 : Z106 60 61 = Z77 60 61 := (hf106 60 61 rfl)
          have b306 : 0 ≤ Z77 60 61 ∧ Z77 60 61 ≤ 900 := by have hq := GI_ex hG77 60 61; replace hq : f60 (61 % 962) (Z77 60 61) := hq; unfold f60 at hq; omega
          have b307 : (-2147483648) ≤ Z77 60 61 ∧ Z77 60 61 ≤ 2147483647 := hG77.pr 60 61
          have eq308 : Z106 60 1 = Z77 60 1 := (hf106 60 1 rfl)
          have b309 : 0 ≤ Z77 60 1 ∧ Z77 60 1 ≤ 18 := by have hq := GI_ex hG77 60 1; replace hq : f60 (1 % 962) (Z77 60 1) := hq; unfold f60 at hq; omega
          have b310 : (-2147483648) ≤ Z77 60 1 ∧ Z77 60 1 ≤ 2147483647 := hG77.pr 60 1
          have eq311 : Z106 60 2 = Z77 60 2 := (hf106 60 2 rfl)
          have b312 : 0 ≤ Z77 60 2 ∧ Z77 60 2 ≤ 18 := by have hq := GI_ex hG77 60 2; replace hq : f60 (2 % 962) (Z77 60 2) := hq; unfold f60 at hq; omega
          have b313 : (-2147483648) ≤ Z77 60 2 ∧ Z77 60 2 ≤ 2147483647 := hG77.pr 60 2
          exact c51 Z106 h106 (by omega) (by omega) (by omega) (by omega) (QR_le (rk106 (by omega)) (by decide)) hx106 hG106 fr_rf
        · skip
          refine mx_J.step (sn_172 46) (fun _ _ => rfl) ?_
          refine JcI (z := 2) (show mx_Sn _ _ 47 (mx_const (.int 2) 48) from sn_172 47) rfl ?_
          obtain ⟨Z314, h314, hc314, hx314, hG314, hf314, b314⟩ := ct_163_56 (d := d + 6) (l := l) (D := D) (b0 := b0) (ad := ad) (Hb := Hb) (tau := tau) hx106 hG106 (show 1 ≤ 2 ∧ 2 ≤ 4 by omega)
          have b315 : 0 ≤ Z314 56 11 ∧ Z314 56 11 ≤ 4 := hG314.pr 56 11
          have r314 : ¬ Z314 56 11 = 0 := by omega
          refine Jcv0 hx106 (show mx_Sn _ _ 48 (mx_callv 163 2 12 51) from sn_172 48) a56 s56 hc314 rfl rfl rfl ?_
          have eq316 : Z314 56 6 = Z106 56 6 := (hf314 56 6 rfl)
          have b317 : 0 ≤ Z106 56 6 ∧ Z106 56 6 ≤ 900 := hG106.pr 56 6
          have eq318 : Z314 56 7 = Z106 56 7 := (hf314 56 7 rfl)
          have b319 : 0 ≤ Z106 56 7 ∧ Z106 56 7 ≤ 900 := hG106.pr 56 7
          have eq320 : Z314 56 6 = Z106 56 6 := (hf314 56 6 rfl)
          have b321 : 0 ≤ Z106 56 6 ∧ Z106 56 6 ≤ 900 := hG106.pr 56 6
          have eq322 : Z314 56 7 = Z106 56 7 := (hf314 56 7 rfl)
          have b323 : 0 ≤ Z106 56 7 ∧ Z106 56 7 ≤ 900 := hG106.pr 56 7
          have eq324 : Z314 56 9 = Z106 56 9 := (hf314 56 9 rfl)
          have b325 : 0 ≤ Z106 56 9 ∧ Z106 56 9 ≤ 100 := hG106.pr 56 9
          have eq326 : Z314 56 6 = Z106 56 6 := (hf314 56 6 rfl)
          have b327 : 0 ≤ Z106 56 6 ∧ Z106 56 6 ≤ 900 := hG106.pr 56 6
          have eq328 : Z314 60 61 = Z77 60 61 := ((hf314 60 61 rfl).trans (hf106 60 61 rfl))
          have b329 : 0 ≤ Z77 60 61 ∧ Z77 60 61 ≤ 900 := by have hq := GI_ex hG77 60 61; replace hq : f60 (61 % 962) (Z77 60 61) := hq; unfold f60 at hq; omega
          have b330 : (-2147483648) ≤ Z77 60 61 ∧ Z77 60 61 ≤ 2147483647 := hG77.pr 60 61
          have eq331 : Z314 60 1 = Z77 60 1 := ((hf314 60 1 rfl).trans (hf106 60 1 rfl))
          have b332 : 0 ≤ Z77 60 1 ∧ Z77 60 1 ≤ 18 := by have hq := GI_ex hG77 60 1; replace hq : f60 (1 % 962) (Z77 60 1) := hq; unfold f60 at hq; omega
          have b333 : (-2147483648) ≤ Z77 60 1 ∧ Z77 60 1 ≤ 2147483647 := hG77.pr 60 1
          have eq334 : Z314 60 2 = Z77 60 2 := ((hf314 60 2 rfl).trans (hf106 60 2 rfl))
          have b335 : 0 ≤ Z77 60 2 ∧ Z77 60 2 ≤ 18 := by have hq := GI_ex hG77 60 2; replace hq : f60 (2 % 962) (Z77 60 2) := hq; unfold f60 at hq; omega
          have b336 : (-2147483648) ≤ Z77 60 2 ∧ Z77 60 2 ≤ 2147483647 := hG77.pr 60 2
          exact c51 Z314 h314 (by omega) (by omega) (by omega) (by omega) (QR_f r314) hx314 hG314 (fr_tr (M := [(56, 11), (56, 12)]) fr_rf (hf314) (M1 := []) rfl rfl)
      refine Jif_ne (show mx_Sn _ _ 22 (mx_if_ne 30 25) from sn_172 22) (by omega) (fun q337 => ?_) (fun q337 => ?_)
      · skip
        have b338 : 0 ≤ Z41 56 6 ∧ Z41 56 6 ≤ 900 := hG41.pr 56 6
        have b339 : 0 ≤ Z41 56 7 ∧ Z41 56 7 ≤ 900 := hG41.pr 56 7
        have b340 : 0 ≤ Z41 56 6 ∧ Z41 56 6 ≤ 900 := hG41.pr 56 6
        have b341 : 0 ≤ Z41 56 7 ∧ Z41 56 7 ≤ 900 := hG41.pr 56 7
        have b342 : 0 ≤ Z41 56 9 ∧ Z41 56 9 ≤ 100 := hG41.pr 56 9
        have b343 : 0 ≤ Z41 56 6 ∧ Z41 56 6 ≤ 900 := hG41.pr 56 6
        have eq344 : Z41 60 61 = Z15 60 61 := (hf41 60 61 rfl)
        have b345 : 0 ≤ Z15 60 61 ∧ Z15 60 61 ≤ 900 := by have hq := GI_ex hG15 60 61; replace hq : f60 (61 % 962) (Z15 60 61) := hq; unfold f60 at hq; omega
        have b346 : (-2147483648) ≤ Z15 60 61 ∧ Z15 60 61 ≤ 2147483647 := hG15.pr 60 61
        have eq347 : Z41 60 1 = Z15 60 1 := (hf41 60 1 rfl)
        have b348 : 0 ≤ Z15 60 1 ∧ Z15 60 1 ≤ 18 := by have hq := GI_ex hG15 60 1; replace hq : f60 (1 % 962) (Z15 60 1) := hq; unfold f60 at hq; omega
        have b349 : (-2147483648) ≤ Z15 60 1 ∧ Z15 60 1 ≤ 2147483647 := hG15.pr 60 1
        have eq350 : Z41 60 2 = Z15 60 2 := (hf41 60 2 rfl)
        have b351 : 0 ≤ Z15 60 2 ∧ Z15 60 2 ≤ 18 := by have hq := GI_ex hG15 60 2; replace hq : f60 (2 % 962) (Z15 60 2) := hq; unfold f60 at hq; omega
        have b352 : (-2147483648) ≤ Z15 60 2 ∧ Z15 60 2 ≤ 2147483647 := hG15.pr 60 2
        exact c30 Z41 h41 (by omega) (by omega) (by omega) (by omega) (QR_le (rk41 (by omega)) (by decide)) hx41 hG41 fr_rf
      · skip
        refine mx_J.step (sn_172 25) (fun _ _ => rfl) ?_
        refine JcI (z := 2) (show mx_Sn _ _ 26 (mx_const (.int 2) 27) from sn_172 26) rfl ?_
        obtain ⟨Z353, h353, hc353, hx353, hG353, hf353, b353⟩ := ct_163_56 (d := d + 6) (l := l) (D := D) (b0 := b0) (ad := ad) (Hb := Hb) (tau := tau) hx41 hG41 (show 1 ≤ 2 ∧ 2 ≤ 4 by omega)
        have b354 : 0 ≤ Z353 56 11 ∧ Z353 56 11 ≤ 4 := hG353.pr 56 11
        have r353 : ¬ Z353 56 11 = 0 := by omega
        refine Jcv0 hx41 (show mx_Sn _ _ 27 (mx_callv 163 2 12 30) from sn_172 27) a56 s56 hc353 rfl rfl rfl ?_
        have eq355 : Z353 56 6 = Z41 56 6 := (hf353 56 6 rfl)
        have b356 : 0 ≤ Z41 56 6 ∧ Z41 56 6 ≤ 900 := hG41.pr 56 6
        have eq357 : Z353 56 7 = Z41 56 7 := (hf353 56 7 rfl)
        have b358 : 0 ≤ Z41 56 7 ∧ Z41 56 7 ≤ 900 := hG41.pr 56 7
        have eq359 : Z353 56 6 = Z41 56 6 := (hf353 56 6 rfl)
        have b360 : 0 ≤ Z41 56 6 ∧ Z41 56 6 ≤ 900 := hG41.pr 56 6
        have eq361 : Z353 56 7 = Z41 56 7 := (hf353 56 7 rfl)
        have b362 : 0 ≤ Z41 56 7 ∧ Z41 56 7 ≤ 900 := hG41.pr 56 7
        have eq363 : Z353 56 9 = Z41 56 9 := (hf353 56 9 rfl)
        have b364 : 0 ≤ Z41 56 9 ∧ Z41 56 9 ≤ 100 := hG41.pr 56 9
        have eq365 : Z353 56 6 = Z41 56 6 := (hf353 56 6 rfl)
        have b366 : 0 ≤ Z41 56 6 ∧ Z41 56 6 ≤ 900 := hG41.pr 56 6
        have eq367 : Z353 60 61 = Z15 60 61 := ((hf353 60 61 rfl).trans (hf41 60 61 rfl))
        have b368 : 0 ≤ Z15 60 61 ∧ Z15 60 61 ≤ 900 := by have hq := GI_ex hG15 60 61; replace hq : f60 (61 % 962) (Z15 60 61) := hq; unfold f60 at hq; omega
        have b369 : (-2147483648) ≤ Z15 60 61 ∧ Z15 60 61 ≤ 2147483647 := hG15.pr 60 61
        have eq370 : Z353 60 1 = Z15 60 1 := ((hf353 60 1 rfl).trans (hf41 60 1 rfl))
        have b371 : 0 ≤ Z15 60 1 ∧ Z15 60 1 ≤ 18 := by have hq := GI_ex hG15 60 1; replace hq : f60 (1 % 962) (Z15 60 1) := hq; unfold f60 at hq; omega
        have b372 : (-2147483648) ≤ Z15 60 1 ∧ Z15 60 1 ≤ 2147483647 := hG15.pr 60 1
        have eq373 : Z353 60 2 = Z15 60 2 := ((hf353 60 2 rfl).trans (hf41 60 2 rfl))
        have b374 : 0 ≤ Z15 60 2 ∧ Z15 60 2 ≤ 18 := by have hq := GI_ex hG15 60 2; replace hq : f60 (2 % 962) (Z15 60 2) := hq; unfold f60 at hq; omega
        have b375 : (-2147483648) ≤ Z15 60 2 ∧ Z15 60 2 ≤ 2147483647 := hG15.pr 60 2
        exact c30 Z353 h353 (by omega) (by omega) (by omega) (by omega) (QR_f r353) hx353 hG353 (fr_tr (M := [(56, 11), (56, 12)]) fr_rf (hf353) (M1 := []) rfl rfl)
    · skip
      have b376 : 0 ≤ Z1 56 6 ∧ Z1 56 6 ≤ 900 := hG1.pr 56 6
      have b377 : 0 ≤ Z1 56 7 ∧ Z1 56 7 ≤ 900 := hG1.pr 56 7
      have b378 : 0 ≤ Z1 56 9 ∧ Z1 56 9 ≤ 100 := hG1.pr 56 9
      have b379 : 0 ≤ Z1 56 11 ∧ Z1 56 11 ≤ 4 := hG1.pr 56 11
      have eq380 : Z1 60 61 = Z 60 61 := (hf1 60 61 rfl)
      have b381 : 0 ≤ Z 60 61 ∧ Z 60 61 ≤ 900 := by have hq := GI_ex hG 60 61; replace hq : f60 (61 % 962) (Z 60 61) := hq; unfold f60 at hq; omega
      have b382 : (-2147483648) ≤ Z 60 61 ∧ Z 60 61 ≤ 2147483647 := hG.pr 60 61
      have eq383 : Z1 60 1 = Z 60 1 := (hf1 60 1 rfl)
      have b384 : 0 ≤ Z 60 1 ∧ Z 60 1 ≤ 18 := by have hq := GI_ex hG 60 1; replace hq : f60 (1 % 962) (Z 60 1) := hq; unfold f60 at hq; omega
      have b385 : (-2147483648) ≤ Z 60 1 ∧ Z 60 1 ≤ 2147483647 := hG.pr 60 1
      have eq386 : Z1 60 2 = Z 60 2 := (hf1 60 2 rfl)
      have b387 : 0 ≤ Z 60 2 ∧ Z 60 2 ≤ 18 := by have hq := GI_ex hG 60 2; replace hq : f60 (2 % 962) (Z 60 2) := hq; unfold f60 at hq; omega
      have b388 : (-2147483648) ≤ Z 60 2 ∧ Z 60 2 ≤ 2147483647 := hG.pr 60 2
      have b389 : 0 ≤ Z1 56 6 ∧ Z1 56 6 ≤ 900 := hG1.pr 56 6
      have b390 : 0 ≤ Z1 56 7 ∧ Z1 56 7 ≤ 900 := hG1.pr 56 7
      have eq391 : Z1 56 8 = Z 56 8 := (hf1 56 8 rfl)
      have b392 : 0 ≤ Z 56 8 ∧ Z 56 8 ≤ 900 := hG.pr 56 8
      have b393 : 0 ≤ Z1 56 9 ∧ Z1 56 9 ≤ 100 := hG1.pr 56 9
      have b394 : 0 ≤ Z1 56 11 ∧ Z1 56 11 ≤ 4 := hG1.pr 56 11
      have eq395 : Z1 60 61 = Z 60 61 := (hf1 60 61 rfl)
      have b396 : 0 ≤ Z 60 61 ∧ Z 60 61 ≤ 900 := by have hq := GI_ex hG 60 61; replace hq : f60 (61 % 962) (Z 60 61) := hq; unfold f60 at hq; omega
      have b397 : (-2147483648) ≤ Z 60 61 ∧ Z 60 61 ≤ 2147483647 := hG.pr 60 61
      have eq398 : Z1 60 1 = Z 60 1 := (hf1 60 1 rfl)
      have b399 : 0 ≤ Z 60 1 ∧ Z 60 1 ≤ 18 := by have hq := GI_ex hG 60 1; replace hq : f60 (1 % 962) (Z 60 1) := hq; unfold f60 at hq; omega
      have b400 : (-2147483648) ≤ Z 60 1 ∧ Z 60 1 ≤ 2147483647 := hG.pr 60 1
      have eq401 : Z1 60 2 = Z 60 2 := (hf1 60 2 rfl)
      have b402 : 0 ≤ Z 60 2 ∧ Z 60 2 ≤ 18 := by have hq := GI_ex hG 60 2; replace hq : f60 (2 % 962) (Z 60 2) := hq; unfold f60 at hq; omega
      have b403 : (-2147483648) ≤ Z 60 2 ∧ Z 60 2 ≤ 2147483647 := hG.pr 60 2
      exact mx_J.ret (sn_172 8) (fun _ _ => rfl) (hP Z1 h1 hx1 hG1 (fr_tr (M := [(56, 6), (56, 7), (56, 9), (56, 10), (56, 11), (56, 12), (60, (-1))]) fr_rf (hf1) (M1 := []) rfl rfl) ⟨(QR_f (by omega)), by omega⟩)
theorem ct_172_56_s {l : Launch} {D : va_G} {b0 : Nat} {ad : Nat → Nat} {Hb : Heap} {tau : Nat → Int64} {d n s : Nat} {S : Nat → xS} {Z : xZ} {h : mx_H} {a0 : Int} (hx : XH n s S Z h) (hG : GI n S Z)  {x0 : Int} (p0 : 0 ≤ x0 ∧ x0 ≤ 6) (k0 : (Z 56 6 ≤ Z 56 7 ∧ Z 56 7 ≤ Z 56 8 ∧ (Z 56 9 = 24 ∨ Z 56 6 < Z 56 7))) (k1 : Z 60 61 ≤ Z 56 6) (k2 : a0 ≤ Z 60 61) (k3 : 0 ≤ a0) (k4 : ¬ Z 56 9 = 24) {kk : Nat} (IH : RBmh l D b0 ad Hb tau kk x0) (hd : kk ≤ d) : ∃ (Z' : xZ) (h' : mx_H), mx_Ca (tB l D b0 ad Hb tau) (d + 8) 172 [.ref 56, xI x0] h (none, h') ∧ XH n s S Z' h' ∧ GI n S Z' ∧ fr' [(56, 6), (56, 7), (56, 9), (56, 10), (56, 11), (56, 12), (60, (-1))] Z Z' ∧ (QR Z Z' a0 1 0 ∧ ((Z' 56 6 ≤ Z' 56 7 ∧ Z' 56 7 ≤ Z 56 8 ∧ (Z' 56 9 = 24 ∨ Z' 56 6 < Z' 56 7)) ∧ Z' 60 1 = Z 60 1 ∧ Z' 60 2 = Z 60 2 ∧ Z 56 6 ≤ Z' 56 6 ∧ Z 60 61 ≤ Z' 60 61 ∧ Z' 60 61 - Z 60 61 ≤ Z' 56 6 - Z 56 6)) := by
  obtain ⟨r, hca, Z', h', e, q⟩ := Jmt (B := tB l D b0 ad Hb tau) (M := mt_172) (mi := 172) (as := [.ref 56, xI x0]) (d := d + 7) (ls := [some (.ref 56), some (xI x0)]) rfl rfl rfl rfl rfl rfl (cw_172_56_s (l := l) (D := D) (b0 := b0) (ad := ad) (Hb := Hb) (tau := tau) (d := d) (Post := fun r => ∃ (Z' : xZ) (h' : mx_H), r = (none, h') ∧ XH n s S Z' h' ∧ GI n S Z' ∧ fr' [(56, 6), (56, 7), (56, 9), (56, 10), (56, 11), (56, 12), (60, (-1))] Z Z' ∧ (QR Z Z' a0 1 0 ∧ ((Z' 56 6 ≤ Z' 56 7 ∧ Z' 56 7 ≤ Z 56 8 ∧ (Z' 56 9 = 24 ∨ Z' 56 6 < Z' 56 7)) ∧ Z' 60 1 = Z 60 1 ∧ Z' 60 2 = Z 60 2 ∧ Z 56 6 ≤ Z' 56 6 ∧ Z 60 61 ≤ Z' 60 61 ∧ Z' 60 61 - Z 60 61 ≤ Z' 56 6 - Z 56 6))) hx hG p0 k0 k1 k2 k3 k4 IH hd (fun Z' h' q1 q2 q3 q4 => ⟨Z', h', rfl, q1, q2, q3, q4⟩))
  subst e; exact ⟨Z', h', hca, q⟩
set_option maxHeartbeats 8000000 in
set_option maxRecDepth 100000 in
theorem cw_171_56_s {l : Launch} {D : va_G} {b0 : Nat} {ad : Nat → Nat} {Hb : Heap} {tau : Nat → Int64} {d n s : Nat} {S : Nat → xS} {Z : xZ} {h : mx_H} {Post : mx_R → Prop} {a0 : Int} (hx : XH n s S Z h) (hG : GI n S Z)  {x0 : Int} (p0 : 0 ≤ x0 ∧ x0 ≤ 6) (k0 : (Z 56 6 ≤ Z 56 7 ∧ Z 56 7 ≤ Z 56 8 ∧ (Z 56 9 = 24 ∨ Z 56 6 < Z 56 7))) (k1 : Z 60 61 ≤ Z 56 6) (k2 : a0 ≤ Z 60 61) (k3 : 0 ≤ a0) {kk : Nat} (IH : RBmh l D b0 ad Hb tau kk x0) (hd : kk ≤ d) (hP : ∀ (Z' : xZ) (h' : mx_H), XH n s S Z' h' → GI n S Z' → fr' [(56, 6), (56, 7), (56, 9), (56, 10), (56, 11), (56, 12), (60, (-1))] Z Z' → QR Z Z' a0 1 0 ∧ ((Z' 56 6 ≤ Z' 56 7 ∧ Z' 56 7 ≤ Z 56 8 ∧ (Z' 56 9 = 24 ∨ Z' 56 6 < Z' 56 7)) ∧ Z' 60 1 = Z 60 1 ∧ Z' 60 2 = Z 60 2 ∧ Z 56 6 ≤ Z' 56 6 ∧ Z 60 61 ≤ Z' 60 61 ∧ Z' 60 61 - Z 60 61 ≤ Z' 56 6 - Z 56 6) → Post (none, h')) : mx_J (tB l D b0 ad Hb tau) mt_171 (d + 8) 0 [some (.ref 56), some (xI x0)] [] h Post := by
    have a56 : 56 < n := lt83 (GI_n hG) rfl
    have s56 : S 56 = .inl (12, [0, 2, 2, 2, 2, 0, 0, 0, 0, 0, 0, 0, 0, 0, 0, 2, 2, 2, 0, 2, 2, 2, 0, 0, 2, 2, 2, 2, 2, 2, 0, 0, 2, 2, 2, 2, 2, 2, 2, 2, 2, 2]) := GI_s hG 56 rfl
    refine mx_J.step (sn_171 0) (fun _ _ => rfl) ?_
    refine JcI (z := 23) (show mx_Sn _ _ 1 (mx_const (.int 23) 3) from sn_171 1) rfl ?_
    have b2 : 0 ≤ Z 56 9 ∧ Z 56 9 ≤ 100 := hG.pr 56 9
    have b3 : 0 ≤ Z 56 11 ∧ Z 56 11 ≤ 4 := hG.pr 56 11
    obtain ⟨z1, hc1, b1⟩ := ct_164_56 (d := d + 7) (l := l) (D := D) (b0 := b0) (ad := ad) (Hb := Hb) (tau := tau) hx hG (show 0 ≤ 23 ∧ 23 ≤ 100 by omega)
    refine Jcv hx (show mx_Sn _ _ 3 (mx_callv 164 2 12 6) from sn_171 3) a56 s56 hc1 rfl rfl rfl ?_
    have c129 : ∀  (Z5 : xZ) (h5 : mx_H), (Z5 56 6 ≤ Z5 56 7 ∧ Z5 56 7 ≤ Z 56 8) → (Z5 56 9 = 24 ∨ Z5 56 6 < Z5 56 7) → (Z 56 6 ≤ Z5 56 6 ∧ Z 60 61 ≤ Z5 60 61 ∧ Z5 60 61 - Z 60 61 ≤ Z5 56 6 - Z 56 6) → (Z5 60 1 = Z 60 1 ∧ Z5 60 2 = Z 60 2) → QR Z Z5 a0 1 0 → XH n s S Z5 h5 → GI n S Z5 → fr' [(56, 6), (56, 7), (56, 9), (56, 10), (56, 11), (56, 12), (60, (-1))] Z Z5 → mx_J (tB l D b0 ad Hb tau) mt_171 (d + 8) 129 [some (.ref 56), some (xI x0)] [] h5 Post := by
      intro Z5 h5 f4_0 f4_1 f4_2 f4_3 f4_4 hx5 hG5 hf5
      have b6 : 0 ≤ Z5 56 6 ∧ Z5 56 6 ≤ 900 := hG5.pr 56 6
      have b7 : 0 ≤ Z5 56 7 ∧ Z5 56 7 ≤ 900 := hG5.pr 56 7
      have b8 : 0 ≤ Z5 56 6 ∧ Z5 56 6 ≤ 900 := hG5.pr 56 6
      have b9 : 0 ≤ Z5 56 7 ∧ Z5 56 7 ≤ 900 := hG5.pr 56 7
      have b10 : 0 ≤ Z5 56 9 ∧ Z5 56 9 ≤ 100 := hG5.pr 56 9
      have b11 : 0 ≤ Z5 56 6 ∧ Z5 56 6 ≤ 900 := hG5.pr 56 6
      have b12 : 0 ≤ Z5 60 61 ∧ Z5 60 61 ≤ 900 := by have hq := GI_ex hG5 60 61; replace hq : f60 (61 % 962) (Z5 60 61) := hq; unfold f60 at hq; omega
      have b13 : (-2147483648) ≤ Z5 60 61 ∧ Z5 60 61 ≤ 2147483647 := hG5.pr 60 61
      have b14 : 0 ≤ Z5 60 1 ∧ Z5 60 1 ≤ 18 := by have hq := GI_ex hG5 60 1; replace hq : f60 (1 % 962) (Z5 60 1) := hq; unfold f60 at hq; omega
      have b15 : (-2147483648) ≤ Z5 60 1 ∧ Z5 60 1 ≤ 2147483647 := hG5.pr 60 1
      have b16 : 0 ≤ Z5 60 2 ∧ Z5 60 2 ≤ 18 := by have hq := GI_ex hG5 60 2; replace hq : f60 (2 % 962) (Z5 60 2) := hq; unfold f60 at hq; omega
      have b17 : (-2147483648) ≤ Z5 60 2 ∧ Z5 60 2 ≤ 2147483647 := hG5.pr 60 2
      have b18 : 0 ≤ Z5 56 6 ∧ Z5 56 6 ≤ 900 := hG5.pr 56 6
      have b19 : 0 ≤ Z5 56 7 ∧ Z5 56 7 ≤ 900 := hG5.pr 56 7
      have b20 : 0 ≤ Z5 56 9 ∧ Z5 56 9 ≤ 100 := hG5.pr 56 9
      have b21 : 0 ≤ Z5 56 11 ∧ Z5 56 11 ≤ 4 := hG5.pr 56 11
      have b22 : 0 ≤ Z5 60 61 ∧ Z5 60 61 ≤ 900 := by have hq := GI_ex hG5 60 61; replace hq : f60 (61 % 962) (Z5 60 61) := hq; unfold f60 at hq; omega
      have b23 : (-2147483648) ≤ Z5 60 61 ∧ Z5 60 61 ≤ 2147483647 := hG5.pr 60 61
      have b24 : 0 ≤ Z5 60 1 ∧ Z5 60 1 ≤ 18 := by have hq := GI_ex hG5 60 1; replace hq : f60 (1 % 962) (Z5 60 1) := hq; unfold f60 at hq; omega
      have b25 : (-2147483648) ≤ Z5 60 1 ∧ Z5 60 1 ≤ 2147483647 := hG5.pr 60 1
      have b26 : 0 ≤ Z5 60 2 ∧ Z5 60 2 ≤ 18 := by have hq := GI_ex hG5 60 2; replace hq : f60 (2 % 962) (Z5 60 2) := hq; unfold f60 at hq; omega
      have b27 : (-2147483648) ≤ Z5 60 2 ∧ Z5 60 2 ≤ 2147483647 := hG5.pr 60 2
      have b28 : 0 ≤ Z5 56 6 ∧ Z5 56 6 ≤ 900 := hG5.pr 56 6
      have b29 : 0 ≤ Z5 56 7 ∧ Z5 56 7 ≤ 900 := hG5.pr 56 7
      have eq30 : Z5 56 8 = Z 56 8 := (hf5 56 8 rfl)
      have b31 : 0 ≤ Z 56 8 ∧ Z 56 8 ≤ 900 := hG.pr 56 8
      have b32 : 0 ≤ Z5 56 9 ∧ Z5 56 9 ≤ 100 := hG5.pr 56 9
      have b33 : 0 ≤ Z5 56 11 ∧ Z5 56 11 ≤ 4 := hG5.pr 56 11
      have b34 : 0 ≤ Z5 60 61 ∧ Z5 60 61 ≤ 900 := by have hq := GI_ex hG5 60 61; replace hq : f60 (61 % 962) (Z5 60 61) := hq; unfold f60 at hq; omega
      have b35 : (-2147483648) ≤ Z5 60 61 ∧ Z5 60 61 ≤ 2147483647 := hG5.pr 60 61
      have b36 : 0 ≤ Z5 60 1 ∧ Z5 60 1 ≤ 18 := by have hq := GI_ex hG5 60 1; replace hq : f60 (1 % 962) (Z5 60 1) := hq; unfold f60 at hq; omega
      have b37 : (-2147483648) ≤ Z5 60 1 ∧ Z5 60 1 ≤ 2147483647 := hG5.pr 60 1
      have b38 : 0 ≤ Z5 60 2 ∧ Z5 60 2 ≤ 18 := by have hq := GI_ex hG5 60 2; replace hq : f60 (2 % 962) (Z5 60 2) := hq; unfold f60 at hq; omega
      have b39 : (-2147483648) ≤ Z5 60 2 ∧ Z5 60 2 ≤ 2147483647 := hG5.pr 60 2
      exact mx_J.ret (sn_171 129) (fun _ _ => rfl) (hP Z5 h5 hx5 hG5 (fr_tr (M := [(56, 6), (56, 7), (56, 9), (56, 10), (56, 11), (56, 12), (60, (-1))]) fr_rf (hf5) (M1 := []) rfl rfl) ⟨(QR_le f4_4 (by decide)), by omega⟩)
    refine Jif_eq (show mx_Sn _ _ 6 (mx_if_eq 24 9) from sn_171 6) (by omega) (fun q40 => ?_) (fun q40 => ?_)
    · skip
      refine mx_J.step (sn_171 24) (fun _ _ => rfl) ?_
      have b42 : 0 ≤ Z 56 11 ∧ Z 56 11 ≤ 4 := hG.pr 56 11
      refine JgetI (g := 11) (z := Z 56 11) hx (show mx_Sn _ _ 25 (mx_getf 12 11 28) from sn_171 25) a56 s56 rfl rfl rfl ?_
      have c66 : mx_J (tB l D b0 ad Hb tau) mt_171 (d + 8) 66 [some (.ref 56), some (xI x0)] [] h Post := by
        refine mx_J.step (sn_171 66) (fun _ _ => rfl) ?_
        refine JcI (z := 35) (show mx_Sn _ _ 67 (mx_const (.int 35) 69) from sn_171 67) rfl ?_
        have b45 : 0 ≤ Z 56 9 ∧ Z 56 9 ≤ 100 := hG.pr 56 9
        have b46 : 0 ≤ Z 56 11 ∧ Z 56 11 ≤ 4 := hG.pr 56 11
        obtain ⟨z44, hc44, b44⟩ := ct_164_56 (d := d + 7) (l := l) (D := D) (b0 := b0) (ad := ad) (Hb := Hb) (tau := tau) hx hG (show 0 ≤ 35 ∧ 35 ≤ 100 by omega)
        refine Jcv hx (show mx_Sn _ _ 69 (mx_callv 164 2 12 72) from sn_171 69) a56 s56 hc44 rfl rfl rfl ?_
        refine Jif_eq (show mx_Sn _ _ 72 (mx_if_eq 108 75) from sn_171 72) (by omega) (fun q47 => ?_) (fun q47 => ?_)
        · skip
          refine mx_J.step (sn_171 108) (fun _ _ => rfl) ?_
          refine JcI (z := 5) (show mx_Sn _ _ 109 (mx_const (.int 5) 110) from sn_171 109) rfl ?_
          have b49 : 0 ≤ Z 56 9 ∧ Z 56 9 ≤ 100 := hG.pr 56 9
          have b50 : 0 ≤ Z 56 11 ∧ Z 56 11 ≤ 4 := hG.pr 56 11
          obtain ⟨z48, hc48, b48⟩ := ct_164_56 (d := d + 7) (l := l) (D := D) (b0 := b0) (ad := ad) (Hb := Hb) (tau := tau) hx hG (show 0 ≤ 5 ∧ 5 ≤ 100 by omega)
          refine Jcv hx (show mx_Sn _ _ 110 (mx_callv 164 2 12 113) from sn_171 110) a56 s56 hc48 rfl rfl rfl ?_
          refine Jif_eq (show mx_Sn _ _ 113 (mx_if_eq 124 116) from sn_171 113) (by omega) (fun q51 => ?_) (fun q51 => ?_)
          · skip
            refine mx_J.step (sn_171 124) (fun _ _ => rfl) ?_
            refine JcI (z := 2) (show mx_Sn _ _ 125 (mx_const (.int 2) 126) from sn_171 125) rfl ?_
            obtain ⟨Z52, h52, hc52, hx52, hG52, hf52, b52⟩ := ct_163_56 (d := d + 7) (l := l) (D := D) (b0 := b0) (ad := ad) (Hb := Hb) (tau := tau) hx hG (show 1 ≤ 2 ∧ 2 ≤ 4 by omega)
            have b53 : 0 ≤ Z52 56 11 ∧ Z52 56 11 ≤ 4 := hG52.pr 56 11
            have r52 : ¬ Z52 56 11 = 0 := by omega
            refine Jcv0 hx (show mx_Sn _ _ 126 (mx_callv 163 2 12 129) from sn_171 126) a56 s56 hc52 rfl rfl rfl ?_
            have eq54 : Z52 56 6 = Z 56 6 := (hf52 56 6 rfl)
            have b55 : 0 ≤ Z 56 6 ∧ Z 56 6 ≤ 900 := hG.pr 56 6
            have eq56 : Z52 56 7 = Z 56 7 := (hf52 56 7 rfl)
            have b57 : 0 ≤ Z 56 7 ∧ Z 56 7 ≤ 900 := hG.pr 56 7
            have eq58 : Z52 56 6 = Z 56 6 := (hf52 56 6 rfl)
            have b59 : 0 ≤ Z 56 6 ∧ Z 56 6 ≤ 900 := hG.pr 56 6
            have eq60 : Z52 56 7 = Z 56 7 := (hf52 56 7 rfl)
            have b61 : 0 ≤ Z 56 7 ∧ Z 56 7 ≤ 900 := hG.pr 56 7
            have eq62 : Z52 56 9 = Z 56 9 := (hf52 56 9 rfl)
            have b63 : 0 ≤ Z 56 9 ∧ Z 56 9 ≤ 100 := hG.pr 56 9
            have eq64 : Z52 56 6 = Z 56 6 := (hf52 56 6 rfl)
            have b65 : 0 ≤ Z 56 6 ∧ Z 56 6 ≤ 900 := hG.pr 56 6
            have eq66 : Z52 60 61 = Z 60 61 := (hf52 60 61 rfl)
            have b67 : 0 ≤ Z 60 61 ∧ Z 60 61 ≤ 900 := by have hq := GI_ex hG 60 61; replace hq : f60 (61 % 962) (Z 60 61) := hq; unfold f60 at hq; omega
            have b68 : (-2147483648) ≤ Z 60 61 ∧ Z 60 61 ≤ 2147483647 := hG.pr 60 61
            have eq69 : Z52 60 1 = Z 60 1 := (hf52 60 1 rfl)
            have b70 : 0 ≤ Z 60 1 ∧ Z 60 1 ≤ 18 := by have hq := GI_ex hG 60 1; replace hq : f60 (1 % 962) (Z 60 1) := hq; unfold f60 at hq; omega
            have b71 : (-2147483648) ≤ Z 60 1 ∧ Z 60 1 ≤ 2147483647 := hG.pr 60 1
            have eq72 : Z52 60 2 = Z 60 2 := (hf52 60 2 rfl)
            have b73 : 0 ≤ Z 60 2 ∧ Z 60 2 ≤ 18 := by have hq := GI_ex hG 60 2; replace hq : f60 (2 % 962) (Z 60 2) := hq; unfold f60 at hq; omega
            have b74 : (-2147483648) ≤ Z 60 2 ∧ Z 60 2 ≤ 2147483647 := hG.pr 60 2
            exact c129 Z52 h52 (by omega) (by omega) (by omega) (by omega) (QR_f r52) hx52 hG52 (fr_tr (M := [(56, 6), (56, 7), (56, 9), (56, 10), (56, 11), (56, 12), (60, (-1))]) fr_rf (hf52) (M1 := []) rfl rfl)
          · skip
            refine mx_J.step (sn_171 116) (fun _ _ => rfl) ?_
            refine mx_J.step (sn_171 117) (fun _ _ => rfl) ?_
            have b76 : 0 ≤ Z 56 6 ∧ Z 56 6 ≤ 900 := hG.pr 56 6
            have b77 : 0 ≤ Z 56 7 ∧ Z 56 7 ≤ 900 := hG.pr 56 7
            have b78 : 0 ≤ Z 56 8 ∧ Z 56 8 ≤ 900 := hG.pr 56 8
            have b79 : 0 ≤ Z 56 9 ∧ Z 56 9 ≤ 100 := hG.pr 56 9
            have b80 : 0 ≤ Z 56 11 ∧ Z 56 11 ≤ 4 := hG.pr 56 11
            have b81 : 0 ≤ Z 60 61 ∧ Z 60 61 ≤ 900 := by have hq := GI_ex hG 60 61; replace hq : f60 (61 % 962) (Z 60 61) := hq; unfold f60 at hq; omega
            have b82 : (-2147483648) ≤ Z 60 61 ∧ Z 60 61 ≤ 2147483647 := hG.pr 60 61
            have b83 : 0 ≤ Z 60 1 ∧ Z 60 1 ≤ 18 := by have hq := GI_ex hG 60 1; replace hq : f60 (1 % 962) (Z 60 1) := hq; unfold f60 at hq; omega
            have b84 : (-2147483648) ≤ Z 60 1 ∧ Z 60 1 ≤ 2147483647 := hG.pr 60 1
            have b85 : 0 ≤ Z 60 2 ∧ Z 60 2 ≤ 18 := by have hq := GI_ex hG 60 2; replace hq : f60 (2 % 962) (Z 60 2) := hq; unfold f60 at hq; omega
            have b86 : (-2147483648) ≤ Z 60 2 ∧ Z 60 2 ≤ 2147483647 := hG.pr 60 2
            obtain ⟨Z75, h75, hc75, hx75, hG75, hf75, b75⟩ := ct_172_56_s (a0 := a0) (d := d + 0) (l := l) (D := D) (b0 := b0) (ad := ad) (Hb := Hb) (tau := tau) hx hG (show 0 ≤ x0 ∧ x0 ≤ 6 by omega) (show (Z 56 6 ≤ Z 56 7 ∧ Z 56 7 ≤ Z 56 8 ∧ (Z 56 9 = 24 ∨ Z 56 6 < Z 56 7)) by omega) (show Z 60 61 ≤ Z 56 6 by omega) (show a0 ≤ Z 60 61 by omega) (show 0 ≤ a0 by omega) (show ¬ Z 56 9 = 24 by omega) IH (by omega)
            obtain ⟨bq75, b75⟩ := b75
            have b87 : 0 ≤ Z75 56 6 ∧ Z75 56 6 ≤ 900 := hG75.pr 56 6
            have b88 : 0 ≤ Z75 56 7 ∧ Z75 56 7 ≤ 900 := hG75.pr 56 7
            have b89 : 0 ≤ Z75 56 9 ∧ Z75 56 9 ≤ 100 := hG75.pr 56 9
            have b90 : 0 ≤ Z75 56 11 ∧ Z75 56 11 ≤ 4 := hG75.pr 56 11
            have b91 : 0 ≤ Z75 60 61 ∧ Z75 60 61 ≤ 900 := by have hq := GI_ex hG75 60 61; replace hq : f60 (61 % 962) (Z75 60 61) := hq; unfold f60 at hq; omega
            have b92 : (-2147483648) ≤ Z75 60 61 ∧ Z75 60 61 ≤ 2147483647 := hG75.pr 60 61
            have b93 : 0 ≤ Z75 60 1 ∧ Z75 60 1 ≤ 18 := by have hq := GI_ex hG75 60 1; replace hq : f60 (1 % 962) (Z75 60 1) := hq; unfold f60 at hq; omega
            have b94 : (-2147483648) ≤ Z75 60 1 ∧ Z75 60 1 ≤ 2147483647 := hG75.pr 60 1
            have b95 : 0 ≤ Z75 60 2 ∧ Z75 60 2 ≤ 18 := by have hq := GI_ex hG75 60 2; replace hq : f60 (2 % 962) (Z75 60 2) := hq; unfold f60 at hq; omega
            have b96 : (-2147483648) ≤ Z75 60 2 ∧ Z75 60 2 ≤ 2147483647 := hG75.pr 60 2
            have r75 := QR_tr (d := 1) (c := 0) (QR_rf (Z := Z) (a := a0)) bq75 (by decide) (by decide) (by decide)
            refine Jcv0 hx (show mx_Sn _ _ 118 (mx_callv 172 2 12 121) from sn_171 118) a56 s56 hc75 rfl rfl rfl ?_
            refine mx_J.step (sn_171 121) (fun _ _ => rfl) ?_
            have b97 : 0 ≤ Z75 56 6 ∧ Z75 56 6 ≤ 900 := hG75.pr 56 6
            have b98 : 0 ≤ Z75 56 7 ∧ Z75 56 7 ≤ 900 := hG75.pr 56 7
            have b99 : 0 ≤ Z75 56 6 ∧ Z75 56 6 ≤ 900 := hG75.pr 56 6
            have b100 : 0 ≤ Z75 56 7 ∧ Z75 56 7 ≤ 900 := hG75.pr 56 7
            have b101 : 0 ≤ Z75 56 9 ∧ Z75 56 9 ≤ 100 := hG75.pr 56 9
            have b102 : 0 ≤ Z75 56 6 ∧ Z75 56 6 ≤ 900 := hG75.pr 56 6
            have b103 : 0 ≤ Z75 60 61 ∧ Z75 60 61 ≤ 900 := by have hq := GI_ex hG75 60 61; replace hq : f60 (61 % 962) (Z75 60 61) := hq; unfold f60 at hq; omega
            have b104 : (-2147483648) ≤ Z75 60 61 ∧ Z75 60 61 ≤ 2147483647 := hG75.pr 60 61
            have b105 : 0 ≤ Z75 60 1 ∧ Z75 60 1 ≤ 18 := by have hq := GI_ex hG75 60 1; replace hq : f60 (1 % 962) (Z75 60 1) := hq; unfold f60 at hq; omega
            have b106 : (-2147483648) ≤ Z75 60 1 ∧ Z75 60 1 ≤ 2147483647 := hG75.pr 60 1
            have b107 : 0 ≤ Z75 60 2 ∧ Z75 60 2 ≤ 18 := by have hq := GI_ex hG75 60 2; replace hq : f60 (2 % 962) (Z75 60 2) := hq; unfold f60 at hq; omega
            have b108 : (-2147483648) ≤ Z75 60 2 ∧ Z75 60 2 ≤ 2147483647 := hG75.pr 60 2
            exact c129 Z75 h75 (by omega) (by omega) (by omega) (by omega) (QR_le r75 (by decide)) hx75 hG75 (fr_tr (M := [(56, 6), (56, 7), (56, 9), (56, 10), (56, 11), (56, 12), (60, (-1))]) fr_rf (hf75) (M1 := []) rfl rfl)
        · skip
          refine mx_J.step (sn_171 75) (fun _ _ => rfl) ?_
          refine mx_J.step (sn_171 76) (fun _ _ => rfl) ?_
          have b110 : 0 ≤ Z 56 6 ∧ Z 56 6 ≤ 900 := hG.pr 56 6
          have b111 : 0 ≤ Z 56 7 ∧ Z 56 7 ≤ 900 := hG.pr 56 7
          have b112 : 0 ≤ Z 56 8 ∧ Z 56 8 ≤ 900 := hG.pr 56 8
          have b113 : 0 ≤ Z 56 9 ∧ Z 56 9 ≤ 100 := hG.pr 56 9
          have b114 : 0 ≤ Z 56 11 ∧ Z 56 11 ≤ 4 := hG.pr 56 11
          obtain ⟨z109, Z109, h109, hc109, hx109, hG109, hf109, b109⟩ := ct_170_56 (d := d + 1) (l := l) (D := D) (b0 := b0) (ad := ad) (Hb := Hb) (tau := tau) hx hG (show 0 ≤ x0 ∧ x0 ≤ 6 by omega) (show (Z 56 6 ≤ Z 56 7 ∧ Z 56 7 ≤ Z 56 8 ∧ (Z 56 9 = 24 ∨ Z 56 6 < Z 56 7)) by omega) (show ¬ Z 56 9 = 24 by omega)
          have b115 : 0 ≤ Z109 56 6 ∧ Z109 56 6 ≤ 900 := hG109.pr 56 6
          have b116 : 0 ≤ Z109 56 7 ∧ Z109 56 7 ≤ 900 := hG109.pr 56 7
          have b117 : 0 ≤ Z109 56 9 ∧ Z109 56 9 ≤ 100 := hG109.pr 56 9
          have b118 : 0 ≤ Z109 56 11 ∧ Z109 56 11 ≤ 4 := hG109.pr 56 11
          have b119 : 0 ≤ Z 56 6 ∧ Z 56 6 ≤ 900 := hG.pr 56 6
          have b120 : 0 ≤ Z 56 11 ∧ Z 56 11 ≤ 4 := hG.pr 56 11
          have b121 : 0 ≤ Z 56 9 ∧ Z 56 9 ≤ 100 := hG.pr 56 9
          have r109 := QR_g (k := 1) (c2 := 1) (QR_rf (Z := Z) (a := a0)) (fun e => by omega) (fun i => hf109 60 i rfl) (fun e => by omega) (by decide)
          refine Jcv hx (show mx_Sn _ _ 77 (mx_callv 170 2 12 80) from sn_171 77) a56 s56 hc109 rfl rfl rfl ?_
          refine Jif_ne (show mx_Sn _ _ 80 (mx_if_ne 84 83) from sn_171 80) (by omega) (fun q122 => ?_) (fun q122 => ?_)
          · skip
            have hx5 : x0 ≤ 5 := by omega
            refine mx_J.step (sn_171 84) (fun _ _ => rfl) ?_
            refine mx_J.step (sn_171 85) (fun _ _ => rfl) ?_
            refine JcI (z := 1) (show mx_Sn _ _ 86 (mx_const (.int 1) 87) from sn_171 86) rfl ?_
            refine Jiadd (show mx_Sn _ _ 87 (mx_iadd 88) from sn_171 87) ?_
            have b124 : 0 ≤ Z109 56 6 ∧ Z109 56 6 ≤ 900 := hG109.pr 56 6
            have b125 : 0 ≤ Z109 56 7 ∧ Z109 56 7 ≤ 900 := hG109.pr 56 7
            have eq126 : Z109 56 8 = Z 56 8 := (hf109 56 8 rfl)
            have b127 : 0 ≤ Z 56 8 ∧ Z 56 8 ≤ 900 := hG.pr 56 8
            have b128 : 0 ≤ Z109 56 9 ∧ Z109 56 9 ≤ 100 := hG109.pr 56 9
            have b129 : 0 ≤ Z109 56 11 ∧ Z109 56 11 ≤ 4 := hG109.pr 56 11
            have eq130 : Z109 60 61 = Z 60 61 := (hf109 60 61 rfl)
            have b131 : 0 ≤ Z 60 61 ∧ Z 60 61 ≤ 900 := by have hq := GI_ex hG 60 61; replace hq : f60 (61 % 962) (Z 60 61) := hq; unfold f60 at hq; omega
            have b132 : (-2147483648) ≤ Z 60 61 ∧ Z 60 61 ≤ 2147483647 := hG.pr 60 61
            have eq133 : Z109 60 1 = Z 60 1 := (hf109 60 1 rfl)
            have b134 : 0 ≤ Z 60 1 ∧ Z 60 1 ≤ 18 := by have hq := GI_ex hG 60 1; replace hq : f60 (1 % 962) (Z 60 1) := hq; unfold f60 at hq; omega
            have b135 : (-2147483648) ≤ Z 60 1 ∧ Z 60 1 ≤ 2147483647 := hG.pr 60 1
            have eq136 : Z109 60 2 = Z 60 2 := (hf109 60 2 rfl)
            have b137 : 0 ≤ Z 60 2 ∧ Z 60 2 ≤ 18 := by have hq := GI_ex hG 60 2; replace hq : f60 (2 % 962) (Z 60 2) := hq; unfold f60 at hq; omega
            have b138 : (-2147483648) ≤ Z 60 2 ∧ Z 60 2 ≤ 2147483647 := hG.pr 60 2
            obtain ⟨Z123, h123, hc123, hx123, hG123, hf123, b123⟩ := ri_174 IH (by omega) (hd := by omega) (a0 := a0) (d := d + 8) (l := l) (D := D) (b0 := b0) (ad := ad) (Hb := Hb) (tau := tau) hx109 hG109 (show 1 ≤ x0 + 1 ∧ x0 + 1 ≤ 6 by omega) (show (Z109 56 6 ≤ Z109 56 7 ∧ Z109 56 7 ≤ Z109 56 8 ∧ (Z109 56 9 = 24 ∨ Z109 56 6 < Z109 56 7)) by first | omega | (simp only [eq126, eq130, eq133, eq136]; omega)) (show Z109 60 61 ≤ Z109 56 6 by first | omega | (simp only [eq126, eq130, eq133, eq136]; omega)) (show a0 ≤ Z109 60 61 by first | omega | (simp only [eq126, eq130, eq133, eq136]; omega)) (show 0 ≤ a0 by first | omega | (simp only [eq126, eq130, eq133, eq136]; omega))
            try rw [eq126] at b123
            try rw [eq130] at b123
            try rw [eq133] at b123
            try rw [eq136] at b123
            obtain ⟨bq123, b123⟩ := b123
            have b139 : 0 ≤ Z123 56 6 ∧ Z123 56 6 ≤ 900 := hG123.pr 56 6
            have b140 : 0 ≤ Z123 56 7 ∧ Z123 56 7 ≤ 900 := hG123.pr 56 7
            have b141 : 0 ≤ Z123 56 9 ∧ Z123 56 9 ≤ 100 := hG123.pr 56 9
            have b142 : 0 ≤ Z123 56 11 ∧ Z123 56 11 ≤ 4 := hG123.pr 56 11
            have b143 : 0 ≤ Z123 60 61 ∧ Z123 60 61 ≤ 900 := by have hq := GI_ex hG123 60 61; replace hq : f60 (61 % 962) (Z123 60 61) := hq; unfold f60 at hq; omega
            have b144 : (-2147483648) ≤ Z123 60 61 ∧ Z123 60 61 ≤ 2147483647 := hG123.pr 60 61
            have b145 : 0 ≤ Z123 60 1 ∧ Z123 60 1 ≤ 18 := by have hq := GI_ex hG123 60 1; replace hq : f60 (1 % 962) (Z123 60 1) := hq; unfold f60 at hq; omega
            have b146 : (-2147483648) ≤ Z123 60 1 ∧ Z123 60 1 ≤ 2147483647 := hG123.pr 60 1
            have b147 : 0 ≤ Z123 60 2 ∧ Z123 60 2 ≤ 18 := by have hq := GI_ex hG123 60 2; replace hq : f60 (2 % 962) (Z123 60 2) := hq; unfold f60 at hq; omega
            have b148 : (-2147483648) ≤ Z123 60 2 ∧ Z123 60 2 ≤ 2147483647 := hG123.pr 60 2
            have r123 := QR_tr (d := 1) (c := 1) r109 bq123 (by decide) (by decide) (by decide)
            refine Jcv0 hx109 (show mx_Sn _ _ 88 (mx_callv 174 2 12 91) from sn_171 88) a56 s56 hc123 rfl rfl rfl ?_
            refine mx_J.step (sn_171 91) (fun _ _ => rfl) ?_
            refine JcI (z := 36) (show mx_Sn _ _ 92 (mx_const (.int 36) 94) from sn_171 92) rfl ?_
            have b150 : 0 ≤ Z123 56 6 ∧ Z123 56 6 ≤ 900 := hG123.pr 56 6
            have b151 : 0 ≤ Z123 56 7 ∧ Z123 56 7 ≤ 900 := hG123.pr 56 7
            have eq152 : Z123 56 8 = Z 56 8 := ((hf123 56 8 rfl).trans (hf109 56 8 rfl))
            have b153 : 0 ≤ Z 56 8 ∧ Z 56 8 ≤ 900 := hG.pr 56 8
            have b154 : 0 ≤ Z123 56 9 ∧ Z123 56 9 ≤ 100 := hG123.pr 56 9
            have b155 : 0 ≤ Z123 56 11 ∧ Z123 56 11 ≤ 4 := hG123.pr 56 11
            obtain ⟨z149, Z149, h149, hc149, hx149, hG149, hf149, b149⟩ := ct_165_56 (d := d + 1) (l := l) (D := D) (b0 := b0) (ad := ad) (Hb := Hb) (tau := tau) hx123 hG123 (show 0 ≤ 36 ∧ 36 ≤ 100 by omega) (show (Z123 56 6 ≤ Z123 56 7 ∧ Z123 56 7 ≤ Z123 56 8 ∧ (Z123 56 9 = 24 ∨ Z123 56 6 < Z123 56 7)) by first | omega | (simp only [eq152]; omega)) (show ¬ 36 = 24 by first | omega | (simp only [eq152]; omega))
            try rw [eq152] at b149
            have b156 : 0 ≤ Z149 56 6 ∧ Z149 56 6 ≤ 900 := hG149.pr 56 6
            have b157 : 0 ≤ Z149 56 7 ∧ Z149 56 7 ≤ 900 := hG149.pr 56 7
            have b158 : 0 ≤ Z149 56 9 ∧ Z149 56 9 ≤ 100 := hG149.pr 56 9
            have b159 : 0 ≤ Z123 56 6 ∧ Z123 56 6 ≤ 900 := hG123.pr 56 6
            have b160 : 0 ≤ Z123 56 11 ∧ Z123 56 11 ≤ 4 := hG123.pr 56 11
            have b161 : 0 ≤ Z123 56 9 ∧ Z123 56 9 ≤ 100 := hG123.pr 56 9
            have r149 := QR_g (k := 0) (c2 := 1) r123 (fun e => (hf149 56 11 rfl).symm.trans e) (fun i => hf149 60 i rfl) (fun e => by omega) (by decide)
            have rk149 : z149 = 1 → QR Z Z149 a0 1 2 := fun ez => QR_g (k := 1) r123 (fun e => (hf149 56 11 rfl).symm.trans e) (fun i => hf149 60 i rfl) (fun e => by omega) (by decide)
            refine Jcv hx123 (show mx_Sn _ _ 94 (mx_callv 165 2 12 97) from sn_171 94) a56 s56 hc149 rfl rfl rfl ?_
            refine Jif_ne (show mx_Sn _ _ 97 (mx_if_ne 129 100) from sn_171 97) (by omega) (fun q162 => ?_) (fun q162 => ?_)
            · skip
              have b163 : 0 ≤ Z149 56 6 ∧ Z149 56 6 ≤ 900 := hG149.pr 56 6
              have b164 : 0 ≤ Z149 56 7 ∧ Z149 56 7 ≤ 900 := hG149.pr 56 7
              have b165 : 0 ≤ Z149 56 6 ∧ Z149 56 6 ≤ 900 := hG149.pr 56 6
              have b166 : 0 ≤ Z149 56 7 ∧ Z149 56 7 ≤ 900 := hG149.pr 56 7
              have b167 : 0 ≤ Z149 56 9 ∧ Z149 56 9 ≤ 100 := hG149.pr 56 9
              have b168 : 0 ≤ Z149 56 6 ∧ Z149 56 6 ≤ 900 := hG149.pr 56 6
              have eq169 : Z149 60 61 = Z123 60 61 := (hf149 60 61 rfl)
              have b170 : 0 ≤ Z123 60 61 ∧ Z123 60 61 ≤ 900 := by have hq := GI_ex hG123 60 61; replace hq : f60 (61 % 962) (Z123 60 61) := hq; unfold f60 at hq; omega
              have b171 : (-2147483648) ≤ Z123 60 61 ∧ Z123 60 61 ≤ 2147483647 := hG123.pr 60 61
              have eq172 : Z149 60 1 = Z123 60 1 := (hf149 60 1 rfl)
              have b173 : 0 ≤ Z123 60 1 ∧ Z123 60 1 ≤ 18 := by have hq := GI_ex hG123 60 1; replace hq : f60 (1 % 962) (Z123 60 1) := hq; unfold f60 at hq; omega
              have b174 : (-2147483648) ≤ Z123 60 1 ∧ Z123 60 1 ≤ 2147483647 := hG123.pr 60 1
              have eq175 : Z149 60 2 = Z123 60 2 := (hf149 60 2 rfl)
              have b176 : 0 ≤ Z123 60 2 ∧ Z123 60 2 ≤ 18 := by have hq := GI_ex hG123 60 2; replace hq : f60 (2 % 962) (Z123 60 2) := hq; unfold f60 at hq; omega
              have b177 : (-2147483648) ≤ Z123 60 2 ∧ Z123 60 2 ≤ 2147483647 := hG123.pr 60 2
              exact c129 Z149 h149 (by omega) (by omega) (by omega) (by omega) (QR_le (rk149 (by omega)) (by decide)) hx149 hG149 (fr_tr (M := [(56, 6), (56, 7), (56, 9), (56, 10), (56, 11), (56, 12), (60, (-1))]) (fr_tr (M := [(56, 6), (56, 7), (56, 9), (56, 10), (56, 11), (56, 12), (60, (-1))]) (fr_tr (M := [(56, 6), (56, 7), (56, 9), (56, 10), (56, 11), (56, 12), (60, (-1))]) fr_rf (hf109) (M1 := []) rfl rfl) (hf123) rfl rfl) (hf149) rfl rfl)
            · skip
              refine mx_J.step (sn_171 100) (fun _ _ => rfl) ?_
              refine JcI (z := 2) (show mx_Sn _ _ 101 (mx_const (.int 2) 102) from sn_171 101) rfl ?_
              obtain ⟨Z178, h178, hc178, hx178, hG178, hf178, b178⟩ := ct_163_56 (d := d + 7) (l := l) (D := D) (b0 := b0) (ad := ad) (Hb := Hb) (tau := tau) hx149 hG149 (show 1 ≤ 2 ∧ 2 ≤ 4 by omega)
              have b179 : 0 ≤ Z178 56 11 ∧ Z178 56 11 ≤ 4 := hG178.pr 56 11
              have r178 : ¬ Z178 56 11 = 0 := by omega
              refine Jcv0 hx149 (show mx_Sn _ _ 102 (mx_callv 163 2 12 105) from sn_171 102) a56 s56 hc178 rfl rfl rfl ?_
              refine mx_J.step (sn_171 105) (fun _ _ => rfl) ?_
              have eq180 : Z178 56 6 = Z149 56 6 := (hf178 56 6 rfl)
              have b181 : 0 ≤ Z149 56 6 ∧ Z149 56 6 ≤ 900 := hG149.pr 56 6
              have eq182 : Z178 56 7 = Z149 56 7 := (hf178 56 7 rfl)
              have b183 : 0 ≤ Z149 56 7 ∧ Z149 56 7 ≤ 900 := hG149.pr 56 7
              have eq184 : Z178 56 6 = Z149 56 6 := (hf178 56 6 rfl)
              have b185 : 0 ≤ Z149 56 6 ∧ Z149 56 6 ≤ 900 := hG149.pr 56 6
              have eq186 : Z178 56 7 = Z149 56 7 := (hf178 56 7 rfl)
              have b187 : 0 ≤ Z149 56 7 ∧ Z149 56 7 ≤ 900 := hG149.pr 56 7
              have eq188 : Z178 56 9 = Z149 56 9 := (hf178 56 9 rfl)
              have b189 : 0 ≤ Z149 56 9 ∧ Z149 56 9 ≤ 100 := hG149.pr 56 9
              have eq190 : Z178 56 6 = Z149 56 6 := (hf178 56 6 rfl)
              have b191 : 0 ≤ Z149 56 6 ∧ Z149 56 6 ≤ 900 := hG149.pr 56 6
              have eq192 : Z178 60 61 = Z123 60 61 := ((hf178 60 61 rfl).trans (hf149 60 61 rfl))
              have b193 : 0 ≤ Z123 60 61 ∧ Z123 60 61 ≤ 900 := by have hq := GI_ex hG123 60 61; replace hq : f60 (61 % 962) (Z123 60 61) := hq; unfold f60 at hq; omega
              have b194 : (-2147483648) ≤ Z123 60 61 ∧ Z123 60 61 ≤ 2147483647 := hG123.pr 60 61
              have eq195 : Z178 60 1 = Z123 60 1 := ((hf178 60 1 rfl).trans (hf149 60 1 rfl))
              have b196 : 0 ≤ Z123 60 1 ∧ Z123 60 1 ≤ 18 := by have hq := GI_ex hG123 60 1; replace hq : f60 (1 % 962) (Z123 60 1) := hq; unfold f60 at hq; omega
              have b197 : (-2147483648) ≤ Z123 60 1 ∧ Z123 60 1 ≤ 2147483647 := hG123.pr 60 1
              have eq198 : Z178 60 2 = Z123 60 2 := ((hf178 60 2 rfl).trans (hf149 60 2 rfl))
              have b199 : 0 ≤ Z123 60 2 ∧ Z123 60 2 ≤ 18 := by have hq := GI_ex hG123 60 2; replace hq : f60 (2 % 962) (Z123 60 2) := hq; unfold f60 at hq; omega
              have b200 : (-2147483648) ≤ Z123 60 2 ∧ Z123 60 2 ≤ 2147483647 := hG123.pr 60 2
              exact c129 Z178 h178 (by omega) (by omega) (by omega) (by omega) (QR_f r178) hx178 hG178 (fr_tr (M := [(56, 6), (56, 7), (56, 9), (56, 10), (56, 11), (56, 12), (60, (-1))]) (fr_tr (M := [(56, 6), (56, 7), (56, 9), (56, 10), (56, 11), (56, 12), (60, (-1))]) (fr_tr (M := [(56, 6), (56, 7), (56, 9), (56, 10), (56, 11), (56, 12), (60, (-1))]) (fr_tr (M := [(56, 6), (56, 7), (56, 9), (56, 10), (56, 11), (56, 12), (60, (-1))]) fr_rf (hf109) (M1 := []) rfl rfl) (hf123) rfl rfl) (hf149) rfl rfl) (hf178) rfl rfl)
          · skip
            have b201 : 0 ≤ Z109 56 6 ∧ Z109 56 6 ≤ 900 := hG109.pr 56 6
            have b202 : 0 ≤ Z109 56 7 ∧ Z109 56 7 ≤ 900 := hG109.pr 56 7
            have b203 : 0 ≤ Z109 56 9 ∧ Z109 56 9 ≤ 100 := hG109.pr 56 9
            have b204 : 0 ≤ Z109 56 11 ∧ Z109 56 11 ≤ 4 := hG109.pr 56 11
            have eq205 : Z109 60 61 = Z 60 61 := (hf109 60 61 rfl)
            have b206 : 0 ≤ Z 60 61 ∧ Z 60 61 ≤ 900 := by have hq := GI_ex hG 60 61; replace hq : f60 (61 % 962) (Z 60 61) := hq; unfold f60 at hq; omega
            have b207 : (-2147483648) ≤ Z 60 61 ∧ Z 60 61 ≤ 2147483647 := hG.pr 60 61
            have eq208 : Z109 60 1 = Z 60 1 := (hf109 60 1 rfl)
            have b209 : 0 ≤ Z 60 1 ∧ Z 60 1 ≤ 18 := by have hq := GI_ex hG 60 1; replace hq : f60 (1 % 962) (Z 60 1) := hq; unfold f60 at hq; omega
            have b210 : (-2147483648) ≤ Z 60 1 ∧ Z 60 1 ≤ 2147483647 := hG.pr 60 1
            have eq211 : Z109 60 2 = Z 60 2 := (hf109 60 2 rfl)
            have b212 : 0 ≤ Z 60 2 ∧ Z 60 2 ≤ 18 := by have hq := GI_ex hG 60 2; replace hq : f60 (2 % 962) (Z 60 2) := hq; unfold f60 at hq; omega
            have b213 : (-2147483648) ≤ Z 60 2 ∧ Z 60 2 ≤ 2147483647 := hG.pr 60 2
            have b214 : 0 ≤ Z109 56 6 ∧ Z109 56 6 ≤ 900 := hG109.pr 56 6
            have b215 : 0 ≤ Z109 56 7 ∧ Z109 56 7 ≤ 900 := hG109.pr 56 7
            have eq216 : Z109 56 8 = Z 56 8 := (hf109 56 8 rfl)
            have b217 : 0 ≤ Z 56 8 ∧ Z 56 8 ≤ 900 := hG.pr 56 8
            have b218 : 0 ≤ Z109 56 9 ∧ Z109 56 9 ≤ 100 := hG109.pr 56 9
            have b219 : 0 ≤ Z109 56 11 ∧ Z109 56 11 ≤ 4 := hG109.pr 56 11
            have eq220 : Z109 60 61 = Z 60 61 := (hf109 60 61 rfl)
            have b221 : 0 ≤ Z 60 61 ∧ Z 60 61 ≤ 900 := by have hq := GI_ex hG 60 61; replace hq : f60 (61 % 962) (Z 60 61) := hq; unfold f60 at hq; omega
            have b222 : (-2147483648) ≤ Z 60 61 ∧ Z 60 61 ≤ 2147483647 := hG.pr 60 61
            have eq223 : Z109 60 1 = Z 60 1 := (hf109 60 1 rfl)
            have b224 : 0 ≤ Z 60 1 ∧ Z 60 1 ≤ 18 := by have hq := GI_ex hG 60 1; replace hq : f60 (1 % 962) (Z 60 1) := hq; unfold f60 at hq; omega
            have b225 : (-2147483648) ≤ Z 60 1 ∧ Z 60 1 ≤ 2147483647 := hG.pr 60 1
            have eq226 : Z109 60 2 = Z 60 2 := (hf109 60 2 rfl)
            have b227 : 0 ≤ Z 60 2 ∧ Z 60 2 ≤ 18 := by have hq := GI_ex hG 60 2; replace hq : f60 (2 % 962) (Z 60 2) := hq; unfold f60 at hq; omega
            have b228 : (-2147483648) ≤ Z 60 2 ∧ Z 60 2 ≤ 2147483647 := hG.pr 60 2
            exact mx_J.ret (sn_171 83) (fun _ _ => rfl) (hP Z109 h109 hx109 hG109 (fr_tr (M := [(56, 6), (56, 7), (56, 9), (56, 10), (56, 11), (56, 12), (60, (-1))]) fr_rf (hf109) (M1 := []) rfl rfl) ⟨(QR_f (by omega)), by omega⟩)
      refine Jif_ne (show mx_Sn _ _ 28 (mx_if_ne 66 31) from sn_171 28) (by omega) (fun q229 => ?_) (fun q229 => ?_)
      · skip
        exact c66 
      · skip
        refine mx_J.step (sn_171 31) (fun _ _ => rfl) ?_
        refine mx_J.step (sn_171 32) (fun _ _ => rfl) ?_
        have b231 : 0 ≤ Z 56 9 ∧ Z 56 9 ≤ 100 := hG.pr 56 9
        refine JgetI (g := 9) (z := Z 56 9) hx (show mx_Sn _ _ 33 (mx_getf 12 9 36) from sn_171 33) a56 s56 rfl rfl rfl ?_
        obtain ⟨z232, hc232, b232⟩ := ct_168_56 (d := d + 7) (l := l) (D := D) (b0 := b0) (ad := ad) (Hb := Hb) (tau := tau) hx hG (show 0 ≤ Z 56 9 ∧ Z 56 9 ≤ 100 by omega)
        refine Jcv hx (show mx_Sn _ _ 36 (mx_callv 168 2 12 39) from sn_171 36) a56 s56 hc232 rfl rfl rfl ?_
        refine JcI (z := (-1)) (show mx_Sn _ _ 39 (mx_const (.int (-1)) 40) from sn_171 39) rfl ?_
        refine Jicmp_eq (show mx_Sn _ _ 40 (mx_icmp_eq 66 43) from sn_171 40) (by omega) (by omega) (fun q233 => ?_) (fun q233 => ?_)
        · skip
          exact c66 
        · skip
          refine mx_J.step (sn_171 43) (fun _ _ => rfl) ?_
          refine JcI (z := 1000) (show mx_Sn _ _ 44 (mx_const (.int 1000) 47) from sn_171 44) rfl ?_
          refine mx_J.step (sn_171 47) (fun _ _ => rfl) ?_
          refine mx_J.step (sn_171 48) (fun _ _ => rfl) ?_
          have b235 : 0 ≤ Z 56 9 ∧ Z 56 9 ≤ 100 := hG.pr 56 9
          refine JgetI (g := 9) (z := Z 56 9) hx (show mx_Sn _ _ 49 (mx_getf 12 9 52) from sn_171 49) a56 s56 rfl rfl rfl ?_
          obtain ⟨z236, hc236, b236⟩ := ct_168_56 (d := d + 7) (l := l) (D := D) (b0 := b0) (ad := ad) (Hb := Hb) (tau := tau) hx hG (show 0 ≤ Z 56 9 ∧ Z 56 9 ≤ 100 by omega)
          refine Jcv hx (show mx_Sn _ _ 52 (mx_callv 168 2 12 55) from sn_171 52) a56 s56 hc236 rfl rfl rfl ?_
          refine Jiadd (show mx_Sn _ _ 55 (mx_iadd 56) from sn_171 55) ?_
          have b238 : 0 ≤ Z 56 8 ∧ Z 56 8 ≤ 900 := hG.pr 56 8
          have b239 : 0 ≤ Z 56 11 ∧ Z 56 11 ≤ 4 := hG.pr 56 11
          have b240 : 0 ≤ Z 60 61 ∧ Z 60 61 ≤ 900 := by have hq := GI_ex hG 60 61; replace hq : f60 (61 % 962) (Z 60 61) := hq; unfold f60 at hq; omega
          have b241 : (-2147483648) ≤ Z 60 61 ∧ Z 60 61 ≤ 2147483647 := hG.pr 60 61
          have b242 : 0 ≤ Z 60 1 ∧ Z 60 1 ≤ 18 := by have hq := GI_ex hG 60 1; replace hq : f60 (1 % 962) (Z 60 1) := hq; unfold f60 at hq; omega
          have b243 : (-2147483648) ≤ Z 60 1 ∧ Z 60 1 ≤ 2147483647 := hG.pr 60 1
          have b244 : 0 ≤ Z 60 2 ∧ Z 60 2 ≤ 18 := by have hq := GI_ex hG 60 2; replace hq : f60 (2 % 962) (Z 60 2) := hq; unfold f60 at hq; omega
          have b245 : (-2147483648) ≤ Z 60 2 ∧ Z 60 2 ≤ 2147483647 := hG.pr 60 2
          have rp237 := QR_n (QR_rf (Z := Z) (a := a0))
          obtain ⟨Z237, h237, hc237, hx237, hG237, hf237, b237⟩ := ct_169_56_0 (a0 := a0) (d := d + 7) (l := l) (D := D) (b0 := b0) (ad := ad) (Hb := Hb) (tau := tau) hx hG (show 0 ≤ 1000 + z236 ∧ 1000 + z236 ≤ 1004 by omega) (show (Z 56 11 = 0 → Z 60 61 ≤ 899) by omega) (show a0 ≤ Z 60 61 by omega) (show 0 ≤ a0 by omega)
          obtain ⟨bq237, b237⟩ := b237
          have b246 : 0 ≤ Z237 60 61 ∧ Z237 60 61 ≤ 900 := by have hq := GI_ex hG237 60 61; replace hq : f60 (61 % 962) (Z237 60 61) := hq; unfold f60 at hq; omega
          have b247 : (-2147483648) ≤ Z237 60 61 ∧ Z237 60 61 ≤ 2147483647 := hG237.pr 60 61
          have b248 : 0 ≤ Z237 60 1 ∧ Z237 60 1 ≤ 18 := by have hq := GI_ex hG237 60 1; replace hq : f60 (1 % 962) (Z237 60 1) := hq; unfold f60 at hq; omega
          have b249 : (-2147483648) ≤ Z237 60 1 ∧ Z237 60 1 ≤ 2147483647 := hG237.pr 60 1
          have b250 : 0 ≤ Z237 60 2 ∧ Z237 60 2 ≤ 18 := by have hq := GI_ex hG237 60 2; replace hq : f60 (2 % 962) (Z237 60 2) := hq; unfold f60 at hq; omega
          have b251 : (-2147483648) ≤ Z237 60 2 ∧ Z237 60 2 ≤ 2147483647 := hG237.pr 60 2
          have rn237 := QR_n (QR_rf (Z := Z) (a := a0))
          have r237 := QR_c (d2 := 1) (c2 := (-1)) (QR_rf (Z := Z) (a := a0)) bq237 (by omega) (hf237 56 11 rfl) (hf237 56 6 rfl) (by decide) (by decide) (by decide)
          refine Jcv0 hx (show mx_Sn _ _ 56 (mx_callv 169 2 12 59) from sn_171 56) a56 s56 hc237 rfl rfl rfl ?_
          refine mx_J.step (sn_171 59) (fun _ _ => rfl) ?_
          have eq253 : Z237 56 7 = Z 56 7 := (hf237 56 7 rfl)
          have b254 : 0 ≤ Z 56 7 ∧ Z 56 7 ≤ 900 := hG.pr 56 7
          have eq255 : Z237 56 8 = Z 56 8 := (hf237 56 8 rfl)
          have b256 : 0 ≤ Z 56 8 ∧ Z 56 8 ≤ 900 := hG.pr 56 8
          obtain ⟨Z252, h252, hc252, hx252, hG252, hf252, b252⟩ := ct_162_56 (d := d + 2) (l := l) (D := D) (b0 := b0) (ad := ad) (Hb := Hb) (tau := tau) hx237 hG237  (show Z237 56 7 ≤ Z237 56 8 by first | omega | (simp only [eq253, eq255]; omega))
          try rw [eq253] at b252
          try rw [eq255] at b252
          have b257 : 0 ≤ Z252 56 6 ∧ Z252 56 6 ≤ 900 := hG252.pr 56 6
          have b258 : 0 ≤ Z252 56 7 ∧ Z252 56 7 ≤ 900 := hG252.pr 56 7
          have b259 : 0 ≤ Z252 56 9 ∧ Z252 56 9 ≤ 100 := hG252.pr 56 9
          have eq260 : Z237 56 6 = Z 56 6 := (hf237 56 6 rfl)
          have b261 : 0 ≤ Z 56 6 ∧ Z 56 6 ≤ 900 := hG.pr 56 6
          have eq262 : Z237 56 11 = Z 56 11 := (hf237 56 11 rfl)
          have b263 : 0 ≤ Z 56 11 ∧ Z 56 11 ≤ 4 := hG.pr 56 11
          have eq264 : Z237 56 9 = Z 56 9 := (hf237 56 9 rfl)
          have b265 : 0 ≤ Z 56 9 ∧ Z 56 9 ≤ 100 := hG.pr 56 9
          have r252 := QR_g (k := 1) (c2 := 0) r237 (fun e => (hf252 56 11 rfl).symm.trans e) (fun i => hf252 60 i rfl) (fun e => by omega) (by decide)
          refine Jcv0 hx237 (show mx_Sn _ _ 60 (mx_callv 162 1 12 63) from sn_171 60) a56 s56 hc252 rfl rfl rfl ?_
          refine mx_J.step (sn_171 63) (fun _ _ => rfl) ?_
          have b266 : 0 ≤ Z252 56 6 ∧ Z252 56 6 ≤ 900 := hG252.pr 56 6
          have b267 : 0 ≤ Z252 56 7 ∧ Z252 56 7 ≤ 900 := hG252.pr 56 7
          have b268 : 0 ≤ Z252 56 6 ∧ Z252 56 6 ≤ 900 := hG252.pr 56 6
          have b269 : 0 ≤ Z252 56 7 ∧ Z252 56 7 ≤ 900 := hG252.pr 56 7
          have b270 : 0 ≤ Z252 56 9 ∧ Z252 56 9 ≤ 100 := hG252.pr 56 9
          have b271 : 0 ≤ Z252 56 6 ∧ Z252 56 6 ≤ 900 := hG252.pr 56 6
          have eq272 : Z252 60 61 = Z237 60 61 := (hf252 60 61 rfl)
          have b273 : 0 ≤ Z237 60 61 ∧ Z237 60 61 ≤ 900 := by have hq := GI_ex hG237 60 61; replace hq : f60 (61 % 962) (Z237 60 61) := hq; unfold f60 at hq; omega
          have b274 : (-2147483648) ≤ Z237 60 61 ∧ Z237 60 61 ≤ 2147483647 := hG237.pr 60 61
          have eq275 : Z252 60 1 = Z237 60 1 := (hf252 60 1 rfl)
          have b276 : 0 ≤ Z237 60 1 ∧ Z237 60 1 ≤ 18 := by have hq := GI_ex hG237 60 1; replace hq : f60 (1 % 962) (Z237 60 1) := hq; unfold f60 at hq; omega
          have b277 : (-2147483648) ≤ Z237 60 1 ∧ Z237 60 1 ≤ 2147483647 := hG237.pr 60 1
          have eq278 : Z252 60 2 = Z237 60 2 := (hf252 60 2 rfl)
          have b279 : 0 ≤ Z237 60 2 ∧ Z237 60 2 ≤ 18 := by have hq := GI_ex hG237 60 2; replace hq : f60 (2 % 962) (Z237 60 2) := hq; unfold f60 at hq; omega
          have b280 : (-2147483648) ≤ Z237 60 2 ∧ Z237 60 2 ≤ 2147483647 := hG237.pr 60 2
          exact c129 Z252 h252 (by omega) (by omega) (by omega) (by omega) (QR_le r252 (by decide)) hx252 hG252 (fr_tr (M := [(56, 6), (56, 7), (56, 9), (56, 10), (56, 11), (56, 12), (60, (-1))]) (fr_tr (M := [(56, 6), (56, 7), (56, 9), (56, 10), (56, 11), (56, 12), (60, (-1))]) fr_rf (hf237) (M1 := []) rfl rfl) (hf252) rfl rfl)
    · skip
      refine mx_J.step (sn_171 9) (fun _ _ => rfl) ?_
      refine mx_J.step (sn_171 10) (fun _ _ => rfl) ?_
      have b282 : 0 ≤ Z 56 10 ∧ Z 56 10 ≤ 999 := hG.pr 56 10
      refine JgetI (g := 10) (z := Z 56 10) hx (show mx_Sn _ _ 11 (mx_getf 12 10 14) from sn_171 11) a56 s56 rfl rfl rfl ?_
      have b284 : 0 ≤ Z 56 8 ∧ Z 56 8 ≤ 900 := hG.pr 56 8
      have b285 : 0 ≤ Z 56 11 ∧ Z 56 11 ≤ 4 := hG.pr 56 11
      have b286 : 0 ≤ Z 60 61 ∧ Z 60 61 ≤ 900 := by have hq := GI_ex hG 60 61; replace hq : f60 (61 % 962) (Z 60 61) := hq; unfold f60 at hq; omega
      have b287 : (-2147483648) ≤ Z 60 61 ∧ Z 60 61 ≤ 2147483647 := hG.pr 60 61
      have b288 : 0 ≤ Z 60 1 ∧ Z 60 1 ≤ 18 := by have hq := GI_ex hG 60 1; replace hq : f60 (1 % 962) (Z 60 1) := hq; unfold f60 at hq; omega
      have b289 : (-2147483648) ≤ Z 60 1 ∧ Z 60 1 ≤ 2147483647 := hG.pr 60 1
      have b290 : 0 ≤ Z 60 2 ∧ Z 60 2 ≤ 18 := by have hq := GI_ex hG 60 2; replace hq : f60 (2 % 962) (Z 60 2) := hq; unfold f60 at hq; omega
      have b291 : (-2147483648) ≤ Z 60 2 ∧ Z 60 2 ≤ 2147483647 := hG.pr 60 2
      have rp283 := QR_n (QR_rf (Z := Z) (a := a0))
      obtain ⟨Z283, h283, hc283, hx283, hG283, hf283, b283⟩ := ct_169_56_0 (a0 := a0) (d := d + 7) (l := l) (D := D) (b0 := b0) (ad := ad) (Hb := Hb) (tau := tau) hx hG (show 0 ≤ Z 56 10 ∧ Z 56 10 ≤ 1004 by omega) (show (Z 56 11 = 0 → Z 60 61 ≤ 899) by omega) (show a0 ≤ Z 60 61 by omega) (show 0 ≤ a0 by omega)
      obtain ⟨bq283, b283⟩ := b283
      have b292 : 0 ≤ Z283 60 61 ∧ Z283 60 61 ≤ 900 := by have hq := GI_ex hG283 60 61; replace hq : f60 (61 % 962) (Z283 60 61) := hq; unfold f60 at hq; omega
      have b293 : (-2147483648) ≤ Z283 60 61 ∧ Z283 60 61 ≤ 2147483647 := hG283.pr 60 61
      have b294 : 0 ≤ Z283 60 1 ∧ Z283 60 1 ≤ 18 := by have hq := GI_ex hG283 60 1; replace hq : f60 (1 % 962) (Z283 60 1) := hq; unfold f60 at hq; omega
      have b295 : (-2147483648) ≤ Z283 60 1 ∧ Z283 60 1 ≤ 2147483647 := hG283.pr 60 1
      have b296 : 0 ≤ Z283 60 2 ∧ Z283 60 2 ≤ 18 := by have hq := GI_ex hG283 60 2; replace hq : f60 (2 % 962) (Z283 60 2) := hq; unfold f60 at hq; omega
      have b297 : (-2147483648) ≤ Z283 60 2 ∧ Z283 60 2 ≤ 2147483647 := hG283.pr 60 2
      have rn283 := QR_n (QR_rf (Z := Z) (a := a0))
      have r283 := QR_c (d2 := 1) (c2 := (-1)) (QR_rf (Z := Z) (a := a0)) bq283 (by omega) (hf283 56 11 rfl) (hf283 56 6 rfl) (by decide) (by decide) (by decide)
      refine Jcv0 hx (show mx_Sn _ _ 14 (mx_callv 169 2 12 17) from sn_171 14) a56 s56 hc283 rfl rfl rfl ?_
      refine mx_J.step (sn_171 17) (fun _ _ => rfl) ?_
      have eq299 : Z283 56 7 = Z 56 7 := (hf283 56 7 rfl)
      have b300 : 0 ≤ Z 56 7 ∧ Z 56 7 ≤ 900 := hG.pr 56 7
      have eq301 : Z283 56 8 = Z 56 8 := (hf283 56 8 rfl)
      have b302 : 0 ≤ Z 56 8 ∧ Z 56 8 ≤ 900 := hG.pr 56 8
      obtain ⟨Z298, h298, hc298, hx298, hG298, hf298, b298⟩ := ct_162_56 (d := d + 2) (l := l) (D := D) (b0 := b0) (ad := ad) (Hb := Hb) (tau := tau) hx283 hG283  (show Z283 56 7 ≤ Z283 56 8 by first | omega | (simp only [eq299, eq301]; omega))
      try rw [eq299] at b298
      try rw [eq301] at b298
      have b303 : 0 ≤ Z298 56 6 ∧ Z298 56 6 ≤ 900 := hG298.pr 56 6
      have b304 : 0 ≤ Z298 56 7 ∧ Z298 56 7 ≤ 900 := hG298.pr 56 7
      have b305 : 0 ≤ Z298 56 9 ∧ Z298 56 9 ≤ 100 := hG298.pr 56 9
      have eq306 : Z283 56 6 = Z 56 6 := (hf283 56 6 rfl)
      have b307 : 0 ≤ Z 56 6 ∧ Z 56 6 ≤ 900 := hG.pr 56 6
      have eq308 : Z283 56 11 = Z 56 11 := (hf283 56 11 rfl)
      have b309 : 0 ≤ Z 56 11 ∧ Z 56 11 ≤ 4 := hG.pr 56 11
      have eq310 : Z283 56 9 = Z 56 9 := (hf283 56 9 rfl)
      have b311 : 0 ≤ Z 56 9 ∧ Z 56 9 ≤ 100 := hG.pr 56 9
      have r298 := QR_g (k := 1) (c2 := 0) r283 (fun e => (hf298 56 11 rfl).symm.trans e) (fun i => hf298 60 i rfl) (fun e => by omega) (by decide)
      refine Jcv0 hx283 (show mx_Sn _ _ 18 (mx_callv 162 1 12 21) from sn_171 18) a56 s56 hc298 rfl rfl rfl ?_
      refine mx_J.step (sn_171 21) (fun _ _ => rfl) ?_
      have b312 : 0 ≤ Z298 56 6 ∧ Z298 56 6 ≤ 900 := hG298.pr 56 6
      have b313 : 0 ≤ Z298 56 7 ∧ Z298 56 7 ≤ 900 := hG298.pr 56 7
      have b314 : 0 ≤ Z298 56 6 ∧ Z298 56 6 ≤ 900 := hG298.pr 56 6
      have b315 : 0 ≤ Z298 56 7 ∧ Z298 56 7 ≤ 900 := hG298.pr 56 7
      have b316 : 0 ≤ Z298 56 9 ∧ Z298 56 9 ≤ 100 := hG298.pr 56 9
      have b317 : 0 ≤ Z298 56 6 ∧ Z298 56 6 ≤ 900 := hG298.pr 56 6
      have eq318 : Z298 60 61 = Z283 60 61 := (hf298 60 61 rfl)
      have b319 : 0 ≤ Z283 60 61 ∧ Z283 60 61 ≤ 900 := by have hq := GI_ex hG283 60 61; replace hq : f60 (61 % 962) (Z283 60 61) := hq; unfold f60 at hq; omega
      have b320 : (-2147483648) ≤ Z283 60 61 ∧ Z283 60 61 ≤ 2147483647 := hG283.pr 60 61
      have eq321 : Z298 60 1 = Z283 60 1 := (hf298 60 1 rfl)
      have b322 : 0 ≤ Z283 60 1 ∧ Z283 60 1 ≤ 18 := by have hq := GI_ex hG283 60 1; replace hq : f60 (1 % 962) (Z283 60 1) := hq; unfold f60 at hq; omega
      have b323 : (-2147483648) ≤ Z283 60 1 ∧ Z283 60 1 ≤ 2147483647 := hG283.pr 60 1
      have eq324 : Z298 60 2 = Z283 60 2 := (hf298 60 2 rfl)
      have b325 : 0 ≤ Z283 60 2 ∧ Z283 60 2 ≤ 18 := by have hq := GI_ex hG283 60 2; replace hq : f60 (2 % 962) (Z283 60 2) := hq; unfold f60 at hq; omega
      have b326 : (-2147483648) ≤ Z283 60 2 ∧ Z283 60 2 ≤ 2147483647 := hG283.pr 60 2
      exact c129 Z298 h298 (by omega) (by omega) (by omega) (by omega) (QR_le r298 (by decide)) hx298 hG298 (fr_tr (M := [(56, 6), (56, 7), (56, 9), (56, 10), (56, 11), (56, 12), (60, (-1))]) (fr_tr (M := [(56, 6), (56, 7), (56, 9), (56, 10), (56, 11), (56, 12), (60, (-1))]) fr_rf (hf283) (M1 := []) rfl rfl) (hf298) rfl rfl)
theorem ct_171_56_s {l : Launch} {D : va_G} {b0 : Nat} {ad : Nat → Nat} {Hb : Heap} {tau : Nat → Int64} {d n s : Nat} {S : Nat → xS} {Z : xZ} {h : mx_H} {a0 : Int} (hx : XH n s S Z h) (hG : GI n S Z)  {x0 : Int} (p0 : 0 ≤ x0 ∧ x0 ≤ 6) (k0 : (Z 56 6 ≤ Z 56 7 ∧ Z 56 7 ≤ Z 56 8 ∧ (Z 56 9 = 24 ∨ Z 56 6 < Z 56 7))) (k1 : Z 60 61 ≤ Z 56 6) (k2 : a0 ≤ Z 60 61) (k3 : 0 ≤ a0) {kk : Nat} (IH : RBmh l D b0 ad Hb tau kk x0) (hd : kk ≤ d) : ∃ (Z' : xZ) (h' : mx_H), mx_Ca (tB l D b0 ad Hb tau) (d + 9) 171 [.ref 56, xI x0] h (none, h') ∧ XH n s S Z' h' ∧ GI n S Z' ∧ fr' [(56, 6), (56, 7), (56, 9), (56, 10), (56, 11), (56, 12), (60, (-1))] Z Z' ∧ (QR Z Z' a0 1 0 ∧ ((Z' 56 6 ≤ Z' 56 7 ∧ Z' 56 7 ≤ Z 56 8 ∧ (Z' 56 9 = 24 ∨ Z' 56 6 < Z' 56 7)) ∧ Z' 60 1 = Z 60 1 ∧ Z' 60 2 = Z 60 2 ∧ Z 56 6 ≤ Z' 56 6 ∧ Z 60 61 ≤ Z' 60 61 ∧ Z' 60 61 - Z 60 61 ≤ Z' 56 6 - Z 56 6)) := by
  obtain ⟨r, hca, Z', h', e, q⟩ := Jmt (B := tB l D b0 ad Hb tau) (M := mt_171) (mi := 171) (as := [.ref 56, xI x0]) (d := d + 8) (ls := [some (.ref 56), some (xI x0)]) rfl rfl rfl rfl rfl rfl (cw_171_56_s (l := l) (D := D) (b0 := b0) (ad := ad) (Hb := Hb) (tau := tau) (d := d) (Post := fun r => ∃ (Z' : xZ) (h' : mx_H), r = (none, h') ∧ XH n s S Z' h' ∧ GI n S Z' ∧ fr' [(56, 6), (56, 7), (56, 9), (56, 10), (56, 11), (56, 12), (60, (-1))] Z Z' ∧ (QR Z Z' a0 1 0 ∧ ((Z' 56 6 ≤ Z' 56 7 ∧ Z' 56 7 ≤ Z 56 8 ∧ (Z' 56 9 = 24 ∨ Z' 56 6 < Z' 56 7)) ∧ Z' 60 1 = Z 60 1 ∧ Z' 60 2 = Z 60 2 ∧ Z 56 6 ≤ Z' 56 6 ∧ Z 60 61 ≤ Z' 60 61 ∧ Z' 60 61 - Z 60 61 ≤ Z' 56 6 - Z 56 6))) hx hG p0 k0 k1 k2 k3 IH hd (fun Z' h' q1 q2 q3 q4 => ⟨Z', h', rfl, q1, q2, q3, q4⟩))
  subst e; exact ⟨Z', h', hca, q⟩
set_option maxHeartbeats 8000000 in
set_option maxRecDepth 100000 in
theorem cw_173_56_s {l : Launch} {D : va_G} {b0 : Nat} {ad : Nat → Nat} {Hb : Heap} {tau : Nat → Int64} {d n s : Nat} {S : Nat → xS} {Z : xZ} {h : mx_H} {Post : mx_R → Prop} {a0 : Int} (hx : XH n s S Z h) (hG : GI n S Z)  {x0 : Int} (p0 : 0 ≤ x0 ∧ x0 ≤ 6) (k0 : (Z 56 6 ≤ Z 56 7 ∧ Z 56 7 ≤ Z 56 8 ∧ (Z 56 9 = 24 ∨ Z 56 6 < Z 56 7))) (k1 : Z 60 61 ≤ Z 56 6) (k2 : a0 ≤ Z 60 61) (k3 : 0 ≤ a0) {kk : Nat} (IH : RBmh l D b0 ad Hb tau kk x0) (hd : kk ≤ d) (hP : ∀ (Z' : xZ) (h' : mx_H), XH n s S Z' h' → GI n S Z' → fr' [(56, 6), (56, 7), (56, 9), (56, 10), (56, 11), (56, 12), (60, (-1))] Z Z' → QR Z Z' a0 1 0 ∧ ((Z' 56 6 ≤ Z' 56 7 ∧ Z' 56 7 ≤ Z 56 8 ∧ (Z' 56 9 = 24 ∨ Z' 56 6 < Z' 56 7)) ∧ Z' 60 1 = Z 60 1 ∧ Z' 60 2 = Z 60 2 ∧ Z 56 6 ≤ Z' 56 6 ∧ Z 60 61 ≤ Z' 60 61 ∧ Z' 60 61 - Z 60 61 ≤ Z' 56 6 - Z 56 6) → Post (none, h')) : mx_J (tB l D b0 ad Hb tau) mt_173 (d + 9) 0 [some (.ref 56), some (xI x0)] [] h Post := by
    have a56 : 56 < n := lt83 (GI_n hG) rfl
    have s56 : S 56 = .inl (12, [0, 2, 2, 2, 2, 0, 0, 0, 0, 0, 0, 0, 0, 0, 0, 2, 2, 2, 0, 2, 2, 2, 0, 0, 2, 2, 2, 2, 2, 2, 0, 0, 2, 2, 2, 2, 2, 2, 2, 2, 2, 2]) := GI_s hG 56 rfl
    refine mx_J.step (sn_173 0) (fun _ _ => rfl) ?_
    refine mx_J.step (sn_173 1) (fun _ _ => rfl) ?_
    have b2 : 0 ≤ Z 56 6 ∧ Z 56 6 ≤ 900 := hG.pr 56 6
    have b3 : 0 ≤ Z 56 7 ∧ Z 56 7 ≤ 900 := hG.pr 56 7
    have b4 : 0 ≤ Z 56 8 ∧ Z 56 8 ≤ 900 := hG.pr 56 8
    have b5 : 0 ≤ Z 56 9 ∧ Z 56 9 ≤ 100 := hG.pr 56 9
    have b6 : 0 ≤ Z 56 11 ∧ Z 56 11 ≤ 4 := hG.pr 56 11
    have b7 : 0 ≤ Z 60 61 ∧ Z 60 61 ≤ 900 := by have hq := GI_ex hG 60 61; replace hq : f60 (61 % 962) (Z 60 61) := hq; unfold f60 at hq; omega
    have b8 : (-2147483648) ≤ Z 60 61 ∧ Z 60 61 ≤ 2147483647 := hG.pr 60 61
    have b9 : 0 ≤ Z 60 1 ∧ Z 60 1 ≤ 18 := by have hq := GI_ex hG 60 1; replace hq : f60 (1 % 962) (Z 60 1) := hq; unfold f60 at hq; omega
    have b10 : (-2147483648) ≤ Z 60 1 ∧ Z 60 1 ≤ 2147483647 := hG.pr 60 1
    have b11 : 0 ≤ Z 60 2 ∧ Z 60 2 ≤ 18 := by have hq := GI_ex hG 60 2; replace hq : f60 (2 % 962) (Z 60 2) := hq; unfold f60 at hq; omega
    have b12 : (-2147483648) ≤ Z 60 2 ∧ Z 60 2 ≤ 2147483647 := hG.pr 60 2
    obtain ⟨Z1, h1, hc1, hx1, hG1, hf1, b1⟩ := ct_171_56_s (a0 := a0) (d := d + 0) (l := l) (D := D) (b0 := b0) (ad := ad) (Hb := Hb) (tau := tau) hx hG (show 0 ≤ x0 ∧ x0 ≤ 6 by omega) (show (Z 56 6 ≤ Z 56 7 ∧ Z 56 7 ≤ Z 56 8 ∧ (Z 56 9 = 24 ∨ Z 56 6 < Z 56 7)) by omega) (show Z 60 61 ≤ Z 56 6 by omega) (show a0 ≤ Z 60 61 by omega) (show 0 ≤ a0 by omega) IH (by omega)
    obtain ⟨bq1, b1⟩ := b1
    have b13 : 0 ≤ Z1 56 6 ∧ Z1 56 6 ≤ 900 := hG1.pr 56 6
    have b14 : 0 ≤ Z1 56 7 ∧ Z1 56 7 ≤ 900 := hG1.pr 56 7
    have b15 : 0 ≤ Z1 56 9 ∧ Z1 56 9 ≤ 100 := hG1.pr 56 9
    have b16 : 0 ≤ Z1 56 11 ∧ Z1 56 11 ≤ 4 := hG1.pr 56 11
    have b17 : 0 ≤ Z1 60 61 ∧ Z1 60 61 ≤ 900 := by have hq := GI_ex hG1 60 61; replace hq : f60 (61 % 962) (Z1 60 61) := hq; unfold f60 at hq; omega
    have b18 : (-2147483648) ≤ Z1 60 61 ∧ Z1 60 61 ≤ 2147483647 := hG1.pr 60 61
    have b19 : 0 ≤ Z1 60 1 ∧ Z1 60 1 ≤ 18 := by have hq := GI_ex hG1 60 1; replace hq : f60 (1 % 962) (Z1 60 1) := hq; unfold f60 at hq; omega
    have b20 : (-2147483648) ≤ Z1 60 1 ∧ Z1 60 1 ≤ 2147483647 := hG1.pr 60 1
    have b21 : 0 ≤ Z1 60 2 ∧ Z1 60 2 ≤ 18 := by have hq := GI_ex hG1 60 2; replace hq : f60 (2 % 962) (Z1 60 2) := hq; unfold f60 at hq; omega
    have b22 : (-2147483648) ≤ Z1 60 2 ∧ Z1 60 2 ≤ 2147483647 := hG1.pr 60 2
    have r1 := QR_tr (d := 1) (c := 0) (QR_rf (Z := Z) (a := a0)) bq1 (by decide) (by decide) (by decide)
    refine Jcv0 hx (show mx_Sn _ _ 2 (mx_callv 171 2 12 5) from sn_173 2) a56 s56 hc1 rfl rfl rfl ?_
    have c5 : ∀ (m23 : Nat)  (Z24 : xZ) (h24 : mx_H), (((Z 56 8 - Z24 56 6).toNat : Nat) : Int) < (m23 : Int) → (Z24 56 6 ≤ Z24 56 7 ∧ Z24 56 7 ≤ Z 56 8) → (Z24 56 9 = 24 ∨ Z24 56 6 < Z24 56 7) → (Z 56 6 ≤ Z24 56 6 ∧ Z 60 61 ≤ Z24 60 61 ∧ Z24 60 61 - Z 60 61 ≤ Z24 56 6 - Z 56 6) → (Z24 60 1 = Z 60 1 ∧ Z24 60 2 = Z 60 2) → QR Z Z24 a0 1 0 → XH n s S Z24 h24 → GI n S Z24 → fr' [(56, 6), (56, 7), (56, 9), (56, 10), (56, 11), (56, 12), (60, (-1))] Z1 Z24 → mx_J (tB l D b0 ad Hb tau) mt_173 (d + 9) 5 [some (.ref 56), some (xI x0)] [] h24 Post := by
      intro m23
      induction m23 with
      | zero => intro Z24 h24 q23 f23_0 f23_1 f23_2 f23_3 f23_4 hx24 hG24 hf24; exact absurd q23 (by omega)
      | succ m23 ih23 =>
        intro Z24 h24 q23 f23_0 f23_1 f23_2 f23_3 f23_4 hx24 hG24 hf24
        have b25 : 0 ≤ Z24 56 6 ∧ Z24 56 6 ≤ 900 := hG24.pr 56 6
        have b26 : 0 ≤ Z24 56 7 ∧ Z24 56 7 ≤ 900 := hG24.pr 56 7
        have b27 : 0 ≤ Z24 56 6 ∧ Z24 56 6 ≤ 900 := hG24.pr 56 6
        have b28 : 0 ≤ Z24 56 7 ∧ Z24 56 7 ≤ 900 := hG24.pr 56 7
        have b29 : 0 ≤ Z24 56 9 ∧ Z24 56 9 ≤ 100 := hG24.pr 56 9
        have b30 : 0 ≤ Z24 56 6 ∧ Z24 56 6 ≤ 900 := hG24.pr 56 6
        have b31 : 0 ≤ Z24 60 61 ∧ Z24 60 61 ≤ 900 := by have hq := GI_ex hG24 60 61; replace hq : f60 (61 % 962) (Z24 60 61) := hq; unfold f60 at hq; omega
        have b32 : (-2147483648) ≤ Z24 60 61 ∧ Z24 60 61 ≤ 2147483647 := hG24.pr 60 61
        have b33 : 0 ≤ Z24 60 1 ∧ Z24 60 1 ≤ 18 := by have hq := GI_ex hG24 60 1; replace hq : f60 (1 % 962) (Z24 60 1) := hq; unfold f60 at hq; omega
        have b34 : (-2147483648) ≤ Z24 60 1 ∧ Z24 60 1 ≤ 2147483647 := hG24.pr 60 1
        have b35 : 0 ≤ Z24 60 2 ∧ Z24 60 2 ≤ 18 := by have hq := GI_ex hG24 60 2; replace hq : f60 (2 % 962) (Z24 60 2) := hq; unfold f60 at hq; omega
        have b36 : (-2147483648) ≤ Z24 60 2 ∧ Z24 60 2 ≤ 2147483647 := hG24.pr 60 2
        have b37 : 0 ≤ Z24 56 6 ∧ Z24 56 6 ≤ 900 := hG24.pr 56 6
        refine mx_J.step (sn_173 5) (fun _ _ => rfl) ?_
        refine JcI (z := 34) (show mx_Sn _ _ 6 (mx_const (.int 34) 8) from sn_173 6) rfl ?_
        have b39 : 0 ≤ Z24 56 6 ∧ Z24 56 6 ≤ 900 := hG24.pr 56 6
        have b40 : 0 ≤ Z24 56 7 ∧ Z24 56 7 ≤ 900 := hG24.pr 56 7
        have eq41 : Z24 56 8 = Z 56 8 := ((hf24 56 8 rfl).trans (hf1 56 8 rfl))
        have b42 : 0 ≤ Z 56 8 ∧ Z 56 8 ≤ 900 := hG.pr 56 8
        have b43 : 0 ≤ Z24 56 9 ∧ Z24 56 9 ≤ 100 := hG24.pr 56 9
        have b44 : 0 ≤ Z24 56 11 ∧ Z24 56 11 ≤ 4 := hG24.pr 56 11
        obtain ⟨z38, Z38, h38, hc38, hx38, hG38, hf38, b38⟩ := ct_165_56 (d := d + 2) (l := l) (D := D) (b0 := b0) (ad := ad) (Hb := Hb) (tau := tau) hx24 hG24 (show 0 ≤ 34 ∧ 34 ≤ 100 by omega) (show (Z24 56 6 ≤ Z24 56 7 ∧ Z24 56 7 ≤ Z24 56 8 ∧ (Z24 56 9 = 24 ∨ Z24 56 6 < Z24 56 7)) by first | omega | (simp only [eq41]; omega)) (show ¬ 34 = 24 by first | omega | (simp only [eq41]; omega))
        try rw [eq41] at b38
        have b45 : 0 ≤ Z38 56 6 ∧ Z38 56 6 ≤ 900 := hG38.pr 56 6
        have b46 : 0 ≤ Z38 56 7 ∧ Z38 56 7 ≤ 900 := hG38.pr 56 7
        have b47 : 0 ≤ Z38 56 9 ∧ Z38 56 9 ≤ 100 := hG38.pr 56 9
        have b48 : 0 ≤ Z24 56 6 ∧ Z24 56 6 ≤ 900 := hG24.pr 56 6
        have b49 : 0 ≤ Z24 56 11 ∧ Z24 56 11 ≤ 4 := hG24.pr 56 11
        have b50 : 0 ≤ Z24 56 9 ∧ Z24 56 9 ≤ 100 := hG24.pr 56 9
        have r38 := QR_g (k := 0) (c2 := 0) f23_4 (fun e => (hf38 56 11 rfl).symm.trans e) (fun i => hf38 60 i rfl) (fun e => by omega) (by decide)
        have rk38 : z38 = 1 → QR Z Z38 a0 1 1 := fun ez => QR_g (k := 1) f23_4 (fun e => (hf38 56 11 rfl).symm.trans e) (fun i => hf38 60 i rfl) (fun e => by omega) (by decide)
        refine Jcv hx24 (show mx_Sn _ _ 8 (mx_callv 165 2 12 11) from sn_173 8) a56 s56 hc38 rfl rfl rfl ?_
        refine Jif_eq (show mx_Sn _ _ 11 (mx_if_eq 29 14) from sn_173 11) (by omega) (fun q51 => ?_) (fun q51 => ?_)
        · skip
          have b52 : 0 ≤ Z38 56 6 ∧ Z38 56 6 ≤ 900 := hG38.pr 56 6
          have b53 : 0 ≤ Z38 56 7 ∧ Z38 56 7 ≤ 900 := hG38.pr 56 7
          have b54 : 0 ≤ Z38 56 9 ∧ Z38 56 9 ≤ 100 := hG38.pr 56 9
          have eq55 : Z38 56 11 = Z24 56 11 := (hf38 56 11 rfl)
          have b56 : 0 ≤ Z24 56 11 ∧ Z24 56 11 ≤ 4 := hG24.pr 56 11
          have eq57 : Z38 60 61 = Z24 60 61 := (hf38 60 61 rfl)
          have b58 : 0 ≤ Z24 60 61 ∧ Z24 60 61 ≤ 900 := by have hq := GI_ex hG24 60 61; replace hq : f60 (61 % 962) (Z24 60 61) := hq; unfold f60 at hq; omega
          have b59 : (-2147483648) ≤ Z24 60 61 ∧ Z24 60 61 ≤ 2147483647 := hG24.pr 60 61
          have eq60 : Z38 60 1 = Z24 60 1 := (hf38 60 1 rfl)
          have b61 : 0 ≤ Z24 60 1 ∧ Z24 60 1 ≤ 18 := by have hq := GI_ex hG24 60 1; replace hq : f60 (1 % 962) (Z24 60 1) := hq; unfold f60 at hq; omega
          have b62 : (-2147483648) ≤ Z24 60 1 ∧ Z24 60 1 ≤ 2147483647 := hG24.pr 60 1
          have eq63 : Z38 60 2 = Z24 60 2 := (hf38 60 2 rfl)
          have b64 : 0 ≤ Z24 60 2 ∧ Z24 60 2 ≤ 18 := by have hq := GI_ex hG24 60 2; replace hq : f60 (2 % 962) (Z24 60 2) := hq; unfold f60 at hq; omega
          have b65 : (-2147483648) ≤ Z24 60 2 ∧ Z24 60 2 ≤ 2147483647 := hG24.pr 60 2
          have b66 : 0 ≤ Z38 56 6 ∧ Z38 56 6 ≤ 900 := hG38.pr 56 6
          have b67 : 0 ≤ Z38 56 7 ∧ Z38 56 7 ≤ 900 := hG38.pr 56 7
          have eq68 : Z38 56 8 = Z 56 8 := ((hf38 56 8 rfl).trans ((hf24 56 8 rfl).trans (hf1 56 8 rfl)))
          have b69 : 0 ≤ Z 56 8 ∧ Z 56 8 ≤ 900 := hG.pr 56 8
          have b70 : 0 ≤ Z38 56 9 ∧ Z38 56 9 ≤ 100 := hG38.pr 56 9
          have eq71 : Z38 56 11 = Z24 56 11 := (hf38 56 11 rfl)
          have b72 : 0 ≤ Z24 56 11 ∧ Z24 56 11 ≤ 4 := hG24.pr 56 11
          have eq73 : Z38 60 61 = Z24 60 61 := (hf38 60 61 rfl)
          have b74 : 0 ≤ Z24 60 61 ∧ Z24 60 61 ≤ 900 := by have hq := GI_ex hG24 60 61; replace hq : f60 (61 % 962) (Z24 60 61) := hq; unfold f60 at hq; omega
          have b75 : (-2147483648) ≤ Z24 60 61 ∧ Z24 60 61 ≤ 2147483647 := hG24.pr 60 61
          have eq76 : Z38 60 1 = Z24 60 1 := (hf38 60 1 rfl)
          have b77 : 0 ≤ Z24 60 1 ∧ Z24 60 1 ≤ 18 := by have hq := GI_ex hG24 60 1; replace hq : f60 (1 % 962) (Z24 60 1) := hq; unfold f60 at hq; omega
          have b78 : (-2147483648) ≤ Z24 60 1 ∧ Z24 60 1 ≤ 2147483647 := hG24.pr 60 1
          have eq79 : Z38 60 2 = Z24 60 2 := (hf38 60 2 rfl)
          have b80 : 0 ≤ Z24 60 2 ∧ Z24 60 2 ≤ 18 := by have hq := GI_ex hG24 60 2; replace hq : f60 (2 % 962) (Z24 60 2) := hq; unfold f60 at hq; omega
          have b81 : (-2147483648) ≤ Z24 60 2 ∧ Z24 60 2 ≤ 2147483647 := hG24.pr 60 2
          exact mx_J.ret (sn_173 29) (fun _ _ => rfl) (hP Z38 h38 hx38 hG38 (fr_tr (M := [(56, 6), (56, 7), (56, 9), (56, 10), (56, 11), (56, 12), (60, (-1))]) (fr_tr (M := [(56, 6), (56, 7), (56, 9), (56, 10), (56, 11), (56, 12), (60, (-1))]) (fr_tr (M := [(56, 6), (56, 7), (56, 9), (56, 10), (56, 11), (56, 12), (60, (-1))]) fr_rf (hf1) (M1 := []) rfl rfl) (hf24) rfl rfl) (hf38) rfl rfl) ⟨(QR_le r38 (by decide)), by omega⟩)
        · skip
          refine mx_J.step (sn_173 14) (fun _ _ => rfl) ?_
          refine mx_J.step (sn_173 15) (fun _ _ => rfl) ?_
          have b83 : 0 ≤ Z38 56 6 ∧ Z38 56 6 ≤ 900 := hG38.pr 56 6
          have b84 : 0 ≤ Z38 56 7 ∧ Z38 56 7 ≤ 900 := hG38.pr 56 7
          have eq85 : Z38 56 8 = Z 56 8 := ((hf38 56 8 rfl).trans ((hf24 56 8 rfl).trans (hf1 56 8 rfl)))
          have b86 : 0 ≤ Z 56 8 ∧ Z 56 8 ≤ 900 := hG.pr 56 8
          have b87 : 0 ≤ Z38 56 9 ∧ Z38 56 9 ≤ 100 := hG38.pr 56 9
          have eq88 : Z38 56 11 = Z24 56 11 := (hf38 56 11 rfl)
          have b89 : 0 ≤ Z24 56 11 ∧ Z24 56 11 ≤ 4 := hG24.pr 56 11
          have eq90 : Z38 60 61 = Z24 60 61 := (hf38 60 61 rfl)
          have b91 : 0 ≤ Z24 60 61 ∧ Z24 60 61 ≤ 900 := by have hq := GI_ex hG24 60 61; replace hq : f60 (61 % 962) (Z24 60 61) := hq; unfold f60 at hq; omega
          have b92 : (-2147483648) ≤ Z24 60 61 ∧ Z24 60 61 ≤ 2147483647 := hG24.pr 60 61
          have eq93 : Z38 60 1 = Z24 60 1 := (hf38 60 1 rfl)
          have b94 : 0 ≤ Z24 60 1 ∧ Z24 60 1 ≤ 18 := by have hq := GI_ex hG24 60 1; replace hq : f60 (1 % 962) (Z24 60 1) := hq; unfold f60 at hq; omega
          have b95 : (-2147483648) ≤ Z24 60 1 ∧ Z24 60 1 ≤ 2147483647 := hG24.pr 60 1
          have eq96 : Z38 60 2 = Z24 60 2 := (hf38 60 2 rfl)
          have b97 : 0 ≤ Z24 60 2 ∧ Z24 60 2 ≤ 18 := by have hq := GI_ex hG24 60 2; replace hq : f60 (2 % 962) (Z24 60 2) := hq; unfold f60 at hq; omega
          have b98 : (-2147483648) ≤ Z24 60 2 ∧ Z24 60 2 ≤ 2147483647 := hG24.pr 60 2
          obtain ⟨Z82, h82, hc82, hx82, hG82, hf82, b82⟩ := ct_171_56_s (a0 := a0) (d := d + 0) (l := l) (D := D) (b0 := b0) (ad := ad) (Hb := Hb) (tau := tau) hx38 hG38 (show 0 ≤ x0 ∧ x0 ≤ 6 by omega) (show (Z38 56 6 ≤ Z38 56 7 ∧ Z38 56 7 ≤ Z38 56 8 ∧ (Z38 56 9 = 24 ∨ Z38 56 6 < Z38 56 7)) by first | omega | (simp only [eq85, eq88, eq90, eq93, eq96]; omega)) (show Z38 60 61 ≤ Z38 56 6 by first | omega | (simp only [eq85, eq88, eq90, eq93, eq96]; omega)) (show a0 ≤ Z38 60 61 by first | omega | (simp only [eq85, eq88, eq90, eq93, eq96]; omega)) (show 0 ≤ a0 by first | omega | (simp only [eq85, eq88, eq90, eq93, eq96]; omega)) IH (by omega)
          try rw [eq85] at b82
          try rw [eq88] at b82
          try rw [eq90] at b82
          try rw [eq93] at b82
          try rw [eq96] at b82
          obtain ⟨bq82, b82⟩ := b82
          have b99 : 0 ≤ Z82 56 6 ∧ Z82 56 6 ≤ 900 := hG82.pr 56 6
          have b100 : 0 ≤ Z82 56 7 ∧ Z82 56 7 ≤ 900 := hG82.pr 56 7
          have b101 : 0 ≤ Z82 56 9 ∧ Z82 56 9 ≤ 100 := hG82.pr 56 9
          have b102 : 0 ≤ Z82 56 11 ∧ Z82 56 11 ≤ 4 := hG82.pr 56 11
          have b103 : 0 ≤ Z82 60 61 ∧ Z82 60 61 ≤ 900 := by have hq := GI_ex hG82 60 61; replace hq : f60 (61 % 962) (Z82 60 61) := hq; unfold f60 at hq; omega
          have b104 : (-2147483648) ≤ Z82 60 61 ∧ Z82 60 61 ≤ 2147483647 := hG82.pr 60 61
          have b105 : 0 ≤ Z82 60 1 ∧ Z82 60 1 ≤ 18 := by have hq := GI_ex hG82 60 1; replace hq : f60 (1 % 962) (Z82 60 1) := hq; unfold f60 at hq; omega
          have b106 : (-2147483648) ≤ Z82 60 1 ∧ Z82 60 1 ≤ 2147483647 := hG82.pr 60 1
          have b107 : 0 ≤ Z82 60 2 ∧ Z82 60 2 ≤ 18 := by have hq := GI_ex hG82 60 2; replace hq : f60 (2 % 962) (Z82 60 2) := hq; unfold f60 at hq; omega
          have b108 : (-2147483648) ≤ Z82 60 2 ∧ Z82 60 2 ≤ 2147483647 := hG82.pr 60 2
          have r82 := QR_tr (d := 2) (c := 1) (rk38 (by omega)) bq82 (by decide) (by decide) (by decide)
          refine Jcv0 hx38 (show mx_Sn _ _ 16 (mx_callv 171 2 12 19) from sn_173 16) a56 s56 hc82 rfl rfl rfl ?_
          refine mx_J.step (sn_173 19) (fun _ _ => rfl) ?_
          refine JcI (z := 3002) (show mx_Sn _ _ 20 (mx_const (.int 3002) 23) from sn_173 20) rfl ?_
          have eq110 : Z82 56 8 = Z 56 8 := ((hf82 56 8 rfl).trans ((hf38 56 8 rfl).trans ((hf24 56 8 rfl).trans (hf1 56 8 rfl))))
          have b111 : 0 ≤ Z 56 8 ∧ Z 56 8 ≤ 900 := hG.pr 56 8
          have b112 : 0 ≤ Z82 56 11 ∧ Z82 56 11 ≤ 4 := hG82.pr 56 11
          have b113 : 0 ≤ Z82 60 61 ∧ Z82 60 61 ≤ 900 := by have hq := GI_ex hG82 60 61; replace hq : f60 (61 % 962) (Z82 60 61) := hq; unfold f60 at hq; omega
          have b114 : (-2147483648) ≤ Z82 60 61 ∧ Z82 60 61 ≤ 2147483647 := hG82.pr 60 61
          have b115 : 0 ≤ Z82 60 1 ∧ Z82 60 1 ≤ 18 := by have hq := GI_ex hG82 60 1; replace hq : f60 (1 % 962) (Z82 60 1) := hq; unfold f60 at hq; omega
          have b116 : (-2147483648) ≤ Z82 60 1 ∧ Z82 60 1 ≤ 2147483647 := hG82.pr 60 1
          have b117 : 0 ≤ Z82 60 2 ∧ Z82 60 2 ≤ 18 := by have hq := GI_ex hG82 60 2; replace hq : f60 (2 % 962) (Z82 60 2) := hq; unfold f60 at hq; omega
          have b118 : (-2147483648) ≤ Z82 60 2 ∧ Z82 60 2 ≤ 2147483647 := hG82.pr 60 2
          have rp109 := QR_n r82
          obtain ⟨Z109, h109, hc109, hx109, hG109, hf109, b109⟩ := ct_169_56_3000 (a0 := a0) (d := d + 8) (l := l) (D := D) (b0 := b0) (ad := ad) (Hb := Hb) (tau := tau) hx82 hG82 (show 3000 ≤ 3002 ∧ 3002 ≤ 3005 by omega) (show (Z82 56 11 = 0 → Z82 60 61 ≤ 899) by first | omega | (simp only [eq110]; omega)) (show a0 ≤ Z82 60 61 by first | omega | (simp only [eq110]; omega)) (show 0 ≤ a0 by first | omega | (simp only [eq110]; omega))
          try rw [eq110] at b109
          obtain ⟨bq109, b109⟩ := b109
          have b119 : 0 ≤ Z109 60 61 ∧ Z109 60 61 ≤ 900 := by have hq := GI_ex hG109 60 61; replace hq : f60 (61 % 962) (Z109 60 61) := hq; unfold f60 at hq; omega
          have b120 : (-2147483648) ≤ Z109 60 61 ∧ Z109 60 61 ≤ 2147483647 := hG109.pr 60 61
          have b121 : 0 ≤ Z109 60 1 ∧ Z109 60 1 ≤ 18 := by have hq := GI_ex hG109 60 1; replace hq : f60 (1 % 962) (Z109 60 1) := hq; unfold f60 at hq; omega
          have b122 : (-2147483648) ≤ Z109 60 1 ∧ Z109 60 1 ≤ 2147483647 := hG109.pr 60 1
          have b123 : 0 ≤ Z109 60 2 ∧ Z109 60 2 ≤ 18 := by have hq := GI_ex hG109 60 2; replace hq : f60 (2 % 962) (Z109 60 2) := hq; unfold f60 at hq; omega
          have b124 : (-2147483648) ≤ Z109 60 2 ∧ Z109 60 2 ≤ 2147483647 := hG109.pr 60 2
          have rn109 := QR_n r82
          have r109 := QR_c (d2 := 1) (c2 := 0) r82 bq109 (by omega) (hf109 56 11 rfl) (hf109 56 6 rfl) (by decide) (by decide) (by decide)
          refine Jcv0 hx82 (show mx_Sn _ _ 23 (mx_callv 169 2 12 26) from sn_173 23) a56 s56 hc109 rfl rfl rfl ?_
          refine mx_J.step (sn_173 26) (fun _ _ => rfl) ?_
          have eq125 : Z109 56 6 = Z82 56 6 := (hf109 56 6 rfl)
          have b126 : 0 ≤ Z82 56 6 ∧ Z82 56 6 ≤ 900 := hG82.pr 56 6
          have eq127 : Z109 56 7 = Z82 56 7 := (hf109 56 7 rfl)
          have b128 : 0 ≤ Z82 56 7 ∧ Z82 56 7 ≤ 900 := hG82.pr 56 7
          have eq129 : Z109 56 6 = Z82 56 6 := (hf109 56 6 rfl)
          have b130 : 0 ≤ Z82 56 6 ∧ Z82 56 6 ≤ 900 := hG82.pr 56 6
          have eq131 : Z109 56 7 = Z82 56 7 := (hf109 56 7 rfl)
          have b132 : 0 ≤ Z82 56 7 ∧ Z82 56 7 ≤ 900 := hG82.pr 56 7
          have eq133 : Z109 56 9 = Z82 56 9 := (hf109 56 9 rfl)
          have b134 : 0 ≤ Z82 56 9 ∧ Z82 56 9 ≤ 100 := hG82.pr 56 9
          have eq135 : Z109 56 6 = Z82 56 6 := (hf109 56 6 rfl)
          have b136 : 0 ≤ Z82 56 6 ∧ Z82 56 6 ≤ 900 := hG82.pr 56 6
          have b137 : 0 ≤ Z109 60 61 ∧ Z109 60 61 ≤ 900 := by have hq := GI_ex hG109 60 61; replace hq : f60 (61 % 962) (Z109 60 61) := hq; unfold f60 at hq; omega
          have b138 : (-2147483648) ≤ Z109 60 61 ∧ Z109 60 61 ≤ 2147483647 := hG109.pr 60 61
          have b139 : 0 ≤ Z109 60 1 ∧ Z109 60 1 ≤ 18 := by have hq := GI_ex hG109 60 1; replace hq : f60 (1 % 962) (Z109 60 1) := hq; unfold f60 at hq; omega
          have b140 : (-2147483648) ≤ Z109 60 1 ∧ Z109 60 1 ≤ 2147483647 := hG109.pr 60 1
          have b141 : 0 ≤ Z109 60 2 ∧ Z109 60 2 ≤ 18 := by have hq := GI_ex hG109 60 2; replace hq : f60 (2 % 962) (Z109 60 2) := hq; unfold f60 at hq; omega
          have b142 : (-2147483648) ≤ Z109 60 2 ∧ Z109 60 2 ≤ 2147483647 := hG109.pr 60 2
          have eq143 : Z109 56 6 = Z82 56 6 := (hf109 56 6 rfl)
          have b144 : 0 ≤ Z82 56 6 ∧ Z82 56 6 ≤ 900 := hG82.pr 56 6
          exact ih23 Z109 h109 (by omega) (by omega) (by omega) (by omega) (by omega) (QR_le r109 (by decide)) hx109 hG109 (fr_tr (M := [(56, 6), (56, 7), (56, 9), (56, 10), (56, 11), (56, 12), (60, (-1))]) (fr_tr (M := [(56, 6), (56, 7), (56, 9), (56, 10), (56, 11), (56, 12), (60, (-1))]) (fr_tr (M := [(56, 6), (56, 7), (56, 9), (56, 10), (56, 11), (56, 12), (60, (-1))]) (fr_tr (M := [(56, 6), (56, 7), (56, 9), (56, 10), (56, 11), (56, 12), (60, (-1))]) fr_rf (hf24) (M1 := []) rfl rfl) (hf38) rfl rfl) (hf82) rfl rfl) (hf109) rfl rfl)
    have b145 : 0 ≤ Z1 56 6 ∧ Z1 56 6 ≤ 900 := hG1.pr 56 6
    have b146 : 0 ≤ Z1 56 7 ∧ Z1 56 7 ≤ 900 := hG1.pr 56 7
    have b147 : 0 ≤ Z1 56 6 ∧ Z1 56 6 ≤ 900 := hG1.pr 56 6
    have b148 : 0 ≤ Z1 56 7 ∧ Z1 56 7 ≤ 900 := hG1.pr 56 7
    have b149 : 0 ≤ Z1 56 9 ∧ Z1 56 9 ≤ 100 := hG1.pr 56 9
    have b150 : 0 ≤ Z1 56 6 ∧ Z1 56 6 ≤ 900 := hG1.pr 56 6
    have b151 : 0 ≤ Z1 60 61 ∧ Z1 60 61 ≤ 900 := by have hq := GI_ex hG1 60 61; replace hq : f60 (61 % 962) (Z1 60 61) := hq; unfold f60 at hq; omega
    have b152 : (-2147483648) ≤ Z1 60 61 ∧ Z1 60 61 ≤ 2147483647 := hG1.pr 60 61
    have b153 : 0 ≤ Z1 60 1 ∧ Z1 60 1 ≤ 18 := by have hq := GI_ex hG1 60 1; replace hq : f60 (1 % 962) (Z1 60 1) := hq; unfold f60 at hq; omega
    have b154 : (-2147483648) ≤ Z1 60 1 ∧ Z1 60 1 ≤ 2147483647 := hG1.pr 60 1
    have b155 : 0 ≤ Z1 60 2 ∧ Z1 60 2 ≤ 18 := by have hq := GI_ex hG1 60 2; replace hq : f60 (2 % 962) (Z1 60 2) := hq; unfold f60 at hq; omega
    have b156 : (-2147483648) ≤ Z1 60 2 ∧ Z1 60 2 ≤ 2147483647 := hG1.pr 60 2
    have b157 : 0 ≤ Z1 56 6 ∧ Z1 56 6 ≤ 900 := hG1.pr 56 6
    exact c5 (Int.toNat ((((Z 56 8 - Z1 56 6).toNat : Nat) : Int)) + 1) Z1 h1 (by omega) (by omega) (by omega) (by omega) (by omega) (QR_le r1 (by decide)) hx1 hG1 fr_rf
theorem ct_173_56_s {l : Launch} {D : va_G} {b0 : Nat} {ad : Nat → Nat} {Hb : Heap} {tau : Nat → Int64} {d n s : Nat} {S : Nat → xS} {Z : xZ} {h : mx_H} {a0 : Int} (hx : XH n s S Z h) (hG : GI n S Z)  {x0 : Int} (p0 : 0 ≤ x0 ∧ x0 ≤ 6) (k0 : (Z 56 6 ≤ Z 56 7 ∧ Z 56 7 ≤ Z 56 8 ∧ (Z 56 9 = 24 ∨ Z 56 6 < Z 56 7))) (k1 : Z 60 61 ≤ Z 56 6) (k2 : a0 ≤ Z 60 61) (k3 : 0 ≤ a0) {kk : Nat} (IH : RBmh l D b0 ad Hb tau kk x0) (hd : kk ≤ d) : ∃ (Z' : xZ) (h' : mx_H), mx_Ca (tB l D b0 ad Hb tau) (d + 10) 173 [.ref 56, xI x0] h (none, h') ∧ XH n s S Z' h' ∧ GI n S Z' ∧ fr' [(56, 6), (56, 7), (56, 9), (56, 10), (56, 11), (56, 12), (60, (-1))] Z Z' ∧ (QR Z Z' a0 1 0 ∧ ((Z' 56 6 ≤ Z' 56 7 ∧ Z' 56 7 ≤ Z 56 8 ∧ (Z' 56 9 = 24 ∨ Z' 56 6 < Z' 56 7)) ∧ Z' 60 1 = Z 60 1 ∧ Z' 60 2 = Z 60 2 ∧ Z 56 6 ≤ Z' 56 6 ∧ Z 60 61 ≤ Z' 60 61 ∧ Z' 60 61 - Z 60 61 ≤ Z' 56 6 - Z 56 6)) := by
  obtain ⟨r, hca, Z', h', e, q⟩ := Jmt (B := tB l D b0 ad Hb tau) (M := mt_173) (mi := 173) (as := [.ref 56, xI x0]) (d := d + 9) (ls := [some (.ref 56), some (xI x0)]) rfl rfl rfl rfl rfl rfl (cw_173_56_s (l := l) (D := D) (b0 := b0) (ad := ad) (Hb := Hb) (tau := tau) (d := d) (Post := fun r => ∃ (Z' : xZ) (h' : mx_H), r = (none, h') ∧ XH n s S Z' h' ∧ GI n S Z' ∧ fr' [(56, 6), (56, 7), (56, 9), (56, 10), (56, 11), (56, 12), (60, (-1))] Z Z' ∧ (QR Z Z' a0 1 0 ∧ ((Z' 56 6 ≤ Z' 56 7 ∧ Z' 56 7 ≤ Z 56 8 ∧ (Z' 56 9 = 24 ∨ Z' 56 6 < Z' 56 7)) ∧ Z' 60 1 = Z 60 1 ∧ Z' 60 2 = Z 60 2 ∧ Z 56 6 ≤ Z' 56 6 ∧ Z 60 61 ≤ Z' 60 61 ∧ Z' 60 61 - Z 60 61 ≤ Z' 56 6 - Z 56 6))) hx hG p0 k0 k1 k2 k3 IH hd (fun Z' h' q1 q2 q3 q4 => ⟨Z', h', rfl, q1, q2, q3, q4⟩))
  subst e; exact ⟨Z', h', hca, q⟩
