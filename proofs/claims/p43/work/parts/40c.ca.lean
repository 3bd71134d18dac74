set_option maxRecDepth 100000 in
theorem cw_74_32 {l : Launch} {D : va_G} {b0 : Nat} {ad : Nat → Nat} {Hb : Heap} {tau : Nat → Int64} {d n s : Nat} {S : Nat → xS} {Z : xZ} {h : mx_H} {Post : mx_R → Prop} (hx : XH n s S Z h) (hG : GI n S Z)  {x0 : Int} (p0 : 0 ≤ x0 ∧ x0 ≤ 6) (hP : ∀ (Z' : xZ) (h' : mx_H), XH n s S Z' h' → GI n S Z' → fr' [(14, (-1)), (15, (-1)), (16, (-1)), (17, (-1)), (18, (-1)), (19, (-1)), (33, (-1))] Z Z' → Post (none, h')) : mx_J (tB l D b0 ad Hb tau) mt_74 (d + 5) 0 [some (.ref 32), some (xI x0), none, none, none, none] [] h Post := by
    have a7 : 7 < n := lt83 (GI_n hG) rfl
    have s7 : S 7 = .inl (0, [2, 2, 2, 2, 0, 0]) := GI_s hG 7 rfl
    have a12 : 12 < n := lt83 (GI_n hG) rfl
    have s12 : S 12 = .inl (4, [2, 2, 0, 2, 2, 2, 2, 2, 2]) := GI_s hG 12 rfl
    have a32 : 32 < n := lt83 (GI_n hG) rfl
    have s32 : S 32 = .inl (9, [2, 2, 2]) := GI_s hG 32 rfl
    have a33 : 33 < n := lt83 (GI_n hG) rfl
    have s33 : S 33 = .inr (.long, 3850, 1) := GI_s hG 33 rfl
    refine mx_J.step (sn_74 0) (fun _ _ => rfl) ?_
    have c14 : ∀  (Z2 : xZ) (h2 : mx_H), XH n s S Z2 h2 → GI n S Z2 → fr' [(33, (-1))] Z Z2 → mx_J (tB l D b0 ad Hb tau) mt_74 (d + 5) 14 [some (.ref 32), some (xI x0), none, none, none, none] [] h2 Post := by
      intro Z2 h2 hx2 hG2 hf2
      exact mx_J.ret (sn_74 14) (fun _ _ => rfl) (hP Z2 h2 hx2 hG2 (fr_tr (M := [(14, (-1)), (15, (-1)), (16, (-1)), (17, (-1)), (18, (-1)), (19, (-1)), (33, (-1))]) fr_rf (hf2) (M1 := []) rfl rfl))
    refine Jif_lt (show mx_Sn _ _ 1 (mx_if_lt 14 4) from sn_74 1) (by omega) (fun q3 => ?_) (fun q3 => ?_)
    · skip
      exact c14 Z h hx hG fr_rf
    · skip
      refine mx_J.step (sn_74 4) (fun _ _ => rfl) ?_
      refine mx_J.step (sn_74 5) (fun _ _ => rfl) ?_
      refine JcI (z := 1) (show mx_Sn _ _ 6 (mx_const (.int 1) 7) from sn_74 6) rfl ?_
      refine Jiadd (show mx_Sn _ _ 7 (mx_iadd 8) from sn_74 7) ?_
      obtain ⟨z4, Z4, h4, hc4, hx4, hG4, hf4, b4⟩ := ct_72_32 (d := d + 4) (l := l) (D := D) (b0 := b0) (ad := ad) (Hb := Hb) (tau := tau) hx hG (show (-2147483648) ≤ x0 + 1 ∧ x0 + 1 ≤ 2147483647 by omega)
      refine Jcv hx (show mx_Sn _ _ 8 (mx_callv 72 2 9 11) from sn_74 8) a32 s32 hc4 rfl rfl rfl ?_
      refine Jif_ne (show mx_Sn _ _ 11 (mx_if_ne 15 14) from sn_74 11) (by omega) (fun q5 => ?_) (fun q5 => ?_)
      · skip
        refine mx_J.step (sn_74 15) (fun _ _ => rfl) ?_
        refine JcI (z := 385) (show mx_Sn _ _ 16 (mx_const (.int 385) 19) from sn_74 16) rfl ?_
        refine Jimul (show mx_Sn _ _ 19 (mx_imul 20) from sn_74 19) ?_
        refine mx_J.step (ls2 := [some (.ref 32), some (xI x0), some (xI (x0 * 385)), none, none, none]) (sn_74 20) (fun _ _ => rfl) ?_
        refine JcI (z := 0) (show mx_Sn _ _ 21 (mx_const (.int 0) 22) from sn_74 21) rfl ?_
        refine mx_J.step (ls2 := [some (.ref 32), some (xI x0), some (xI (x0 * 385)), some (xI 0), none, none]) (sn_74 22) (fun _ _ => rfl) ?_
        have c23 : ∀ (m6 : Nat) (w6_3 : Int) (u6_4 : Option Value) (u6_5 : Option Value) (Z7 : xZ) (h7 : mx_H), 385 - w6_3 < (m6 : Int) → 0 ≤ w6_3 ∧ w6_3 ≤ 385 → XH n s S Z7 h7 → GI n S Z7 → fr' [(14, (-1)), (15, (-1)), (16, (-1)), (17, (-1)), (18, (-1)), (19, (-1)), (33, (-1))] Z4 Z7 → mx_J (tB l D b0 ad Hb tau) mt_74 (d + 5) 23 [some (.ref 32), some (xI x0), some (xI (x0 * 385)), some (xI w6_3), u6_4, u6_5] [] h7 Post := by
          intro m6
          induction m6 with
          | zero => intro w6_3 u6_4 u6_5 Z7 h7 q6 f6_0 hx7 hG7 hf7; exact absurd q6 (by omega)
          | succ m6 ih6 =>
            intro w6_3 u6_4 u6_5 Z7 h7 q6 f6_0 hx7 hG7 hf7
            refine mx_J.step (sn_74 23) (fun _ _ => rfl) ?_
            refine mx_J.step (sn_74 24) (fun _ _ => rfl) ?_
            refine JgetR (g := 0) (b := 7) hx7 (show mx_Sn _ _ 25 (mx_getf 9 0 28) from sn_74 25) a32 s32 rfl rfl (hG7.prr 32 0 rfl) ?_
            have b10 : 0 ≤ Z 7 5 ∧ Z 7 5 ≤ 385 := hG.pr 7 5
            refine JgetI (g := 5) (z := Z 7 5) hx7 (show mx_Sn _ _ 28 (mx_getf 0 5 31) from sn_74 28) a7 s7 rfl rfl ((hf7 7 5 rfl).trans (hf4 7 5 rfl)) ?_
            refine Jicmp_ge (show mx_Sn _ _ 31 (mx_icmp_ge 110 34) from sn_74 31) (by omega) (by omega) (fun q11 => ?_) (fun q11 => ?_)
            · skip
              exact mx_J.ret (sn_74 110) (fun _ _ => rfl) (hP Z7 h7 hx7 hG7 (fr_tr (M := [(14, (-1)), (15, (-1)), (16, (-1)), (17, (-1)), (18, (-1)), (19, (-1)), (33, (-1))]) (fr_tr (M := [(14, (-1)), (15, (-1)), (16, (-1)), (17, (-1)), (18, (-1)), (19, (-1)), (33, (-1))]) fr_rf (hf4) (M1 := []) rfl rfl) (hf7) rfl rfl))
            · skip
              refine JcI (z := 0) (show mx_Sn _ _ 34 (mx_const (.int 0) 35) from sn_74 34) rfl ?_
              refine mx_J.step (ls2 := [some (.ref 32), some (xI x0), some (xI (x0 * 385)), some (xI w6_3), some (xI 0), u6_5]) (sn_74 35) (fun _ _ => rfl) ?_
              have c37 : ∀ (m12 : Nat) (w12_4 : Int) (u12_5 : Option Value) (Z13 : xZ) (h13 : mx_H), 10 - w12_4 < (m12 : Int) → 0 ≤ w12_4 ∧ w12_4 ≤ 10 → XH n s S Z13 h13 → GI n S Z13 → fr' [(14, (-1)), (15, (-1)), (16, (-1)), (17, (-1)), (18, (-1)), (19, (-1)), (33, (-1))] Z7 Z13 → mx_J (tB l D b0 ad Hb tau) mt_74 (d + 5) 37 [some (.ref 32), some (xI x0), some (xI (x0 * 385)), some (xI w6_3), some (xI w12_4), u12_5] [] h13 Post := by
                intro m12
                induction m12 with
                | zero => intro w12_4 u12_5 Z13 h13 q12 f12_0 hx13 hG13 hf13; exact absurd q12 (by omega)
                | succ m12 ih12 =>
                  intro w12_4 u12_5 Z13 h13 q12 f12_0 hx13 hG13 hf13
                  refine mx_J.step (sn_74 37) (fun _ _ => rfl) ?_
                  refine JcI (z := 10) (show mx_Sn _ _ 39 (mx_const (.int 10) 41) from sn_74 39) rfl ?_
                  have c104 : mx_J (tB l D b0 ad Hb tau) mt_74 (d + 5) 104 [some (.ref 32), some (xI x0), some (xI (x0 * 385)), some (xI w6_3), some (xI w12_4), u12_5] [] h13 Post := by
                    refine Jiinc (z := w6_3) (cz := 1) (ls2 := [some (.ref 32), some (xI x0), some (xI (x0 * 385)), some (xI (w6_3 + 1)), some (xI w12_4), u12_5]) (show mx_Sn _ _ 104 (mx_iinc 3 1 107) from sn_74 104) rfl rfl rfl rfl ?_
                    refine mx_J.step (sn_74 107) (fun _ _ => rfl) ?_
                    exact ih6 (w6_3 + 1) (some (xI w12_4)) u12_5 Z13 h13 (by omega) (by omega) hx13 hG13 (fr_tr (M := [(14, (-1)), (15, (-1)), (16, (-1)), (17, (-1)), (18, (-1)), (19, (-1)), (33, (-1))]) (fr_tr (M := [(14, (-1)), (15, (-1)), (16, (-1)), (17, (-1)), (18, (-1)), (19, (-1)), (33, (-1))]) fr_rf (hf7) (M1 := []) rfl rfl) (hf13) rfl rfl)
                  refine Jicmp_ge (show mx_Sn _ _ 41 (mx_icmp_ge 104 44) from sn_74 41) (by omega) (by omega) (fun q15 => ?_) (fun q15 => ?_)
                  · skip
                    exact c104 
                  · skip
                    refine mx_J.step (sn_74 44) (fun _ _ => rfl) ?_
                    refine JgetR (g := 2) (b := 33) hx13 (show mx_Sn _ _ 45 (mx_getf 9 2 48) from sn_74 45) a32 s32 rfl rfl (hG13.prr 32 2 rfl) ?_
                    refine mx_J.step (sn_74 48) (fun _ _ => rfl) ?_
                    refine mx_J.step (sn_74 49) (fun _ _ => rfl) ?_
                    refine Jiadd (show mx_Sn _ _ 50 (mx_iadd 51) from sn_74 50) ?_
                    have b17 : (-9223372036854775808) ≤ Z13 33 ((x0 * 385) + w6_3) ∧ Z13 33 ((x0 * 385) + w6_3) ≤ 9223372036854775807 := hG13.pr 33 ((x0 * 385) + w6_3)
                    refine JlaldL (z := Z13 33 ((x0 * 385) + w6_3)) hx13 (show mx_Sn _ _ 51 (mx_lald 52) from sn_74 51) a33 s33 (by omega) rfl ?_
                    refine JcL (z := 0) (show mx_Sn _ _ 52 (mx_const (.long 0) 53) from sn_74 52) rfl ?_
                    refine Jlif_le (show mx_Sn _ _ 53 (mx_lif_le 104 57) from sn_74 53) (by omega) (by omega) (fun q18 => ?_) (fun q18 => ?_)
                    · skip
                      exact c104 
                    · skip
                      refine mx_J.step (sn_74 57) (fun _ _ => rfl) ?_
                      refine JgetR (g := 1) (b := 12) hx13 (show mx_Sn _ _ 58 (mx_getf 9 1 61) from sn_74 58) a32 s32 rfl rfl (hG13.prr 32 1 rfl) ?_
                      refine mx_J.step (sn_74 61) (fun _ _ => rfl) ?_
                      refine mx_J.step (sn_74 62) (fun _ _ => rfl) ?_
                      obtain ⟨z20, Z20, h20, hc20, hx20, hG20, hf20, b20⟩ := ct_28_12 (d := d + 0) (l := l) (D := D) (b0 := b0) (ad := ad) (Hb := Hb) (tau := tau) hx13 hG13 (show (-2147483648) ≤ w6_3 ∧ w6_3 ≤ 2147483647 by omega) (show (-2147483648) ≤ w12_4 ∧ w12_4 ≤ 2147483647 by omega)
                      refine Jcv hx13 (show mx_Sn _ _ 64 (mx_callv 28 3 4 67) from sn_74 64) a12 s12 hc20 rfl rfl rfl ?_
                      refine mx_J.step (ls2 := [some (.ref 32), some (xI x0), some (xI (x0 * 385)), some (xI w6_3), some (xI w12_4), some (xI z20)]) (sn_74 67) (fun _ _ => rfl) ?_
                      refine mx_J.step (sn_74 69) (fun _ _ => rfl) ?_
                      have c98 : ∀  (Z22 : xZ) (h22 : mx_H), XH n s S Z22 h22 → GI n S Z22 → fr' [(33, (-1))] Z20 Z22 → mx_J (tB l D b0 ad Hb tau) mt_74 (d + 5) 98 [some (.ref 32), some (xI x0), some (xI (x0 * 385)), some (xI w6_3), some (xI w12_4), some (xI z20)] [] h22 Post := by
                        intro Z22 h22 hx22 hG22 hf22
                        refine Jiinc (z := w12_4) (cz := 1) (ls2 := [some (.ref 32), some (xI x0), some (xI (x0 * 385)), some (xI w6_3), some (xI (w12_4 + 1)), some (xI z20)]) (show mx_Sn _ _ 98 (mx_iinc 4 1 101) from sn_74 98) rfl rfl rfl rfl ?_
                        refine mx_J.step (sn_74 101) (fun _ _ => rfl) ?_
                        exact ih12 (w12_4 + 1) (some (xI z20)) Z22 h22 (by omega) (by omega) hx22 hG22 (fr_tr (M := [(14, (-1)), (15, (-1)), (16, (-1)), (17, (-1)), (18, (-1)), (19, (-1)), (33, (-1))]) (fr_tr (M := [(14, (-1)), (15, (-1)), (16, (-1)), (17, (-1)), (18, (-1)), (19, (-1)), (33, (-1))]) (fr_tr (M := [(14, (-1)), (15, (-1)), (16, (-1)), (17, (-1)), (18, (-1)), (19, (-1)), (33, (-1))]) fr_rf (hf13) (M1 := []) rfl rfl) (hf20) rfl rfl) (hf22) rfl rfl)
                      refine Jif_lt (show mx_Sn _ _ 71 (mx_if_lt 98 74) from sn_74 71) (by omega) (fun q23 => ?_) (fun q23 => ?_)
                      · skip
                        exact c98 Z20 h20 hx20 hG20 fr_rf
                      · skip
                        refine mx_J.step (sn_74 74) (fun _ _ => rfl) ?_
                        refine JgetR (g := 2) (b := 33) hx20 (show mx_Sn _ _ 75 (mx_getf 9 2 78) from sn_74 75) a32 s32 rfl rfl (hG20.prr 32 2 rfl) ?_
                        refine mx_J.step (sn_74 78) (fun _ _ => rfl) ?_
                        refine JcI (z := 385) (show mx_Sn _ _ 79 (mx_const (.int 385) 82) from sn_74 79) rfl ?_
                        refine Jiadd (show mx_Sn _ _ 82 (mx_iadd 83) from sn_74 82) ?_
                        refine mx_J.step (sn_74 83) (fun _ _ => rfl) ?_
                        refine Jiadd (show mx_Sn _ _ 85 (mx_iadd 86) from sn_74 85) ?_
                        refine mx_J.step (sn_74 86) (fun _ _ => rfl) ?_
                        have b25 : (-9223372036854775808) ≤ Z13 33 (((x0 * 385) + 385) + z20) ∧ Z13 33 (((x0 * 385) + 385) + z20) ≤ 9223372036854775807 := hG13.pr 33 (((x0 * 385) + 385) + z20)
                        refine JlaldL (z := Z13 33 (((x0 * 385) + 385) + z20)) hx20 (show mx_Sn _ _ 87 (mx_lald 88) from sn_74 87) a33 s33 (by omega) (hf20 33 (((x0 * 385) + 385) + z20) rfl) ?_
                        refine mx_J.step (sn_74 88) (fun _ _ => rfl) ?_
                        refine JgetR (g := 2) (b := 33) hx20 (show mx_Sn _ _ 89 (mx_getf 9 2 92) from sn_74 89) a32 s32 rfl rfl (hG20.prr 32 2 rfl) ?_
                        refine mx_J.step (sn_74 92) (fun _ _ => rfl) ?_
                        refine mx_J.step (sn_74 93) (fun _ _ => rfl) ?_
                        refine Jiadd (show mx_Sn _ _ 94 (mx_iadd 95) from sn_74 94) ?_
                        refine JlaldL (z := Z13 33 ((x0 * 385) + w6_3)) hx20 (show mx_Sn _ _ 95 (mx_lald 96) from sn_74 95) a33 s33 (by omega) (hf20 33 ((x0 * 385) + w6_3) rfl) ?_
                        refine JladdN (show mx_Sn _ _ 96 (mx_ladd 97) from sn_74 96) (fun y27 hy27 hq27 => ?_)
                        refine JlastL hx20 (show mx_Sn _ _ 97 (mx_last 1 98) from sn_74 97) a33 s33 rfl (by omega) (fun Z28 h28 hx28 hE28 => ?_)
                        have hG28 := GI_up hG20 hE28 (show (-9223372036854775808) ≤ y27 ∧ y27 ≤ 9223372036854775807 by omega) trivial rfl
                        exact c98 Z28 h28 hx28 hG28 (fr_tr (M := [(33, (-1))]) fr_rf (fr_ua hE28) (M1 := []) rfl rfl)
              exact c37 (Int.toNat (10 - 0) + 1) 0 u6_5 Z7 h7 (by omega) (by omega) hx7 hG7 fr_rf
        exact c23 (Int.toNat (385 - 0) + 1) 0 none none Z4 h4 (by omega) (by omega) hx4 hG4 fr_rf
      · skip
        exact c14 Z4 h4 hx4 hG4 (fr_tr (M := [(33, (-1))]) fr_rf (hf4) (M1 := []) rfl rfl)
theorem ct_74_32 {l : Launch} {D : va_G} {b0 : Nat} {ad : Nat → Nat} {Hb : Heap} {tau : Nat → Int64} {d n s : Nat} {S : Nat → xS} {Z : xZ} {h : mx_H} (hx : XH n s S Z h) (hG : GI n S Z)  {x0 : Int} (p0 : 0 ≤ x0 ∧ x0 ≤ 6) : ∃ (Z' : xZ) (h' : mx_H), mx_Ca (tB l D b0 ad Hb tau) (d + 6) 74 [.ref 32, xI x0] h (none, h') ∧ XH n s S Z' h' ∧ GI n S Z' ∧ fr' [(14, (-1)), (15, (-1)), (16, (-1)), (17, (-1)), (18, (-1)), (19, (-1)), (33, (-1))] Z Z' := by
  obtain ⟨r, hca, Z', h', e, q⟩ := Jmt (B := tB l D b0 ad Hb tau) (M := mt_74) (mi := 74) (as := [.ref 32, xI x0]) (d := d + 5) (ls := [some (.ref 32), some (xI x0), none, none, none, none]) rfl rfl rfl rfl rfl rfl (cw_74_32 (l := l) (D := D) (b0 := b0) (ad := ad) (Hb := Hb) (tau := tau) (d := d) (Post := fun r => ∃ (Z' : xZ) (h' : mx_H), r = (none, h') ∧ XH n s S Z' h' ∧ GI n S Z' ∧ fr' [(14, (-1)), (15, (-1)), (16, (-1)), (17, (-1)), (18, (-1)), (19, (-1)), (33, (-1))] Z Z') hx hG p0 (fun Z' h' q1 q2 q3 => ⟨Z', h', rfl, q1, q2, q3⟩))
  subst e; exact ⟨Z', h', hca, q⟩
set_option maxRecDepth 100000 in
theorem cw_75_32 {l : Launch} {D : va_G} {b0 : Nat} {ad : Nat → Nat} {Hb : Heap} {tau : Nat → Int64} {d n s : Nat} {S : Nat → xS} {Z : xZ} {h : mx_H} {Post : mx_R → Prop} (hx : XH n s S Z h) (hG : GI n S Z)  {x0 x1 x2 : Int} (p0 : 0 ≤ x0 ∧ x0 ≤ 9) (p1 : 1 ≤ x1 ∧ x1 ≤ 18) (p2 : 1 ≤ x2 ∧ x2 ≤ 18) (hP : ∀ z : Int, (-9223372036854775808) ≤ z ∧ z ≤ 9223372036854775807 → Post (some (xL z), h)) : mx_J (tB l D b0 ad Hb tau) mt_75 (d + 1) 0 [some (.ref 32), some (xI x0), some (xI x1), some (xI x2), none, none, none] [] h Post := by
    have a7 : 7 < n := lt83 (GI_n hG) rfl
    have s7 : S 7 = .inl (0, [2, 2, 2, 2, 0, 0]) := GI_s hG 7 rfl
    have a32 : 32 < n := lt83 (GI_n hG) rfl
    have s32 : S 32 = .inl (9, [2, 2, 2]) := GI_s hG 32 rfl
    have a33 : 33 < n := lt83 (GI_n hG) rfl
    have s33 : S 33 = .inr (.long, 3850, 1) := GI_s hG 33 rfl
    refine JcL (z := 0) (show mx_Sn _ _ 0 (mx_const (.long 0) 1) from sn_75 0) rfl ?_
    refine mx_J.step (ls2 := [some (.ref 32), some (xI x0), some (xI x1), some (xI x2), some (xL 0), none, none]) (sn_75 1) (fun _ _ => rfl) ?_
    refine JcI (z := 0) (show mx_Sn _ _ 3 (mx_const (.int 0) 4) from sn_75 3) rfl ?_
    refine mx_J.step (ls2 := [some (.ref 32), some (xI x0), some (xI x1), some (xI x2), some (xL 0), none, some (xI 0)]) (sn_75 4) (fun _ _ => rfl) ?_
    have c6 : ∀ (m1 : Nat) (w1_4 : Int) (w1_6 : Int), 385 - w1_6 < (m1 : Int) → (-9223372036854775808) ≤ w1_4 ∧ w1_4 ≤ 9223372036854775807 → 0 ≤ w1_6 ∧ w1_6 ≤ 385 → mx_J (tB l D b0 ad Hb tau) mt_75 (d + 1) 6 [some (.ref 32), some (xI x0), some (xI x1), some (xI x2), some (xL w1_4), none, some (xI w1_6)] [] h Post := by
      intro m1
      induction m1 with
      | zero => intro w1_4 w1_6 q1 f1_0 f1_1; exact absurd q1 (by omega)
      | succ m1 ih1 =>
        intro w1_4 w1_6 q1 f1_0 f1_1
        refine mx_J.step (sn_75 6) (fun _ _ => rfl) ?_
        refine mx_J.step (sn_75 8) (fun _ _ => rfl) ?_
        refine JgetR (g := 0) (b := 7) hx (show mx_Sn _ _ 9 (mx_getf 9 0 12) from sn_75 9) a32 s32 rfl rfl (hG.prr 32 0 rfl) ?_
        have b4 : 0 ≤ Z 7 5 ∧ Z 7 5 ≤ 385 := hG.pr 7 5
        refine JgetI (g := 5) (z := Z 7 5) hx (show mx_Sn _ _ 12 (mx_getf 0 5 15) from sn_75 12) a7 s7 rfl rfl rfl ?_
        refine Jicmp_ge (show mx_Sn _ _ 15 (mx_icmp_ge 68 18) from sn_75 15) (by omega) (by omega) (fun q5 => ?_) (fun q5 => ?_)
        · skip
          refine mx_J.step (sn_75 68) (fun _ _ => rfl) ?_
          exact mx_J.ret (sn_75 70) (fun _ _ => rfl) (hP w1_4 (by omega))
        · skip
          refine mx_J.step (sn_75 18) (fun _ _ => rfl) ?_
          refine JgetR (g := 0) (b := 7) hx (show mx_Sn _ _ 19 (mx_getf 9 0 22) from sn_75 19) a32 s32 rfl rfl (hG.prr 32 0 rfl) ?_
          refine mx_J.step (sn_75 22) (fun _ _ => rfl) ?_
          have b8 : 0 ≤ Z 10 w1_6 ∧ Z 10 w1_6 ≤ 18 := hG.pr 10 w1_6
          obtain ⟨z7, hc7, b7⟩ := ct_5_7 (d := d + 0) (l := l) (D := D) (b0 := b0) (ad := ad) (Hb := Hb) (tau := tau) hx hG (show (-2147483648) ≤ w1_6 ∧ w1_6 ≤ 2147483647 by omega)
          refine Jcv hx (show mx_Sn _ _ 24 (mx_callv 5 2 0 27) from sn_75 24) a7 s7 hc7 rfl rfl rfl ?_
          refine mx_J.step (sn_75 27) (fun _ _ => rfl) ?_
          have c62 : ∀ (w9_4 : Int), (-9223372036854775808) ≤ w9_4 ∧ w9_4 ≤ 9223372036854775807 → mx_J (tB l D b0 ad Hb tau) mt_75 (d + 1) 62 [some (.ref 32), some (xI x0), some (xI x1), some (xI x2), some (xL w9_4), none, some (xI w1_6)] [] h Post := by
            intro w9_4 f9_0
            refine Jiinc (z := w1_6) (cz := 1) (ls2 := [some (.ref 32), some (xI x0), some (xI x1), some (xI x2), some (xL w9_4), none, some (xI (w1_6 + 1))]) (show mx_Sn _ _ 62 (mx_iinc 6 1 65) from sn_75 62) rfl rfl rfl rfl ?_
            refine mx_J.step (sn_75 65) (fun _ _ => rfl) ?_
            exact ih1 w9_4 (w1_6 + 1) (by omega) (by omega) (by omega)
          refine Jicmp_lt (show mx_Sn _ _ 28 (mx_icmp_lt 62 31) from sn_75 28) (by omega) (by omega) (fun q10 => ?_) (fun q10 => ?_)
          · skip
            exact c62 w1_4 (by omega)
          · skip
            refine mx_J.step (sn_75 31) (fun _ _ => rfl) ?_
            refine JgetR (g := 0) (b := 7) hx (show mx_Sn _ _ 32 (mx_getf 9 0 35) from sn_75 32) a32 s32 rfl rfl (hG.prr 32 0 rfl) ?_
            refine mx_J.step (sn_75 35) (fun _ _ => rfl) ?_
            obtain ⟨z12, hc12, b12⟩ := ct_5_7 (d := d + 0) (l := l) (D := D) (b0 := b0) (ad := ad) (Hb := Hb) (tau := tau) hx hG (show (-2147483648) ≤ w1_6 ∧ w1_6 ≤ 2147483647 by omega)
            refine Jcv hx (show mx_Sn _ _ 37 (mx_callv 5 2 0 40) from sn_75 37) a7 s7 hc12 rfl rfl rfl ?_
            refine mx_J.step (sn_75 40) (fun _ _ => rfl) ?_
            refine Jicmp_gt (show mx_Sn _ _ 41 (mx_icmp_gt 62 44) from sn_75 41) (by omega) (by omega) (fun q13 => ?_) (fun q13 => ?_)
            · skip
              exact c62 w1_4 (by omega)
            · skip
              refine mx_J.step (sn_75 44) (fun _ _ => rfl) ?_
              refine mx_J.step (sn_75 46) (fun _ _ => rfl) ?_
              refine JgetR (g := 2) (b := 33) hx (show mx_Sn _ _ 47 (mx_getf 9 2 50) from sn_75 47) a32 s32 rfl rfl (hG.prr 32 2 rfl) ?_
              refine mx_J.step (sn_75 50) (fun _ _ => rfl) ?_
              refine JcI (z := 385) (show mx_Sn _ _ 51 (mx_const (.int 385) 54) from sn_75 51) rfl ?_
              refine Jimul (show mx_Sn _ _ 54 (mx_imul 55) from sn_75 54) ?_
              refine mx_J.step (sn_75 55) (fun _ _ => rfl) ?_
              refine Jiadd (show mx_Sn _ _ 57 (mx_iadd 58) from sn_75 57) ?_
              have b15 : (-9223372036854775808) ≤ Z 33 ((x0 * 385) + w1_6) ∧ Z 33 ((x0 * 385) + w1_6) ≤ 9223372036854775807 := hG.pr 33 ((x0 * 385) + w1_6)
              refine JlaldL (z := Z 33 ((x0 * 385) + w1_6)) hx (show mx_Sn _ _ 58 (mx_lald 59) from sn_75 58) a33 s33 (by omega) rfl ?_
              refine JladdN (show mx_Sn _ _ 59 (mx_ladd 60) from sn_75 59) (fun y16 hy16 hq16 => ?_)
              refine mx_J.step (ls2 := [some (.ref 32), some (xI x0), some (xI x1), some (xI x2), some (xL y16), none, some (xI w1_6)]) (sn_75 60) (fun _ _ => rfl) ?_
              exact c62 y16 (by omega)
    exact c6 (Int.toNat (385 - 0) + 1) 0 0 (by omega) (by omega) (by omega)
theorem ct_75_32 {l : Launch} {D : va_G} {b0 : Nat} {ad : Nat → Nat} {Hb : Heap} {tau : Nat → Int64} {d n s : Nat} {S : Nat → xS} {Z : xZ} {h : mx_H} (hx : XH n s S Z h) (hG : GI n S Z)  {x0 x1 x2 : Int} (p0 : 0 ≤ x0 ∧ x0 ≤ 9) (p1 : 1 ≤ x1 ∧ x1 ≤ 18) (p2 : 1 ≤ x2 ∧ x2 ≤ 18) : ∃ z : Int, mx_Ca (tB l D b0 ad Hb tau) (d + 2) 75 [.ref 32, xI x0, xI x1, xI x2] h (some (xL z), h) ∧ ((-9223372036854775808) ≤ z ∧ z ≤ 9223372036854775807) := by
  obtain ⟨r, hca, z, e, hp⟩ := Jmt (B := tB l D b0 ad Hb tau) (M := mt_75) (mi := 75) (as := [.ref 32, xI x0, xI x1, xI x2]) (d := d + 1) (ls := [some (.ref 32), some (xI x0), some (xI x1), some (xI x2), none, none, none]) rfl rfl rfl rfl rfl rfl (cw_75_32 (l := l) (D := D) (b0 := b0) (ad := ad) (Hb := Hb) (tau := tau) (d := d) (Post := fun r => ∃ z : Int, r = (some (xL z), h) ∧ ((-9223372036854775808) ≤ z ∧ z ≤ 9223372036854775807)) hx hG p0 p1 p2 (fun z hz => ⟨z, rfl, hz⟩))
  subst e; exact ⟨z, hca, hp⟩
set_option maxRecDepth 100000 in
theorem cw_76_32 {l : Launch} {D : va_G} {b0 : Nat} {ad : Nat → Nat} {Hb : Heap} {tau : Nat → Int64} {d n s : Nat} {S : Nat → xS} {Z : xZ} {h : mx_H} {Post : mx_R → Prop} (hx : XH n s S Z h) (hG : GI n S Z)  {x0 : Int} (p0 : 0 ≤ x0 ∧ x0 ≤ 7) (hP : ∀ z : Int, (-9223372036854775808) ≤ z ∧ z ≤ 9223372036854775807 → Post (some (xL z), h)) : mx_J (tB l D b0 ad Hb tau) mt_76 (d + 2) 0 [some (.ref 32), some (xI x0), none, none, none] [] h Post := by
    have a7 : 7 < n := lt83 (GI_n hG) rfl
    have s7 : S 7 = .inl (0, [2, 2, 2, 2, 0, 0]) := GI_s hG 7 rfl
    have a32 : 32 < n := lt83 (GI_n hG) rfl
    have s32 : S 32 = .inl (9, [2, 2, 2]) := GI_s hG 32 rfl
    have a33 : 33 < n := lt83 (GI_n hG) rfl
    have s33 : S 33 = .inr (.long, 3850, 1) := GI_s hG 33 rfl
    refine JcL (z := 0) (show mx_Sn _ _ 0 (mx_const (.long 0) 1) from sn_76 0) rfl ?_
    refine mx_J.step (ls2 := [some (.ref 32), some (xI x0), some (xL 0), none, none]) (sn_76 1) (fun _ _ => rfl) ?_
    refine JcI (z := 0) (show mx_Sn _ _ 2 (mx_const (.int 0) 3) from sn_76 2) rfl ?_
    refine mx_J.step (ls2 := [some (.ref 32), some (xI x0), some (xL 0), none, some (xI 0)]) (sn_76 3) (fun _ _ => rfl) ?_
    have c5 : ∀ (m1 : Nat) (w1_2 : Int) (w1_4 : Int), 385 - w1_4 < (m1 : Int) → (-9223372036854775808) ≤ w1_2 ∧ w1_2 ≤ 9223372036854775807 → 0 ≤ w1_4 ∧ w1_4 ≤ 385 → mx_J (tB l D b0 ad Hb tau) mt_76 (d + 2) 5 [some (.ref 32), some (xI x0), some (xL w1_2), none, some (xI w1_4)] [] h Post := by
      intro m1
      induction m1 with
      | zero => intro w1_2 w1_4 q1 f1_0 f1_1; exact absurd q1 (by omega)
      | succ m1 ih1 =>
        intro w1_2 w1_4 q1 f1_0 f1_1
        refine mx_J.step (sn_76 5) (fun _ _ => rfl) ?_
        refine mx_J.step (sn_76 7) (fun _ _ => rfl) ?_
        refine JgetR (g := 0) (b := 7) hx (show mx_Sn _ _ 8 (mx_getf 9 0 11) from sn_76 8) a32 s32 rfl rfl (hG.prr 32 0 rfl) ?_
        have b4 : 0 ≤ Z 7 5 ∧ Z 7 5 ≤ 385 := hG.pr 7 5
        refine JgetI (g := 5) (z := Z 7 5) hx (show mx_Sn _ _ 11 (mx_getf 0 5 14) from sn_76 11) a7 s7 rfl rfl rfl ?_
        refine Jicmp_ge (show mx_Sn _ _ 14 (mx_icmp_ge 51 17) from sn_76 14) (by omega) (by omega) (fun q5 => ?_) (fun q5 => ?_)
        · skip
          refine mx_J.step (sn_76 51) (fun _ _ => rfl) ?_
          exact mx_J.ret (sn_76 52) (fun _ _ => rfl) (hP w1_2 (by omega))
        · skip
          refine mx_J.step (sn_76 17) (fun _ _ => rfl) ?_
          refine mx_J.step (sn_76 18) (fun _ _ => rfl) ?_
          refine JgetR (g := 2) (b := 33) hx (show mx_Sn _ _ 19 (mx_getf 9 2 22) from sn_76 19) a32 s32 rfl rfl (hG.prr 32 2 rfl) ?_
          refine mx_J.step (sn_76 22) (fun _ _ => rfl) ?_
          refine JcI (z := 385) (show mx_Sn _ _ 23 (mx_const (.int 385) 26) from sn_76 23) rfl ?_
          refine Jimul (show mx_Sn _ _ 26 (mx_imul 27) from sn_76 26) ?_
          refine mx_J.step (sn_76 27) (fun _ _ => rfl) ?_
          refine Jiadd (show mx_Sn _ _ 29 (mx_iadd 30) from sn_76 29) ?_
          have b7 : (-9223372036854775808) ≤ Z 33 ((x0 * 385) + w1_4) ∧ Z 33 ((x0 * 385) + w1_4) ≤ 9223372036854775807 := hG.pr 33 ((x0 * 385) + w1_4)
          refine JlaldL (z := Z 33 ((x0 * 385) + w1_4)) hx (show mx_Sn _ _ 30 (mx_lald 31) from sn_76 30) a33 s33 (by omega) rfl ?_
          refine mx_J.step (sn_76 31) (fun _ _ => rfl) ?_
          refine JgetR (g := 0) (b := 7) hx (show mx_Sn _ _ 32 (mx_getf 9 0 35) from sn_76 32) a32 s32 rfl rfl (hG.prr 32 0 rfl) ?_
          refine mx_J.step (sn_76 35) (fun _ _ => rfl) ?_
          refine JcI (z := 0) (show mx_Sn _ _ 37 (mx_const (.int 0) 38) from sn_76 37) rfl ?_
          have b10 : 0 ≤ Z 9 (w1_4 * 18 + 0) ∧ Z 9 (w1_4 * 18 + 0) ≤ 18 := hG.pr 9 (w1_4 * 18 + 0)
          have b11 : 0 ≤ Z 10 w1_4 ∧ Z 10 w1_4 ≤ 18 := hG.pr 10 w1_4
          obtain ⟨z9, hc9, b9⟩ := ct_6_7 (d := d + 0) (l := l) (D := D) (b0 := b0) (ad := ad) (Hb := Hb) (tau := tau) hx hG (show (-2147483648) ≤ w1_4 ∧ w1_4 ≤ 2147483647 by omega) (show (-2147483648) ≤ 0 ∧ 0 ≤ 2147483647 by omega)
          refine Jcv hx (show mx_Sn _ _ 38 (mx_callv 6 3 0 41) from sn_76 38) a7 s7 hc9 rfl rfl rfl ?_
          refine Ji2l (show mx_Sn _ _ 41 (mx_i2l 42) from sn_76 41) (by omega) ?_
          refine JlmulN (show mx_Sn _ _ 42 (mx_lmul 43) from sn_76 42) (fun y12 hy12 hq12 => ?_)
          refine JladdN (show mx_Sn _ _ 43 (mx_ladd 44) from sn_76 43) (fun y13 hy13 hq13 => ?_)
          refine mx_J.step (ls2 := [some (.ref 32), some (xI x0), some (xL y13), none, some (xI w1_4)]) (sn_76 44) (fun _ _ => rfl) ?_
          refine Jiinc (z := w1_4) (cz := 1) (ls2 := [some (.ref 32), some (xI x0), some (xL y13), none, some (xI (w1_4 + 1))]) (show mx_Sn _ _ 45 (mx_iinc 4 1 48) from sn_76 45) rfl rfl rfl rfl ?_
          refine mx_J.step (sn_76 48) (fun _ _ => rfl) ?_
          exact ih1 y13 (w1_4 + 1) (by omega) (by omega) (by omega)
    exact c5 (Int.toNat (385 - 0) + 1) 0 0 (by omega) (by omega) (by omega)
theorem ct_76_32 {l : Launch} {D : va_G} {b0 : Nat} {ad : Nat → Nat} {Hb : Heap} {tau : Nat → Int64} {d n s : Nat} {S : Nat → xS} {Z : xZ} {h : mx_H} (hx : XH n s S Z h) (hG : GI n S Z)  {x0 : Int} (p0 : 0 ≤ x0 ∧ x0 ≤ 7) : ∃ z : Int, mx_Ca (tB l D b0 ad Hb tau) (d + 3) 76 [.ref 32, xI x0] h (some (xL z), h) ∧ ((-9223372036854775808) ≤ z ∧ z ≤ 9223372036854775807) := by
  obtain ⟨r, hca, z, e, hp⟩ := Jmt (B := tB l D b0 ad Hb tau) (M := mt_76) (mi := 76) (as := [.ref 32, xI x0]) (d := d + 2) (ls := [some (.ref 32), some (xI x0), none, none, none]) rfl rfl rfl rfl rfl rfl (cw_76_32 (l := l) (D := D) (b0 := b0) (ad := ad) (Hb := Hb) (tau := tau) (d := d) (Post := fun r => ∃ z : Int, r = (some (xL z), h) ∧ ((-9223372036854775808) ≤ z ∧ z ≤ 9223372036854775807)) hx hG p0 (fun z hz => ⟨z, rfl, hz⟩))
  subst e; exact ⟨z, hca, hp⟩
set_option maxRecDepth 100000 in
theorem cw_79_32 {l : Launch} {D : va_G} {b0 : Nat} {ad : Nat → Nat} {Hb : Heap} {tau : Nat → Int64} {d n s : Nat} {S : Nat → xS} {Z : xZ} {h : mx_H} {Post : mx_R → Prop} (hx : XH n s S Z h) (hG : GI n S Z)  {x0 x1 : Int} (p0 : (-1) ≤ x0 ∧ x0 ≤ 384) (p1 : 0 ≤ x1 ∧ x1 ≤ 8) (hP : ∀ z : Int, 0 ≤ z ∧ z ≤ 1 → Post (some (xI z), h)) : mx_J (tB l D b0 ad Hb tau) mt_79 (d + 0) 0 [some (.ref 32), some (xI x0), some (xI x1)] [] h Post := by
    have a32 : 32 < n := lt83 (GI_n hG) rfl
    have s32 : S 32 = .inl (9, [2, 2, 2]) := GI_s hG 32 rfl
    have a33 : 33 < n := lt83 (GI_n hG) rfl
    have s33 : S 33 = .inr (.long, 3850, 1) := GI_s hG 33 rfl
    refine mx_J.step (sn_79 0) (fun _ _ => rfl) ?_
    have c28 : ∀ (k1_0 : Int), 0 ≤ k1_0 ∧ k1_0 ≤ 1 → mx_J (tB l D b0 ad Hb tau) mt_79 (d + 0) 28 [some (.ref 32), some (xI x0), some (xI x1)] [xI k1_0] h Post := by
      intro k1_0 f1_0
      exact mx_J.ret (show mx_Sn _ _ 28 (mx_zret) from sn_79 28) (fun _ _ => zr_ok (by omega)) (hP k1_0 (by omega))
    have c27 : mx_J (tB l D b0 ad Hb tau) mt_79 (d + 0) 27 [some (.ref 32), some (xI x0), some (xI x1)] [] h Post := by
      refine JcI (z := 0) (show mx_Sn _ _ 27 (mx_const (.int 0) 28) from sn_79 27) rfl ?_
      exact c28 0 (by omega)
    refine Jif_lt (show mx_Sn _ _ 1 (mx_if_lt 27 4) from sn_79 1) (by omega) (fun q3 => ?_) (fun q3 => ?_)
    · skip
      exact c27 
    · skip
      refine mx_J.step (sn_79 4) (fun _ _ => rfl) ?_
      refine JgetR (g := 2) (b := 33) hx (show mx_Sn _ _ 5 (mx_getf 9 2 8) from sn_79 5) a32 s32 rfl rfl (hG.prr 32 2 rfl) ?_
      refine mx_J.step (sn_79 8) (fun _ _ => rfl) ?_
      refine JcI (z := 1) (show mx_Sn _ _ 9 (mx_const (.int 1) 10) from sn_79 9) rfl ?_
      refine Jiadd (show mx_Sn _ _ 10 (mx_iadd 11) from sn_79 10) ?_
      refine JcI (z := 385) (show mx_Sn _ _ 11 (mx_const (.int 385) 14) from sn_79 11) rfl ?_
      refine Jimul (show mx_Sn _ _ 14 (mx_imul 15) from sn_79 14) ?_
      refine mx_J.step (sn_79 15) (fun _ _ => rfl) ?_
      refine Jiadd (show mx_Sn _ _ 16 (mx_iadd 17) from sn_79 16) ?_
      have b5 : (-9223372036854775808) ≤ Z 33 (((x1 + 1) * 385) + x0) ∧ Z 33 (((x1 + 1) * 385) + x0) ≤ 9223372036854775807 := hG.pr 33 (((x1 + 1) * 385) + x0)
      refine JlaldL (z := Z 33 (((x1 + 1) * 385) + x0)) hx (show mx_Sn _ _ 17 (mx_lald 18) from sn_79 17) a33 s33 (by omega) rfl ?_
      refine JcL (z := 0) (show mx_Sn _ _ 18 (mx_const (.long 0) 19) from sn_79 18) rfl ?_
      refine Jlif_le (show mx_Sn _ _ 19 (mx_lif_le 27 23) from sn_79 19) (by omega) (by omega) (fun q6 => ?_) (fun q6 => ?_)
      · skip
        exact c27 
      · skip
        refine JcI (z := 1) (show mx_Sn _ _ 23 (mx_const (.int 1) 24) from sn_79 23) rfl ?_
        refine mx_J.step (sn_79 24) (fun _ _ => rfl) ?_
        exact c28 1 (by omega)
theorem ct_79_32 {l : Launch} {D : va_G} {b0 : Nat} {ad : Nat → Nat} {Hb : Heap} {tau : Nat → Int64} {d n s : Nat} {S : Nat → xS} {Z : xZ} {h : mx_H} (hx : XH n s S Z h) (hG : GI n S Z)  {x0 x1 : Int} (p0 : (-1) ≤ x0 ∧ x0 ≤ 384) (p1 : 0 ≤ x1 ∧ x1 ≤ 8) : ∃ z : Int, mx_Ca (tB l D b0 ad Hb tau) (d + 1) 79 [.ref 32, xI x0, xI x1] h (some (xI z), h) ∧ (0 ≤ z ∧ z ≤ 1) := by
  obtain ⟨r, hca, z, e, hp⟩ := Jmt (B := tB l D b0 ad Hb tau) (M := mt_79) (mi := 79) (as := [.ref 32, xI x0, xI x1]) (d := d + 0) (ls := [some (.ref 32), some (xI x0), some (xI x1)]) rfl rfl rfl rfl rfl rfl (cw_79_32 (l := l) (D := D) (b0 := b0) (ad := ad) (Hb := Hb) (tau := tau) (d := d) (Post := fun r => ∃ z : Int, r = (some (xI z), h) ∧ (0 ≤ z ∧ z ≤ 1)) hx hG p0 p1 (fun z hz => ⟨z, rfl, hz⟩))
  subst e; exact ⟨z, hca, hp⟩
set_option maxRecDepth 100000 in
theorem cw_78_32 {l : Launch} {D : va_G} {b0 : Nat} {ad : Nat → Nat} {Hb : Heap} {tau : Nat → Int64} {d n s : Nat} {S : Nat → xS} {Z : xZ} {h : mx_H} {Post : mx_R → Prop} (hx : XH n s S Z h) (hG : GI n S Z)  {x0 x1 : Int} (p0 : (-2147483648) ≤ x0 ∧ x0 ≤ 2147483647) (p1 : 0 ≤ x1 ∧ x1 ≤ 8) (hP : ∀ (z : Int) (Z' : xZ) (h' : mx_H), XH n s S Z' h' → GI n S Z' → fr' [(14, (-1)), (16, (-1)), (17, (-1)), (18, (-1)), (19, (-1))] Z Z' → (-1) ≤ z ∧ z ≤ 18 → Post (some (xI z), h')) : mx_J (tB l D b0 ad Hb tau) mt_78 (d + 4) 0 [some (.ref 32), some (xI x0), some (xI x1), none, none] [] h Post := by
    have a7 : 7 < n := lt83 (GI_n hG) rfl
    have s7 : S 7 = .inl (0, [2, 2, 2, 2, 0, 0]) := GI_s hG 7 rfl
    have a12 : 12 < n := lt83 (GI_n hG) rfl
    have s12 : S 12 = .inl (4, [2, 2, 0, 2, 2, 2, 2, 2, 2]) := GI_s hG 12 rfl
    have a32 : 32 < n := lt83 (GI_n hG) rfl
    have s32 : S 32 = .inl (9, [2, 2, 2]) := GI_s hG 32 rfl
    refine mx_J.step (sn_78 0) (fun _ _ => rfl) ?_
    refine JgetR (g := 0) (b := 7) hx (show mx_Sn _ _ 1 (mx_getf 9 0 4) from sn_78 1) a32 s32 rfl rfl (hG.prr 32 0 rfl) ?_
    refine mx_J.step (sn_78 4) (fun _ _ => rfl) ?_
    refine JcI (z := 0) (show mx_Sn _ _ 5 (mx_const (.int 0) 6) from sn_78 5) rfl ?_
    have b3 : 0 ≤ Z 9 (x0 * 18 + 0) ∧ Z 9 (x0 * 18 + 0) ≤ 18 := hG.pr 9 (x0 * 18 + 0)
    have b4 : 0 ≤ Z 10 x0 ∧ Z 10 x0 ≤ 18 := hG.pr 10 x0
    have b5 : 0 ≤ Z 7 5 ∧ Z 7 5 ≤ 385 := hG.pr 7 5
    obtain ⟨z2, hc2, b2⟩ := ct_6_7 (d := d + 2) (l := l) (D := D) (b0 := b0) (ad := ad) (Hb := Hb) (tau := tau) hx hG (show (-2147483648) ≤ x0 ∧ x0 ≤ 2147483647 by omega) (show (-2147483648) ≤ 0 ∧ 0 ≤ 2147483647 by omega)
    refine Jcv hx (show mx_Sn _ _ 6 (mx_callv 6 3 0 9) from sn_78 6) a7 s7 hc2 rfl rfl rfl ?_
    refine mx_J.step (ls2 := [some (.ref 32), some (xI x0), some (xI x1), some (xI z2), none]) (sn_78 9) (fun _ _ => rfl) ?_
    refine JcI (z := 0) (show mx_Sn _ _ 10 (mx_const (.int 0) 11) from sn_78 10) rfl ?_
    refine mx_J.step (ls2 := [some (.ref 32), some (xI x0), some (xI x1), some (xI z2), some (xI 0)]) (sn_78 11) (fun _ _ => rfl) ?_
    have c13 : ∀ (m6 : Nat) (w6_4 : Int) (Z7 : xZ) (h7 : mx_H), 19 - w6_4 < (m6 : Int) → 0 ≤ w6_4 ∧ w6_4 ≤ 19 → XH n s S Z7 h7 → GI n S Z7 → fr' [(14, (-1)), (16, (-1)), (17, (-1)), (18, (-1)), (19, (-1))] Z Z7 → mx_J (tB l D b0 ad Hb tau) mt_78 (d + 4) 13 [some (.ref 32), some (xI x0), some (xI x1), some (xI z2), some (xI w6_4)] [] h7 Post := by
      intro m6
      induction m6 with
      | zero => intro w6_4 Z7 h7 q6 f6_0 hx7 hG7 hf7; exact absurd q6 (by omega)
      | succ m6 ih6 =>
        intro w6_4 Z7 h7 q6 f6_0 hx7 hG7 hf7
        refine mx_J.step (sn_78 13) (fun _ _ => rfl) ?_
        refine mx_J.step (sn_78 15) (fun _ _ => rfl) ?_
        refine Jicmp_gt (show mx_Sn _ _ 16 (mx_icmp_gt 46 19) from sn_78 16) (by omega) (by omega) (fun q8 => ?_) (fun q8 => ?_)
        · skip
          refine JcI (z := (-1)) (show mx_Sn _ _ 46 (mx_const (.int (-1)) 47) from sn_78 46) rfl ?_
          exact mx_J.ret (sn_78 47) (fun _ _ => rfl) (hP (-1) Z7 h7 hx7 hG7 (fr_tr (M := [(14, (-1)), (16, (-1)), (17, (-1)), (18, (-1)), (19, (-1))]) fr_rf (hf7) (M1 := []) rfl rfl) (by omega))
        · skip
          refine mx_J.step (sn_78 19) (fun _ _ => rfl) ?_
          refine mx_J.step (sn_78 20) (fun _ _ => rfl) ?_
          refine JgetR (g := 1) (b := 12) hx7 (show mx_Sn _ _ 21 (mx_getf 9 1 24) from sn_78 21) a32 s32 rfl rfl (hG7.prr 32 1 rfl) ?_
          refine mx_J.step (sn_78 24) (fun _ _ => rfl) ?_
          refine mx_J.step (sn_78 25) (fun _ _ => rfl) ?_
          obtain ⟨z10, Z10, h10, hc10, hx10, hG10, hf10, b10⟩ := ct_26_12 (d := d + 0) (l := l) (D := D) (b0 := b0) (ad := ad) (Hb := Hb) (tau := tau) hx7 hG7 (show (-2147483648) ≤ x0 ∧ x0 ≤ 2147483647 by omega) (show (-2147483648) ≤ w6_4 ∧ w6_4 ≤ 2147483647 by omega)
          refine Jcv hx7 (show mx_Sn _ _ 27 (mx_callv 26 3 4 30) from sn_78 27) a12 s12 hc10 rfl rfl rfl ?_
          refine mx_J.step (sn_78 30) (fun _ _ => rfl) ?_
          obtain ⟨z11, hc11, b11⟩ := ct_79_32 (d := d + 3) (l := l) (D := D) (b0 := b0) (ad := ad) (Hb := Hb) (tau := tau) hx10 hG10 (show (-1) ≤ z10 ∧ z10 ≤ 384 by omega) (show 0 ≤ x1 ∧ x1 ≤ 8 by omega)
          refine Jcv hx10 (show mx_Sn _ _ 31 (mx_callv 79 3 9 34) from sn_78 31) a32 s32 hc11 rfl rfl rfl ?_
          refine Jif_eq (show mx_Sn _ _ 34 (mx_if_eq 40 37) from sn_78 34) (by omega) (fun q12 => ?_) (fun q12 => ?_)
          · skip
            refine Jiinc (z := w6_4) (cz := 1) (ls2 := [some (.ref 32), some (xI x0), some (xI x1), some (xI z2), some (xI (w6_4 + 1))]) (show mx_Sn _ _ 40 (mx_iinc 4 1 43) from sn_78 40) rfl rfl rfl rfl ?_
            refine mx_J.step (sn_78 43) (fun _ _ => rfl) ?_
            exact ih6 (w6_4 + 1) Z10 h10 (by omega) (by omega) hx10 hG10 (fr_tr (M := [(14, (-1)), (16, (-1)), (17, (-1)), (18, (-1)), (19, (-1))]) (fr_tr (M := [(14, (-1)), (16, (-1)), (17, (-1)), (18, (-1)), (19, (-1))]) fr_rf (hf7) (M1 := []) rfl rfl) (hf10) rfl rfl)
          · skip
            refine mx_J.step (sn_78 37) (fun _ _ => rfl) ?_
            exact mx_J.ret (sn_78 39) (fun _ _ => rfl) (hP w6_4 Z10 h10 hx10 hG10 (fr_tr (M := [(14, (-1)), (16, (-1)), (17, (-1)), (18, (-1)), (19, (-1))]) (fr_tr (M := [(14, (-1)), (16, (-1)), (17, (-1)), (18, (-1)), (19, (-1))]) fr_rf (hf7) (M1 := []) rfl rfl) (hf10) rfl rfl) (by omega))
    exact c13 (Int.toNat (19 - 0) + 1) 0 Z h (by omega) (by omega) hx hG fr_rf
theorem ct_78_32 {l : Launch} {D : va_G} {b0 : Nat} {ad : Nat → Nat} {Hb : Heap} {tau : Nat → Int64} {d n s : Nat} {S : Nat → xS} {Z : xZ} {h : mx_H} (hx : XH n s S Z h) (hG : GI n S Z)  {x0 x1 : Int} (p0 : (-2147483648) ≤ x0 ∧ x0 ≤ 2147483647) (p1 : 0 ≤ x1 ∧ x1 ≤ 8) : ∃ (z : Int) (Z' : xZ) (h' : mx_H), mx_Ca (tB l D b0 ad Hb tau) (d + 5) 78 [.ref 32, xI x0, xI x1] h (some (xI z), h') ∧ XH n s S Z' h' ∧ GI n S Z' ∧ fr' [(14, (-1)), (16, (-1)), (17, (-1)), (18, (-1)), (19, (-1))] Z Z' ∧ ((-1) ≤ z ∧ z ≤ 18) := by
  obtain ⟨r, hca, z, Z', h', e, q⟩ := Jmt (B := tB l D b0 ad Hb tau) (M := mt_78) (mi := 78) (as := [.ref 32, xI x0, xI x1]) (d := d + 4) (ls := [some (.ref 32), some (xI x0), some (xI x1), none, none]) rfl rfl rfl rfl rfl rfl (cw_78_32 (l := l) (D := D) (b0 := b0) (ad := ad) (Hb := Hb) (tau := tau) (d := d) (Post := fun r => ∃ (z : Int) (Z' : xZ) (h' : mx_H), r = (some (xI z), h') ∧ XH n s S Z' h' ∧ GI n S Z' ∧ fr' [(14, (-1)), (16, (-1)), (17, (-1)), (18, (-1)), (19, (-1))] Z Z' ∧ ((-1) ≤ z ∧ z ≤ 18)) hx hG p0 p1 (fun z Z' h' q1 q2 q3 q4 => ⟨z, Z', h', rfl, q1, q2, q3, q4⟩))
  subst e; exact ⟨z, Z', h', hca, q⟩
set_option maxRecDepth 100000 in
theorem cw_77_32 {l : Launch} {D : va_G} {b0 : Nat} {ad : Nat → Nat} {Hb : Heap} {tau : Nat → Int64} {d n s : Nat} {S : Nat → xS} {Z : xZ} {h : mx_H} {Post : mx_R → Prop} (hx : XH n s S Z h) (hG : GI n S Z)  {x0 : Int} (p0 : 1 ≤ x0 ∧ x0 ≤ 8) (hP : ∀ (Z' : xZ) (h' : mx_H), XH n s S Z' h' → GI n S Z' → fr' [(14, (-1)), (16, (-1)), (17, (-1)), (18, (-1)), (19, (-1)), (33, (-1))] Z Z' → Post (none, h')) : mx_J (tB l D b0 ad Hb tau) mt_77 (d + 5) 0 [some (.ref 32), some (xI x0), none, none, none] [] h Post := by
    have a7 : 7 < n := lt83 (GI_n hG) rfl
    have s7 : S 7 = .inl (0, [2, 2, 2, 2, 0, 0]) := GI_s hG 7 rfl
    have a32 : 32 < n := lt83 (GI_n hG) rfl
    have s32 : S 32 = .inl (9, [2, 2, 2]) := GI_s hG 32 rfl
    have a33 : 33 < n := lt83 (GI_n hG) rfl
    have s33 : S 33 = .inr (.long, 3850, 1) := GI_s hG 33 rfl
    refine mx_J.step (sn_77 0) (fun _ _ => rfl) ?_
    refine JcI (z := 9) (show mx_Sn _ _ 1 (mx_const (.int 9) 3) from sn_77 1) rfl ?_
    refine Jmmin (show mx_Sn _ _ 3 (mx_mmin 6) from sn_77 3) (by omega) (by omega) ⟨_, rfl⟩ rfl (fun y1 hy1 => ?_)
    refine JcI (z := 1) (show mx_Sn _ _ 6 (mx_const (.int 1) 7) from sn_77 6) rfl ?_
    refine Jisub (show mx_Sn _ _ 7 (mx_isub 8) from sn_77 7) ?_
    refine mx_J.step (ls2 := [some (.ref 32), some (xI x0), some (xI (y1 - 1)), none, none]) (sn_77 8) (fun _ _ => rfl) ?_
    have c9 : ∀ (m2 : Nat) (w2_2 : Int) (u2_3 : Option Value) (u2_4 : Option Value) (Z3 : xZ) (h3 : mx_H), w2_2 - (-1) < (m2 : Int) → (-1) ≤ w2_2 ∧ w2_2 ≤ 7 → XH n s S Z3 h3 → GI n S Z3 → fr' [(14, (-1)), (16, (-1)), (17, (-1)), (18, (-1)), (19, (-1)), (33, (-1))] Z Z3 → mx_J (tB l D b0 ad Hb tau) mt_77 (d + 5) 9 [some (.ref 32), some (xI x0), some (xI w2_2), u2_3, u2_4] [] h3 Post := by
      intro m2
      induction m2 with
      | zero => intro w2_2 u2_3 u2_4 Z3 h3 q2 f2_0 hx3 hG3 hf3; exact absurd q2 (by omega)
      | succ m2 ih2 =>
        intro w2_2 u2_3 u2_4 Z3 h3 q2 f2_0 hx3 hG3 hf3
        refine mx_J.step (sn_77 9) (fun _ _ => rfl) ?_
        refine Jif_lt (show mx_Sn _ _ 10 (mx_if_lt 76 13) from sn_77 10) (by omega) (fun q4 => ?_) (fun q4 => ?_)
        · skip
          exact mx_J.ret (sn_77 76) (fun _ _ => rfl) (hP Z3 h3 hx3 hG3 (fr_tr (M := [(14, (-1)), (16, (-1)), (17, (-1)), (18, (-1)), (19, (-1)), (33, (-1))]) fr_rf (hf3) (M1 := []) rfl rfl))
        · skip
          refine JcI (z := 0) (show mx_Sn _ _ 13 (mx_const (.int 0) 14) from sn_77 13) rfl ?_
          refine mx_J.step (ls2 := [some (.ref 32), some (xI x0), some (xI w2_2), some (xI 0), u2_4]) (sn_77 14) (fun _ _ => rfl) ?_
          have c15 : ∀ (m5 : Nat) (w5_3 : Int) (u5_4 : Option Value) (Z6 : xZ) (h6 : mx_H), 385 - w5_3 < (m5 : Int) → 0 ≤ w5_3 ∧ w5_3 ≤ 385 → XH n s S Z6 h6 → GI n S Z6 → fr' [(14, (-1)), (16, (-1)), (17, (-1)), (18, (-1)), (19, (-1)), (33, (-1))] Z3 Z6 → mx_J (tB l D b0 ad Hb tau) mt_77 (d + 5) 15 [some (.ref 32), some (xI x0), some (xI w2_2), some (xI w5_3), u5_4] [] h6 Post := by
            intro m5
            induction m5 with
            | zero => intro w5_3 u5_4 Z6 h6 q5 f5_0 hx6 hG6 hf6; exact absurd q5 (by omega)
            | succ m5 ih5 =>
              intro w5_3 u5_4 Z6 h6 q5 f5_0 hx6 hG6 hf6
              refine mx_J.step (sn_77 15) (fun _ _ => rfl) ?_
              refine mx_J.step (sn_77 16) (fun _ _ => rfl) ?_
              refine JgetR (g := 0) (b := 7) hx6 (show mx_Sn _ _ 17 (mx_getf 9 0 20) from sn_77 17) a32 s32 rfl rfl (hG6.prr 32 0 rfl) ?_
              have b9 : 0 ≤ Z 7 5 ∧ Z 7 5 ≤ 385 := hG.pr 7 5
              refine JgetI (g := 5) (z := Z 7 5) hx6 (show mx_Sn _ _ 20 (mx_getf 0 5 23) from sn_77 20) a7 s7 rfl rfl ((hf6 7 5 rfl).trans (hf3 7 5 rfl)) ?_
              refine Jicmp_ge (show mx_Sn _ _ 23 (mx_icmp_ge 70 26) from sn_77 23) (by omega) (by omega) (fun q10 => ?_) (fun q10 => ?_)
              · skip
                refine Jiinc (z := w2_2) (cz := (-1)) (ls2 := [some (.ref 32), some (xI x0), some (xI (w2_2 + (-1))), some (xI w5_3), u5_4]) (show mx_Sn _ _ 70 (mx_iinc 2 (-1) 73) from sn_77 70) rfl rfl rfl rfl ?_
                refine mx_J.step (sn_77 73) (fun _ _ => rfl) ?_
                exact ih2 (w2_2 + (-1)) (some (xI w5_3)) u5_4 Z6 h6 (by omega) (by omega) hx6 hG6 (fr_tr (M := [(14, (-1)), (16, (-1)), (17, (-1)), (18, (-1)), (19, (-1)), (33, (-1))]) (fr_tr (M := [(14, (-1)), (16, (-1)), (17, (-1)), (18, (-1)), (19, (-1)), (33, (-1))]) fr_rf (hf3) (M1 := []) rfl rfl) (hf6) rfl rfl)
              · skip
                refine mx_J.step (sn_77 26) (fun _ _ => rfl) ?_
                refine JcI (z := 385) (show mx_Sn _ _ 27 (mx_const (.int 385) 30) from sn_77 27) rfl ?_
                refine Jimul (show mx_Sn _ _ 30 (mx_imul 31) from sn_77 30) ?_
                refine mx_J.step (sn_77 31) (fun _ _ => rfl) ?_
                refine Jiadd (show mx_Sn _ _ 32 (mx_iadd 33) from sn_77 32) ?_
                refine mx_J.step (ls2 := [some (.ref 32), some (xI x0), some (xI w2_2), some (xI w5_3), some (xI ((w2_2 * 385) + w5_3))]) (sn_77 33) (fun _ _ => rfl) ?_
                refine mx_J.step (sn_77 35) (fun _ _ => rfl) ?_
                refine JgetR (g := 2) (b := 33) hx6 (show mx_Sn _ _ 36 (mx_getf 9 2 39) from sn_77 36) a32 s32 rfl rfl (hG6.prr 32 2 rfl) ?_
                refine mx_J.step (sn_77 39) (fun _ _ => rfl) ?_
                have b12 : (-9223372036854775808) ≤ Z6 33 ((w2_2 * 385) + w5_3) ∧ Z6 33 ((w2_2 * 385) + w5_3) ≤ 9223372036854775807 := hG6.pr 33 ((w2_2 * 385) + w5_3)
                refine JlaldL (z := Z6 33 ((w2_2 * 385) + w5_3)) hx6 (show mx_Sn _ _ 41 (mx_lald 42) from sn_77 41) a33 s33 (by omega) rfl ?_
                refine JcL (z := 0) (show mx_Sn _ _ 42 (mx_const (.long 0) 43) from sn_77 42) rfl ?_
                have c64 : ∀  (Z14 : xZ) (h14 : mx_H), XH n s S Z14 h14 → GI n S Z14 → fr' [(14, (-1)), (16, (-1)), (17, (-1)), (18, (-1)), (19, (-1)), (33, (-1))] Z6 Z14 → mx_J (tB l D b0 ad Hb tau) mt_77 (d + 5) 64 [some (.ref 32), some (xI x0), some (xI w2_2), some (xI w5_3), some (xI ((w2_2 * 385) + w5_3))] [] h14 Post := by
                  intro Z14 h14 hx14 hG14 hf14
                  refine Jiinc (z := w5_3) (cz := 1) (ls2 := [some (.ref 32), some (xI x0), some (xI w2_2), some (xI (w5_3 + 1)), some (xI ((w2_2 * 385) + w5_3))]) (show mx_Sn _ _ 64 (mx_iinc 3 1 67) from sn_77 64) rfl rfl rfl rfl ?_
                  refine mx_J.step (sn_77 67) (fun _ _ => rfl) ?_
                  exact ih5 (w5_3 + 1) (some (xI ((w2_2 * 385) + w5_3))) Z14 h14 (by omega) (by omega) hx14 hG14 (fr_tr (M := [(14, (-1)), (16, (-1)), (17, (-1)), (18, (-1)), (19, (-1)), (33, (-1))]) (fr_tr (M := [(14, (-1)), (16, (-1)), (17, (-1)), (18, (-1)), (19, (-1)), (33, (-1))]) fr_rf (hf6) (M1 := []) rfl rfl) (hf14) rfl rfl)
                refine Jlif_le (show mx_Sn _ _ 43 (mx_lif_le 64 47) from sn_77 43) (by omega) (by omega) (fun q15 => ?_) (fun q15 => ?_)
                · skip
                  exact c64 Z6 h6 hx6 hG6 fr_rf
                · skip
                  refine mx_J.step (sn_77 47) (fun _ _ => rfl) ?_
                  refine mx_J.step (sn_77 48) (fun _ _ => rfl) ?_
                  refine mx_J.step (sn_77 49) (fun _ _ => rfl) ?_
                  obtain ⟨z16, Z16, h16, hc16, hx16, hG16, hf16, b16⟩ := ct_78_32 (d := d + 0) (l := l) (D := D) (b0 := b0) (ad := ad) (Hb := Hb) (tau := tau) hx6 hG6 (show (-2147483648) ≤ w5_3 ∧ w5_3 ≤ 2147483647 by omega) (show 0 ≤ w2_2 ∧ w2_2 ≤ 8 by omega)
                  refine Jcv hx6 (show mx_Sn _ _ 50 (mx_callv 78 3 9 53) from sn_77 50) a32 s32 hc16 rfl rfl rfl ?_
                  refine Jif_ge (show mx_Sn _ _ 53 (mx_if_ge 64 56) from sn_77 53) (by omega) (fun q17 => ?_) (fun q17 => ?_)
                  · skip
                    exact c64 Z16 h16 hx16 hG16 (fr_tr (M := [(14, (-1)), (16, (-1)), (17, (-1)), (18, (-1)), (19, (-1)), (33, (-1))]) fr_rf (hf16) (M1 := []) rfl rfl)
                  · skip
                    refine mx_J.step (sn_77 56) (fun _ _ => rfl) ?_
                    refine JgetR (g := 2) (b := 33) hx16 (show mx_Sn _ _ 57 (mx_getf 9 2 60) from sn_77 57) a32 s32 rfl rfl (hG16.prr 32 2 rfl) ?_
                    refine mx_J.step (sn_77 60) (fun _ _ => rfl) ?_
                    refine JcL (z := 0) (show mx_Sn _ _ 62 (mx_const (.long 0) 63) from sn_77 62) rfl ?_
                    refine JlastL hx16 (show mx_Sn _ _ 63 (mx_last 1 64) from sn_77 63) a33 s33 rfl (by omega) (fun Z19 h19 hx19 hE19 => ?_)
                    have hG19 := GI_up hG16 hE19 (show (-9223372036854775808) ≤ 0 ∧ 0 ≤ 9223372036854775807 by omega) trivial rfl
                    exact c64 Z19 h19 hx19 hG19 (fr_tr (M := [(14, (-1)), (16, (-1)), (17, (-1)), (18, (-1)), (19, (-1)), (33, (-1))]) (fr_tr (M := [(14, (-1)), (16, (-1)), (17, (-1)), (18, (-1)), (19, (-1)), (33, (-1))]) fr_rf (hf16) (M1 := []) rfl rfl) (fr_ua hE19) rfl rfl)
          exact c15 (Int.toNat (385 - 0) + 1) 0 u2_4 Z3 h3 (by omega) (by omega) hx3 hG3 fr_rf
    exact c9 (Int.toNat ((y1 - 1) - (-1)) + 1) (y1 - 1) none none Z h (by omega) (by omega) hx hG fr_rf
theorem ct_77_32 {l : Launch} {D : va_G} {b0 : Nat} {ad : Nat → Nat} {Hb : Heap} {tau : Nat → Int64} {d n s : Nat} {S : Nat → xS} {Z : xZ} {h : mx_H} (hx : XH n s S Z h) (hG : GI n S Z)  {x0 : Int} (p0 : 1 ≤ x0 ∧ x0 ≤ 8) : ∃ (Z' : xZ) (h' : mx_H), mx_Ca (tB l D b0 ad Hb tau) (d + 6) 77 [.ref 32, xI x0] h (none, h') ∧ XH n s S Z' h' ∧ GI n S Z' ∧ fr' [(14, (-1)), (16, (-1)), (17, (-1)), (18, (-1)), (19, (-1)), (33, (-1))] Z Z' := by
  obtain ⟨r, hca, Z', h', e, q⟩ := Jmt (B := tB l D b0 ad Hb tau) (M := mt_77) (mi := 77) (as := [.ref 32, xI x0]) (d := d + 5) (ls := [some (.ref 32), some (xI x0), none, none, none]) rfl rfl rfl rfl rfl rfl (cw_77_32 (l := l) (D := D) (b0 := b0) (ad := ad) (Hb := Hb) (tau := tau) (d := d) (Post := fun r => ∃ (Z' : xZ) (h' : mx_H), r = (none, h') ∧ XH n s S Z' h' ∧ GI n S Z' ∧ fr' [(14, (-1)), (16, (-1)), (17, (-1)), (18, (-1)), (19, (-1)), (33, (-1))] Z Z') hx hG p0 (fun Z' h' q1 q2 q3 => ⟨Z', h', rfl, q1, q2, q3⟩))
  subst e; exact ⟨Z', h', hca, q⟩
set_option maxRecDepth 100000 in
theorem cw_80_32 {l : Launch} {D : va_G} {b0 : Nat} {ad : Nat → Nat} {Hb : Heap} {tau : Nat → Int64} {d n s : Nat} {S : Nat → xS} {Z : xZ} {h : mx_H} {Post : mx_R → Prop} (hx : XH n s S Z h) (hG : GI n S Z)  {x0 x1 : Int} (p0 : 0 ≤ x0 ∧ x0 ≤ 384) (p1 : 0 ≤ x1 ∧ x1 ≤ 8) (hP : ∀ (z : Int) (Z' : xZ) (h' : mx_H), XH n s S Z' h' → GI n S Z' → fr' [(14, (-1)), (16, (-1)), (17, (-1)), (18, (-1)), (19, (-1))] Z Z' → (-1) ≤ z ∧ z ≤ 18 → Post (some (xI z), h')) : mx_J (tB l D b0 ad Hb tau) mt_80 (d + 5) 0 [some (.ref 32), some (xI x0), some (xI x1), none, none] [] h Post := by
    have a12 : 12 < n := lt83 (GI_n hG) rfl
    have s12 : S 12 = .inl (4, [2, 2, 0, 2, 2, 2, 2, 2, 2]) := GI_s hG 12 rfl
    have a32 : 32 < n := lt83 (GI_n hG) rfl
    have s32 : S 32 = .inl (9, [2, 2, 2]) := GI_s hG 32 rfl
    refine mx_J.step (sn_80 0) (fun _ _ => rfl) ?_
    refine mx_J.step (ls2 := [some (.ref 32), some (xI x0), some (xI x1), some (xI x0), none]) (sn_80 1) (fun _ _ => rfl) ?_
    refine JcI (z := 0) (show mx_Sn _ _ 2 (mx_const (.int 0) 3) from sn_80 2) rfl ?_
    refine mx_J.step (ls2 := [some (.ref 32), some (xI x0), some (xI x1), some (xI x0), some (xI 0)]) (sn_80 3) (fun _ _ => rfl) ?_
    have c5 : ∀ (m1 : Nat) (w1_3 : Int) (w1_4 : Int) (Z2 : xZ) (h2 : mx_H), 8 - w1_4 < (m1 : Int) → (-1) ≤ w1_3 ∧ w1_3 ≤ 384 → 0 ≤ w1_4 ∧ w1_4 ≤ 8 → XH n s S Z2 h2 → GI n S Z2 → fr' [(14, (-1)), (16, (-1)), (17, (-1)), (18, (-1)), (19, (-1))] Z Z2 → mx_J (tB l D b0 ad Hb tau) mt_80 (d + 5) 5 [some (.ref 32), some (xI x0), some (xI x1), some (xI w1_3), some (xI w1_4)] [] h2 Post := by
      intro m1
      induction m1 with
      | zero => intro w1_3 w1_4 Z2 h2 q1 f1_0 f1_1 hx2 hG2 hf2; exact absurd q1 (by omega)
      | succ m1 ih1 =>
        intro w1_3 w1_4 Z2 h2 q1 f1_0 f1_1 hx2 hG2 hf2
        refine mx_J.step (sn_80 5) (fun _ _ => rfl) ?_
        refine mx_J.step (sn_80 7) (fun _ _ => rfl) ?_
        have c37 : mx_J (tB l D b0 ad Hb tau) mt_80 (d + 5) 37 [some (.ref 32), some (xI x0), some (xI x1), some (xI w1_3), some (xI w1_4)] [] h2 Post := by
          refine mx_J.step (sn_80 37) (fun _ _ => rfl) ?_
          have c51 : ∀ (k4_0 : Int) (Z5 : xZ) (h5 : mx_H), (-1) ≤ k4_0 ∧ k4_0 ≤ 18 → XH n s S Z5 h5 → GI n S Z5 → fr' [(14, (-1)), (16, (-1)), (17, (-1)), (18, (-1)), (19, (-1))] Z2 Z5 → mx_J (tB l D b0 ad Hb tau) mt_80 (d + 5) 51 [some (.ref 32), some (xI x0), some (xI x1), some (xI w1_3), some (xI w1_4)] [xI k4_0] h5 Post := by
            intro k4_0 Z5 h5 f4_0 hx5 hG5 hf5
            exact mx_J.ret (sn_80 51) (fun _ _ => rfl) (hP k4_0 Z5 h5 hx5 hG5 (fr_tr (M := [(14, (-1)), (16, (-1)), (17, (-1)), (18, (-1)), (19, (-1))]) (fr_tr (M := [(14, (-1)), (16, (-1)), (17, (-1)), (18, (-1)), (19, (-1))]) fr_rf (hf2) (M1 := []) rfl rfl) (hf5) rfl rfl) (by omega))
          refine Jif_ge (show mx_Sn _ _ 38 (mx_if_ge 45 41) from sn_80 38) (by omega) (fun q6 => ?_) (fun q6 => ?_)
          · skip
            refine mx_J.step (sn_80 45) (fun _ _ => rfl) ?_
            refine mx_J.step (sn_80 46) (fun _ _ => rfl) ?_
            refine mx_J.step (sn_80 47) (fun _ _ => rfl) ?_
            obtain ⟨z7, Z7, h7, hc7, hx7, hG7, hf7, b7⟩ := ct_78_32 (d := d + 0) (l := l) (D := D) (b0 := b0) (ad := ad) (Hb := Hb) (tau := tau) hx2 hG2 (show (-2147483648) ≤ w1_3 ∧ w1_3 ≤ 2147483647 by omega) (show 0 ≤ x1 ∧ x1 ≤ 8 by omega)
            refine Jcv hx2 (show mx_Sn _ _ 48 (mx_callv 78 3 9 51) from sn_80 48) a32 s32 hc7 rfl rfl rfl ?_
            exact c51 z7 Z7 h7 (by omega) hx7 hG7 (fr_tr (M := [(14, (-1)), (16, (-1)), (17, (-1)), (18, (-1)), (19, (-1))]) fr_rf (hf7) (M1 := []) rfl rfl)
          · skip
            refine JcI (z := (-1)) (show mx_Sn _ _ 41 (mx_const (.int (-1)) 42) from sn_80 41) rfl ?_
            refine mx_J.step (sn_80 42) (fun _ _ => rfl) ?_
            exact c51 (-1) Z2 h2 (by omega) hx2 hG2 fr_rf
        refine Jicmp_ge (show mx_Sn _ _ 8 (mx_icmp_ge 37 11) from sn_80 8) (by omega) (by omega) (fun q8 => ?_) (fun q8 => ?_)
        · skip
          exact c37 
        · skip
          refine mx_J.step (sn_80 11) (fun _ _ => rfl) ?_
          refine Jif_lt (show mx_Sn _ _ 12 (mx_if_lt 37 15) from sn_80 12) (by omega) (fun q9 => ?_) (fun q9 => ?_)
          · skip
            exact c37 
          · skip
            refine mx_J.step (sn_80 15) (fun _ _ => rfl) ?_
            refine JgetR (g := 1) (b := 12) hx2 (show mx_Sn _ _ 16 (mx_getf 9 1 19) from sn_80 16) a32 s32 rfl rfl (hG2.prr 32 1 rfl) ?_
            refine mx_J.step (sn_80 19) (fun _ _ => rfl) ?_
            refine mx_J.step (sn_80 20) (fun _ _ => rfl) ?_
            refine mx_J.step (sn_80 21) (fun _ _ => rfl) ?_
            refine mx_J.step (sn_80 22) (fun _ _ => rfl) ?_
            obtain ⟨z11, Z11, h11, hc11, hx11, hG11, hf11, b11⟩ := ct_78_32 (d := d + 0) (l := l) (D := D) (b0 := b0) (ad := ad) (Hb := Hb) (tau := tau) hx2 hG2 (show (-2147483648) ≤ w1_3 ∧ w1_3 ≤ 2147483647 by omega) (show 0 ≤ w1_4 ∧ w1_4 ≤ 8 by omega)
            refine Jcv hx2 (show mx_Sn _ _ 24 (mx_callv 78 3 9 27) from sn_80 24) a32 s32 hc11 rfl rfl rfl ?_
            obtain ⟨z12, Z12, h12, hc12, hx12, hG12, hf12, b12⟩ := ct_26_12 (d := d + 1) (l := l) (D := D) (b0 := b0) (ad := ad) (Hb := Hb) (tau := tau) hx11 hG11 (show (-2147483648) ≤ w1_3 ∧ w1_3 ≤ 2147483647 by omega) (show (-2147483648) ≤ z11 ∧ z11 ≤ 2147483647 by omega)
            refine Jcv hx11 (show mx_Sn _ _ 27 (mx_callv 26 3 4 30) from sn_80 27) a12 s12 hc12 rfl rfl rfl ?_
            refine mx_J.step (ls2 := [some (.ref 32), some (xI x0), some (xI x1), some (xI z12), some (xI w1_4)]) (sn_80 30) (fun _ _ => rfl) ?_
            refine Jiinc (z := w1_4) (cz := 1) (ls2 := [some (.ref 32), some (xI x0), some (xI x1), some (xI z12), some (xI (w1_4 + 1))]) (show mx_Sn _ _ 31 (mx_iinc 4 1 34) from sn_80 31) rfl rfl rfl rfl ?_
            refine mx_J.step (sn_80 34) (fun _ _ => rfl) ?_
            exact ih1 z12 (w1_4 + 1) Z12 h12 (by omega) (by omega) (by omega) hx12 hG12 (fr_tr (M := [(14, (-1)), (16, (-1)), (17, (-1)), (18, (-1)), (19, (-1))]) (fr_tr (M := [(14, (-1)), (16, (-1)), (17, (-1)), (18, (-1)), (19, (-1))]) (fr_tr (M := [(14, (-1)), (16, (-1)), (17, (-1)), (18, (-1)), (19, (-1))]) fr_rf (hf2) (M1 := []) rfl rfl) (hf11) rfl rfl) (hf12) rfl rfl)
    exact c5 (Int.toNat (8 - 0) + 1) x0 0 Z h (by omega) (by omega) (by omega) hx hG fr_rf
theorem ct_80_32 {l : Launch} {D : va_G} {b0 : Nat} {ad : Nat → Nat} {Hb : Heap} {tau : Nat → Int64} {d n s : Nat} {S : Nat → xS} {Z : xZ} {h : mx_H} (hx : XH n s S Z h) (hG : GI n S Z)  {x0 x1 : Int} (p0 : 0 ≤ x0 ∧ x0 ≤ 384) (p1 : 0 ≤ x1 ∧ x1 ≤ 8) : ∃ (z : Int) (Z' : xZ) (h' : mx_H), mx_Ca (tB l D b0 ad Hb tau) (d + 6) 80 [.ref 32, xI x0, xI x1] h (some (xI z), h') ∧ XH n s S Z' h' ∧ GI n S Z' ∧ fr' [(14, (-1)), (16, (-1)), (17, (-1)), (18, (-1)), (19, (-1))] Z Z' ∧ ((-1) ≤ z ∧ z ≤ 18) := by
  obtain ⟨r, hca, z, Z', h', e, q⟩ := Jmt (B := tB l D b0 ad Hb tau) (M := mt_80) (mi := 80) (as := [.ref 32, xI x0, xI x1]) (d := d + 5) (ls := [some (.ref 32), some (xI x0), some (xI x1), none, none]) rfl rfl rfl rfl rfl rfl (cw_80_32 (l := l) (D := D) (b0 := b0) (ad := ad) (Hb := Hb) (tau := tau) (d := d) (Post := fun r => ∃ (z : Int) (Z' : xZ) (h' : mx_H), r = (some (xI z), h') ∧ XH n s S Z' h' ∧ GI n S Z' ∧ fr' [(14, (-1)), (16, (-1)), (17, (-1)), (18, (-1)), (19, (-1))] Z Z' ∧ ((-1) ≤ z ∧ z ≤ 18)) hx hG p0 p1 (fun z Z' h' q1 q2 q3 q4 => ⟨z, Z', h', rfl, q1, q2, q3, q4⟩))
  subst e; exact ⟨z, Z', h', hca, q⟩
set_option maxRecDepth 100000 in
theorem cw_81_32 {l : Launch} {D : va_G} {b0 : Nat} {ad : Nat → Nat} {Hb : Heap} {tau : Nat → Int64} {d n s : Nat} {S : Nat → xS} {Z : xZ} {h : mx_H} {Post : mx_R → Prop} (hx : XH n s S Z h) (hG : GI n S Z)  {x0 : Int} (p0 : 0 ≤ x0 ∧ x0 ≤ 7) (hP : ∀ (z : Int) (Z' : xZ) (h' : mx_H), XH n s S Z' h' → GI n S Z' → fr' [(14, (-1)), (16, (-1)), (17, (-1)), (18, (-1)), (19, (-1))] Z Z' → (-2147483648) ≤ z ∧ z ≤ 2147483647 → Post (some (xI z), h')) : mx_J (tB l D b0 ad Hb tau) mt_81 (d + 4) 0 [some (.ref 32), some (xI x0), none, none, none, none] [] h Post := by
    have a7 : 7 < n := lt83 (GI_n hG) rfl
    have s7 : S 7 = .inl (0, [2, 2, 2, 2, 0, 0]) := GI_s hG 7 rfl
    have a12 : 12 < n := lt83 (GI_n hG) rfl
    have s12 : S 12 = .inl (4, [2, 2, 0, 2, 2, 2, 2, 2, 2]) := GI_s hG 12 rfl
    have a32 : 32 < n := lt83 (GI_n hG) rfl
    have s32 : S 32 = .inl (9, [2, 2, 2]) := GI_s hG 32 rfl
    have a33 : 33 < n := lt83 (GI_n hG) rfl
    have s33 : S 33 = .inr (.long, 3850, 1) := GI_s hG 33 rfl
    refine JcI (z := 0) (show mx_Sn _ _ 0 (mx_const (.int 0) 1) from sn_81 0) rfl ?_
    refine mx_J.step (ls2 := [some (.ref 32), some (xI x0), some (xI 0), none, none, none]) (sn_81 1) (fun _ _ => rfl) ?_
    refine JcI (z := 0) (show mx_Sn _ _ 2 (mx_const (.int 0) 3) from sn_81 2) rfl ?_
    refine mx_J.step (ls2 := [some (.ref 32), some (xI x0), some (xI 0), some (xI 0), none, none]) (sn_81 3) (fun _ _ => rfl) ?_
    have c4 : ∀ (m1 : Nat) (w1_2 : Int) (w1_3 : Int) (u1_4 : Option Value) (u1_5 : Option Value) (Z2 : xZ) (h2 : mx_H), 385 - w1_3 < (m1 : Int) → (-2147483648) ≤ w1_2 ∧ w1_2 ≤ 2147483647 → 0 ≤ w1_3 ∧ w1_3 ≤ 385 → XH n s S Z2 h2 → GI n S Z2 → fr' [(14, (-1)), (16, (-1)), (17, (-1)), (18, (-1)), (19, (-1))] Z Z2 → mx_J (tB l D b0 ad Hb tau) mt_81 (d + 4) 4 [some (.ref 32), some (xI x0), some (xI w1_2), some (xI w1_3), u1_4, u1_5] [] h2 Post := by
      intro m1
      induction m1 with
      | zero => intro w1_2 w1_3 u1_4 u1_5 Z2 h2 q1 f1_0 f1_1 hx2 hG2 hf2; exact absurd q1 (by omega)
      | succ m1 ih1 =>
        intro w1_2 w1_3 u1_4 u1_5 Z2 h2 q1 f1_0 f1_1 hx2 hG2 hf2
        refine mx_J.step (sn_81 4) (fun _ _ => rfl) ?_
        refine mx_J.step (sn_81 5) (fun _ _ => rfl) ?_
        refine JgetR (g := 0) (b := 7) hx2 (show mx_Sn _ _ 6 (mx_getf 9 0 9) from sn_81 6) a32 s32 rfl rfl (hG2.prr 32 0 rfl) ?_
        have b5 : 0 ≤ Z 7 5 ∧ Z 7 5 ≤ 385 := hG.pr 7 5
        refine JgetI (g := 5) (z := Z 7 5) hx2 (show mx_Sn _ _ 9 (mx_getf 0 5 12) from sn_81 9) a7 s7 rfl rfl (hf2 7 5 rfl) ?_
        refine Jicmp_ge (show mx_Sn _ _ 12 (mx_icmp_ge 94 15) from sn_81 12) (by omega) (by omega) (fun q6 => ?_) (fun q6 => ?_)
        · skip
          refine mx_J.step (sn_81 94) (fun _ _ => rfl) ?_
          exact mx_J.ret (sn_81 95) (fun _ _ => rfl) (hP w1_2 Z2 h2 hx2 hG2 (fr_tr (M := [(14, (-1)), (16, (-1)), (17, (-1)), (18, (-1)), (19, (-1))]) fr_rf (hf2) (M1 := []) rfl rfl) (by omega))
        · skip
          refine mx_J.step (sn_81 15) (fun _ _ => rfl) ?_
          refine JgetR (g := 2) (b := 33) hx2 (show mx_Sn _ _ 16 (mx_getf 9 2 19) from sn_81 16) a32 s32 rfl rfl (hG2.prr 32 2 rfl) ?_
          refine mx_J.step (sn_81 19) (fun _ _ => rfl) ?_
          refine JcI (z := 385) (show mx_Sn _ _ 20 (mx_const (.int 385) 23) from sn_81 20) rfl ?_
          refine Jimul (show mx_Sn _ _ 23 (mx_imul 24) from sn_81 23) ?_
          refine mx_J.step (sn_81 24) (fun _ _ => rfl) ?_
          refine Jiadd (show mx_Sn _ _ 25 (mx_iadd 26) from sn_81 25) ?_
          have b8 : (-9223372036854775808) ≤ Z 33 ((x0 * 385) + w1_3) ∧ Z 33 ((x0 * 385) + w1_3) ≤ 9223372036854775807 := hG.pr 33 ((x0 * 385) + w1_3)
          refine JlaldL (z := Z 33 ((x0 * 385) + w1_3)) hx2 (show mx_Sn _ _ 26 (mx_lald 27) from sn_81 26) a33 s33 (by omega) (hf2 33 ((x0 * 385) + w1_3) rfl) ?_
          refine JcL (z := 0) (show mx_Sn _ _ 27 (mx_const (.long 0) 28) from sn_81 27) rfl ?_
          have c45 : ∀ (k9_0 : Int), (-1) ≤ k9_0 ∧ k9_0 ≤ 18 → mx_J (tB l D b0 ad Hb tau) mt_81 (d + 4) 45 [some (.ref 32), some (xI x0), some (xI w1_2), some (xI w1_3), u1_4, u1_5] [xI k9_0] h2 Post := by
            intro k9_0 f9_0
            refine mx_J.step (ls2 := [some (.ref 32), some (xI x0), some (xI w1_2), some (xI w1_3), some (xI k9_0), u1_5]) (sn_81 45) (fun _ _ => rfl) ?_
            refine JcI (z := 0) (show mx_Sn _ _ 47 (mx_const (.int 0) 48) from sn_81 47) rfl ?_
            refine mx_J.step (ls2 := [some (.ref 32), some (xI x0), some (xI w1_2), some (xI w1_3), some (xI k9_0), some (xI 0)]) (sn_81 48) (fun _ _ => rfl) ?_
            have c50 : ∀ (m10 : Nat) (w10_2 : Int) (w10_5 : Int) (Z11 : xZ) (h11 : mx_H), 19 - w10_5 < (m10 : Int) → (-2147483648) ≤ w10_2 ∧ w10_2 ≤ 2147483647 → 0 ≤ w10_5 ∧ w10_5 ≤ 19 → XH n s S Z11 h11 → GI n S Z11 → fr' [(14, (-1)), (16, (-1)), (17, (-1)), (18, (-1)), (19, (-1))] Z2 Z11 → mx_J (tB l D b0 ad Hb tau) mt_81 (d + 4) 50 [some (.ref 32), some (xI x0), some (xI w10_2), some (xI w1_3), some (xI k9_0), some (xI w10_5)] [] h11 Post := by
              intro m10
              induction m10 with
              | zero => intro w10_2 w10_5 Z11 h11 q10 f10_0 f10_1 hx11 hG11 hf11; exact absurd q10 (by omega)
              | succ m10 ih10 =>
                intro w10_2 w10_5 Z11 h11 q10 f10_0 f10_1 hx11 hG11 hf11
                refine mx_J.step (sn_81 50) (fun _ _ => rfl) ?_
                refine mx_J.step (sn_81 52) (fun _ _ => rfl) ?_
                refine Jicmp_gt (show mx_Sn _ _ 54 (mx_icmp_gt 88 57) from sn_81 54) (by omega) (by omega) (fun q12 => ?_) (fun q12 => ?_)
                · skip
                  refine Jiinc (z := w1_3) (cz := 1) (ls2 := [some (.ref 32), some (xI x0), some (xI w10_2), some (xI (w1_3 + 1)), some (xI k9_0), some (xI w10_5)]) (show mx_Sn _ _ 88 (mx_iinc 3 1 91) from sn_81 88) rfl rfl rfl rfl ?_
                  refine mx_J.step (sn_81 91) (fun _ _ => rfl) ?_
                  exact ih1 w10_2 (w1_3 + 1) (some (xI k9_0)) (some (xI w10_5)) Z11 h11 (by omega) (by omega) (by omega) hx11 hG11 (fr_tr (M := [(14, (-1)), (16, (-1)), (17, (-1)), (18, (-1)), (19, (-1))]) (fr_tr (M := [(14, (-1)), (16, (-1)), (17, (-1)), (18, (-1)), (19, (-1))]) fr_rf (hf2) (M1 := []) rfl rfl) (hf11) rfl rfl)
                · skip
                  refine mx_J.step (sn_81 57) (fun _ _ => rfl) ?_
                  refine mx_J.step (sn_81 58) (fun _ _ => rfl) ?_
                  refine JgetR (g := 1) (b := 12) hx11 (show mx_Sn _ _ 59 (mx_getf 9 1 62) from sn_81 59) a32 s32 rfl rfl (hG11.prr 32 1 rfl) ?_
                  refine mx_J.step (sn_81 62) (fun _ _ => rfl) ?_
                  refine mx_J.step (sn_81 63) (fun _ _ => rfl) ?_
                  obtain ⟨z14, Z14, h14, hc14, hx14, hG14, hf14, b14⟩ := ct_26_12 (d := d + 0) (l := l) (D := D) (b0 := b0) (ad := ad) (Hb := Hb) (tau := tau) hx11 hG11 (show (-2147483648) ≤ w1_3 ∧ w1_3 ≤ 2147483647 by omega) (show (-2147483648) ≤ w10_5 ∧ w10_5 ≤ 2147483647 by omega)
                  refine Jcv hx11 (show mx_Sn _ _ 65 (mx_callv 26 3 4 68) from sn_81 65) a12 s12 hc14 rfl rfl rfl ?_
                  refine mx_J.step (sn_81 68) (fun _ _ => rfl) ?_
                  obtain ⟨z15, hc15, b15⟩ := ct_79_32 (d := d + 3) (l := l) (D := D) (b0 := b0) (ad := ad) (Hb := Hb) (tau := tau) hx14 hG14 (show (-1) ≤ z14 ∧ z14 ≤ 384 by omega) (show 0 ≤ x0 ∧ x0 ≤ 8 by omega)
                  refine Jcv hx14 (show mx_Sn _ _ 69 (mx_callv 79 3 9 72) from sn_81 69) a32 s32 hc15 rfl rfl rfl ?_
                  have c82 : ∀ (w16_2 : Int), (-2147483648) ≤ w16_2 ∧ w16_2 ≤ 2147483647 → mx_J (tB l D b0 ad Hb tau) mt_81 (d + 4) 82 [some (.ref 32), some (xI x0), some (xI w16_2), some (xI w1_3), some (xI k9_0), some (xI w10_5)] [] h14 Post := by
                    intro w16_2 f16_0
                    refine Jiinc (z := w10_5) (cz := 1) (ls2 := [some (.ref 32), some (xI x0), some (xI w16_2), some (xI w1_3), some (xI k9_0), some (xI (w10_5 + 1))]) (show mx_Sn _ _ 82 (mx_iinc 5 1 85) from sn_81 82) rfl rfl rfl rfl ?_
                    refine mx_J.step (sn_81 85) (fun _ _ => rfl) ?_
                    exact ih10 w16_2 (w10_5 + 1) Z14 h14 (by omega) (by omega) (by omega) hx14 hG14 (fr_tr (M := [(14, (-1)), (16, (-1)), (17, (-1)), (18, (-1)), (19, (-1))]) (fr_tr (M := [(14, (-1)), (16, (-1)), (17, (-1)), (18, (-1)), (19, (-1))]) fr_rf (hf11) (M1 := []) rfl rfl) (hf14) rfl rfl)
                  refine Jif_eq (show mx_Sn _ _ 72 (mx_if_eq 82 75) from sn_81 72) (by omega) (fun q17 => ?_) (fun q17 => ?_)
                  · skip
                    exact c82 w10_2 (by omega)
                  · skip
                    refine mx_J.step (sn_81 75) (fun _ _ => rfl) ?_
                    refine JcI (z := 1) (show mx_Sn _ _ 76 (mx_const (.int 1) 77) from sn_81 76) rfl ?_
                    refine mx_J.step (sn_81 77) (fun _ _ => rfl) ?_
                    refine JishlX (show mx_Sn _ _ 79 (mx_ishl 80) from sn_81 79) (fun y18 hy18 => ?_)
                    refine JiorX (show mx_Sn _ _ 80 (mx_ior 81) from sn_81 80) (fun y19 hy19 => ?_)
                    refine mx_J.step (ls2 := [some (.ref 32), some (xI x0), some (xI y19), some (xI w1_3), some (xI k9_0), some (xI w10_5)]) (sn_81 81) (fun _ _ => rfl) ?_
                    exact c82 y19 (by omega)
            exact c50 (Int.toNat (19 - 0) + 1) w1_2 0 Z2 h2 (by omega) (by omega) (by omega) hx2 hG2 fr_rf
          refine Jlif_le (show mx_Sn _ _ 28 (mx_lif_le 44 32) from sn_81 28) (by omega) (by omega) (fun q20 => ?_) (fun q20 => ?_)
          · skip
            refine JcI (z := (-1)) (show mx_Sn _ _ 44 (mx_const (.int (-1)) 45) from sn_81 44) rfl ?_
            exact c45 (-1) (by omega)
          · skip
            refine mx_J.step (sn_81 32) (fun _ _ => rfl) ?_
            refine JgetR (g := 0) (b := 7) hx2 (show mx_Sn _ _ 33 (mx_getf 9 0 36) from sn_81 33) a32 s32 rfl rfl (hG2.prr 32 0 rfl) ?_
            refine mx_J.step (sn_81 36) (fun _ _ => rfl) ?_
            refine JcI (z := 0) (show mx_Sn _ _ 37 (mx_const (.int 0) 38) from sn_81 37) rfl ?_
            have eq23 : Z2 9 (w1_3 * 18 + 0) = Z 9 (w1_3 * 18 + 0) := (hf2 9 (w1_3 * 18 + 0) rfl)
            have b24 : 0 ≤ Z 9 (w1_3 * 18 + 0) ∧ Z 9 (w1_3 * 18 + 0) ≤ 18 := hG.pr 9 (w1_3 * 18 + 0)
            have eq25 : Z2 10 w1_3 = Z 10 w1_3 := (hf2 10 w1_3 rfl)
            have b26 : 0 ≤ Z 10 w1_3 ∧ Z 10 w1_3 ≤ 18 := hG.pr 10 w1_3
            have eq27 : Z2 7 5 = Z 7 5 := (hf2 7 5 rfl)
            obtain ⟨z22, hc22, b22⟩ := ct_6_7 (d := d + 2) (l := l) (D := D) (b0 := b0) (ad := ad) (Hb := Hb) (tau := tau) hx2 hG2 (show (-2147483648) ≤ w1_3 ∧ w1_3 ≤ 2147483647 by omega) (show (-2147483648) ≤ 0 ∧ 0 ≤ 2147483647 by omega)
            try rw [eq23] at b22
            try rw [eq25] at b22
            try rw [eq27] at b22
            refine Jcv hx2 (show mx_Sn _ _ 38 (mx_callv 6 3 0 41) from sn_81 38) a7 s7 hc22 rfl rfl rfl ?_
            refine mx_J.step (sn_81 41) (fun _ _ => rfl) ?_
            exact c45 z22 (by omega)
    exact c4 (Int.toNat (385 - 0) + 1) 0 0 none none Z h (by omega) (by omega) (by omega) hx hG fr_rf
theorem ct_81_32 {l : Launch} {D : va_G} {b0 : Nat} {ad : Nat → Nat} {Hb : Heap} {tau : Nat → Int64} {d n s : Nat} {S : Nat → xS} {Z : xZ} {h : mx_H} (hx : XH n s S Z h) (hG : GI n S Z)  {x0 : Int} (p0 : 0 ≤ x0 ∧ x0 ≤ 7) : ∃ (z : Int) (Z' : xZ) (h' : mx_H), mx_Ca (tB l D b0 ad Hb tau) (d + 5) 81 [.ref 32, xI x0] h (some (xI z), h') ∧ XH n s S Z' h' ∧ GI n S Z' ∧ fr' [(14, (-1)), (16, (-1)), (17, (-1)), (18, (-1)), (19, (-1))] Z Z' ∧ ((-2147483648) ≤ z ∧ z ≤ 2147483647) := by
  obtain ⟨r, hca, z, Z', h', e, q⟩ := Jmt (B := tB l D b0 ad Hb tau) (M := mt_81) (mi := 81) (as := [.ref 32, xI x0]) (d := d + 4) (ls := [some (.ref 32), some (xI x0), none, none, none, none]) rfl rfl rfl rfl rfl rfl (cw_81_32 (l := l) (D := D) (b0 := b0) (ad := ad) (Hb := Hb) (tau := tau) (d := d) (Post := fun r => ∃ (z : Int) (Z' : xZ) (h' : mx_H), r = (some (xI z), h') ∧ XH n s S Z' h' ∧ GI n S Z' ∧ fr' [(14, (-1)), (16, (-1)), (17, (-1)), (18, (-1)), (19, (-1))] Z Z' ∧ ((-2147483648) ≤ z ∧ z ≤ 2147483647)) hx hG p0 (fun z Z' h' q1 q2 q3 q4 => ⟨z, Z', h', rfl, q1, q2, q3, q4⟩))
  subst e; exact ⟨z, Z', h', hca, q⟩
set_option maxRecDepth 100000 in
theorem cw_143_1_38 {l : Launch} {D : va_G} {b0 : Nat} {ad : Nat → Nat} {Hb : Heap} {tau : Nat → Int64} {d n s : Nat} {S : Nat → xS} {Z : xZ} {h : mx_H} {Post : mx_R → Prop} (hx : XH n s S Z h) (hG : GI n S Z)  {x0 : Int} (p0 : (-2147483648) ≤ x0 ∧ x0 ≤ 2147483647) (hP : ∀ (z : Int) (Z' : xZ) (h' : mx_H), XH n s S Z' h' → GI n S Z' → fr' [(38, 3)] Z Z' → 0 ≤ z ∧ z ≤ 1 → Post (some (xI z), h')) : mx_J (tB l D b0 ad Hb tau) mt_143 (d + 0) 0 [some (.ref 1), some (.ref 38), some (xI x0)] [] h Post := by
    have a38 : 38 < n := lt83 (GI_n hG) rfl
    have s38 : S 38 = .inl (5, [2, 0, 0, 0, 0, 0]) := GI_s hG 38 rfl
    refine mx_J.step (sn_143 0) (fun _ _ => rfl) ?_
    have c10 : mx_J (tB l D b0 ad Hb tau) mt_143 (d + 0) 10 [some (.ref 1), some (.ref 38), some (xI x0)] [] h Post := by
      refine JcI (z := 1) (show mx_Sn _ _ 10 (mx_const (.int 1) 11) from sn_143 10) rfl ?_
      exact mx_J.ret (sn_143 11) (fun _ _ => rfl) (hP 1 Z h hx hG fr_rf (by omega))
    refine Jif_lt (show mx_Sn _ _ 1 (mx_if_lt 10 4) from sn_143 1) (by omega) (fun q2 => ?_) (fun q2 => ?_)
    · skip
      exact c10 
    · skip
      refine mx_J.step (sn_143 4) (fun _ _ => rfl) ?_
      refine JcI (z := 10) (show mx_Sn _ _ 5 (mx_const (.int 10) 7) from sn_143 5) rfl ?_
      refine Jicmp_lt (show mx_Sn _ _ 7 (mx_icmp_lt 12 10) from sn_143 7) (by omega) (by omega) (fun q3 => ?_) (fun q3 => ?_)
      · skip
        refine mx_J.step (sn_143 12) (fun _ _ => rfl) ?_
        refine mx_J.step (sn_143 13) (fun _ _ => rfl) ?_
        refine JputI (g := 3) hx (show mx_Sn _ _ 14 (mx_putf 1 5 3 (.int) 17) from sn_143 14) a38 s38 rfl rfl rfl rfl (fun Z4 h4 hx4 hE4 => ?_)
        have hG4 := GI_up hG hE4 (show 0 ≤ x0 ∧ x0 ≤ 9 by omega) trivial rfl
        refine JcI (z := 0) (show mx_Sn _ _ 17 (mx_const (.int 0) 18) from sn_143 17) rfl ?_
        exact mx_J.ret (sn_143 18) (fun _ _ => rfl) (hP 0 Z4 h4 hx4 hG4 (fr_tr (M := [(38, 3)]) fr_rf (fr_up hE4) (M1 := []) rfl rfl) (by omega))
      · skip
        exact c10 
theorem ct_143_1_38 {l : Launch} {D : va_G} {b0 : Nat} {ad : Nat → Nat} {Hb : Heap} {tau : Nat → Int64} {d n s : Nat} {S : Nat → xS} {Z : xZ} {h : mx_H} (hx : XH n s S Z h) (hG : GI n S Z)  {x0 : Int} (p0 : (-2147483648) ≤ x0 ∧ x0 ≤ 2147483647) : ∃ (z : Int) (Z' : xZ) (h' : mx_H), mx_Ca (tB l D b0 ad Hb tau) (d + 1) 143 [.ref 1, .ref 38, xI x0] h (some (xI z), h') ∧ XH n s S Z' h' ∧ GI n S Z' ∧ fr' [(38, 3)] Z Z' ∧ (0 ≤ z ∧ z ≤ 1) := by
  obtain ⟨r, hca, z, Z', h', e, q⟩ := Jmt (B := tB l D b0 ad Hb tau) (M := mt_143) (mi := 143) (as := [.ref 1, .ref 38, xI x0]) (d := d + 0) (ls := [some (.ref 1), some (.ref 38), some (xI x0)]) rfl rfl rfl rfl rfl rfl (cw_143_1_38 (l := l) (D := D) (b0 := b0) (ad := ad) (Hb := Hb) (tau := tau) (d := d) (Post := fun r => ∃ (z : Int) (Z' : xZ) (h' : mx_H), r = (some (xI z), h') ∧ XH n s S Z' h' ∧ GI n S Z' ∧ fr' [(38, 3)] Z Z' ∧ (0 ≤ z ∧ z ≤ 1)) hx hG p0 (fun z Z' h' q1 q2 q3 q4 => ⟨z, Z', h', rfl, q1, q2, q3, q4⟩))
  subst e; exact ⟨z, Z', h', hca, q⟩
set_option maxRecDepth 100000 in
theorem cw_140_1_38 {l : Launch} {D : va_G} {b0 : Nat} {ad : Nat → Nat} {Hb : Heap} {tau : Nat → Int64} {d n s : Nat} {S : Nat → xS} {Z : xZ} {h : mx_H} {Post : mx_R → Prop} (hx : XH n s S Z h) (hG : GI n S Z)  {x0 : Int} (p0 : (-2147483648) ≤ x0 ∧ x0 ≤ 2147483647) (hP : ∀ (z : Int) (Z' : xZ) (h' : mx_H), XH n s S Z' h' → GI n S Z' → fr' [(12, 2), (14, (-1)), (16, (-1)), (17, (-1)), (18, (-1)), (19, (-1)), (38, 2), (38, 4)] Z Z' → 0 ≤ z ∧ z ≤ 2 → Post (some (xI z), h')) : mx_J (tB l D b0 ad Hb tau) mt_140 (d + 4) 0 [some (.ref 1), some (.ref 38), some (xI x0), none] [] h Post := by
    have a1 : 1 < n := lt83 (GI_n hG) rfl
    have s1 : S 1 = .inl (11, [2, 0, 0, 0, 2, 2, 2, 2, 2, 2, 2, 2, 2, 2, 2, 2, 2]) := GI_s hG 1 rfl
    have a12 : 12 < n := lt83 (GI_n hG) rfl
    have s12 : S 12 = .inl (4, [2, 2, 0, 2, 2, 2, 2, 2, 2]) := GI_s hG 12 rfl
    have a38 : 38 < n := lt83 (GI_n hG) rfl
    have s38 : S 38 = .inl (5, [2, 0, 0, 0, 0, 0]) := GI_s hG 38 rfl
    refine mx_J.step (sn_140 0) (fun _ _ => rfl) ?_
    have c10 : mx_J (tB l D b0 ad Hb tau) mt_140 (d + 4) 10 [some (.ref 1), some (.ref 38), some (xI x0), none] [] h Post := by
      refine JcI (z := 1) (show mx_Sn _ _ 10 (mx_const (.int 1) 11) from sn_140 10) rfl ?_
      exact mx_J.ret (sn_140 11) (fun _ _ => rfl) (hP 1 Z h hx hG fr_rf (by omega))
    refine Jif_lt (show mx_Sn _ _ 1 (mx_if_lt 10 4) from sn_140 1) (by omega) (fun q2 => ?_) (fun q2 => ?_)
    · skip
      exact c10 
    · skip
      refine mx_J.step (sn_140 4) (fun _ _ => rfl) ?_
      refine JcI (z := 18) (show mx_Sn _ _ 5 (mx_const (.int 18) 7) from sn_140 5) rfl ?_
      refine Jicmp_le (show mx_Sn _ _ 7 (mx_icmp_le 12 10) from sn_140 7) (by omega) (by omega) (fun q3 => ?_) (fun q3 => ?_)
      · skip
        refine mx_J.step (sn_140 12) (fun _ _ => rfl) ?_
        refine JgetR (g := 6) (b := 12) hx (show mx_Sn _ _ 13 (mx_getf 11 6 16) from sn_140 13) a1 s1 rfl rfl (hG.prr 1 6 rfl) ?_
        refine mx_J.step (sn_140 16) (fun _ _ => rfl) ?_
        have b6 : 0 ≤ Z 38 3 ∧ Z 38 3 ≤ 9 := hG.pr 38 3
        refine JgetI (g := 3) (z := Z 38 3) hx (show mx_Sn _ _ 17 (mx_getf 5 3 20) from sn_140 17) a38 s38 rfl rfl rfl ?_
        obtain ⟨Z7, h7, hc7, hx7, hG7, hf7⟩ := ct_25_12 (d := d + 3) (l := l) (D := D) (b0 := b0) (ad := ad) (Hb := Hb) (tau := tau) hx hG (show 0 ≤ Z 38 3 ∧ Z 38 3 ≤ 9 by omega)
        refine Jcv0 hx (show mx_Sn _ _ 20 (mx_callv 25 2 4 23) from sn_140 20) a12 s12 hc7 rfl rfl rfl ?_
        refine mx_J.step (sn_140 23) (fun _ _ => rfl) ?_
        refine JgetR (g := 6) (b := 12) hx7 (show mx_Sn _ _ 24 (mx_getf 11 6 27) from sn_140 24) a1 s1 rfl rfl (hG7.prr 1 6 rfl) ?_
        refine mx_J.step (sn_140 27) (fun _ _ => rfl) ?_
        have b10 : 0 ≤ Z 38 2 ∧ Z 38 2 ≤ 384 := hG.pr 38 2
        refine JgetI (g := 2) (z := Z 38 2) hx7 (show mx_Sn _ _ 28 (mx_getf 5 2 31) from sn_140 28) a38 s38 rfl rfl (hf7 38 2 rfl) ?_
        refine mx_J.step (sn_140 31) (fun _ _ => rfl) ?_
        obtain ⟨z11, Z11, h11, hc11, hx11, hG11, hf11, b11⟩ := ct_26_12 (d := d + 0) (l := l) (D := D) (b0 := b0) (ad := ad) (Hb := Hb) (tau := tau) hx7 hG7 (show (-2147483648) ≤ Z 38 2 ∧ Z 38 2 ≤ 2147483647 by omega) (show (-2147483648) ≤ x0 ∧ x0 ≤ 2147483647 by omega)
        refine Jcv hx7 (show mx_Sn _ _ 32 (mx_callv 26 3 4 35) from sn_140 32) a12 s12 hc11 rfl rfl rfl ?_
        refine mx_J.step (ls2 := [some (.ref 1), some (.ref 38), some (xI x0), some (xI z11)]) (sn_140 35) (fun _ _ => rfl) ?_
        refine mx_J.step (sn_140 36) (fun _ _ => rfl) ?_
        refine Jif_ge (show mx_Sn _ _ 37 (mx_if_ge 42 40) from sn_140 37) (by omega) (fun q12 => ?_) (fun q12 => ?_)
        · skip
          refine mx_J.step (sn_140 42) (fun _ _ => rfl) ?_
          refine mx_J.step (sn_140 43) (fun _ _ => rfl) ?_
          refine JputI (g := 2) hx11 (show mx_Sn _ _ 44 (mx_putf 1 5 2 (.int) 47) from sn_140 44) a38 s38 rfl rfl rfl rfl (fun Z13 h13 hx13 hE13 => ?_)
          have hG13 := GI_up hG11 hE13 (show 0 ≤ z11 ∧ z11 ≤ 384 by omega) trivial rfl
          refine mx_J.step (sn_140 47) (fun _ _ => rfl) ?_
          refine mx_J.step (sn_140 48) (fun _ _ => rfl) ?_
          have b15 : (-2147483648) ≤ Z 38 4 ∧ Z 38 4 ≤ 2147483647 := hG.pr 38 4
          refine JgetI (g := 4) (z := Z 38 4) hx13 (show mx_Sn _ _ 49 (mx_getf 5 4 52) from sn_140 49) a38 s38 rfl rfl ((up_ni hE13 (by decide)).trans ((hf11 38 4 rfl).trans (hf7 38 4 rfl))) ?_
          refine JcI (z := 1) (show mx_Sn _ _ 52 (mx_const (.int 1) 53) from sn_140 52) rfl ?_
          refine JiaddN (show mx_Sn _ _ 53 (mx_iadd 54) from sn_140 53) (fun y16 hy16 hq16 => ?_)
          refine JputI (g := 4) hx13 (show mx_Sn _ _ 54 (mx_putf 1 5 4 (.int) 57) from sn_140 54) a38 s38 rfl rfl rfl rfl (fun Z17 h17 hx17 hE17 => ?_)
          have hG17 := GI_up hG13 hE17 (show (-2147483648) ≤ y16 ∧ y16 ≤ 2147483647 by omega) trivial rfl
          refine JcI (z := 0) (show mx_Sn _ _ 57 (mx_const (.int 0) 58) from sn_140 57) rfl ?_
          exact mx_J.ret (sn_140 58) (fun _ _ => rfl) (hP 0 Z17 h17 hx17 hG17 (fr_tr (M := [(12, 2), (14, (-1)), (16, (-1)), (17, (-1)), (18, (-1)), (19, (-1)), (38, 2), (38, 4)]) (fr_tr (M := [(12, 2), (14, (-1)), (16, (-1)), (17, (-1)), (18, (-1)), (19, (-1)), (38, 2), (38, 4)]) (fr_tr (M := [(12, 2), (14, (-1)), (16, (-1)), (17, (-1)), (18, (-1)), (19, (-1)), (38, 2), (38, 4)]) (fr_tr (M := [(12, 2), (14, (-1)), (16, (-1)), (17, (-1)), (18, (-1)), (19, (-1)), (38, 2), (38, 4)]) fr_rf (hf7) (M1 := []) rfl rfl) (hf11) rfl rfl) (fr_up hE13) rfl rfl) (fr_up hE17) rfl rfl) (by omega))
        · skip
          refine JcI (z := 2) (show mx_Sn _ _ 40 (mx_const (.int 2) 41) from sn_140 40) rfl ?_
          exact mx_J.ret (sn_140 41) (fun _ _ => rfl) (hP 2 Z11 h11 hx11 hG11 (fr_tr (M := [(12, 2), (14, (-1)), (16, (-1)), (17, (-1)), (18, (-1)), (19, (-1)), (38, 2), (38, 4)]) (fr_tr (M := [(12, 2), (14, (-1)), (16, (-1)), (17, (-1)), (18, (-1)), (19, (-1)), (38, 2), (38, 4)]) fr_rf (hf7) (M1 := []) rfl rfl) (hf11) rfl rfl) (by omega))
      · skip
        exact c10 
theorem ct_140_1_38 {l : Launch} {D : va_G} {b0 : Nat} {ad : Nat → Nat} {Hb : Heap} {tau : Nat → Int64} {d n s : Nat} {S : Nat → xS} {Z : xZ} {h : mx_H} (hx : XH n s S Z h) (hG : GI n S Z)  {x0 : Int} (p0 : (-2147483648) ≤ x0 ∧ x0 ≤ 2147483647) : ∃ (z : Int) (Z' : xZ) (h' : mx_H), mx_Ca (tB l D b0 ad Hb tau) (d + 5) 140 [.ref 1, .ref 38, xI x0] h (some (xI z), h') ∧ XH n s S Z' h' ∧ GI n S Z' ∧ fr' [(12, 2), (14, (-1)), (16, (-1)), (17, (-1)), (18, (-1)), (19, (-1)), (38, 2), (38, 4)] Z Z' ∧ (0 ≤ z ∧ z ≤ 2) := by
  obtain ⟨r, hca, z, Z', h', e, q⟩ := Jmt (B := tB l D b0 ad Hb tau) (M := mt_140) (mi := 140) (as := [.ref 1, .ref 38, xI x0]) (d := d + 4) (ls := [some (.ref 1), some (.ref 38), some (xI x0), none]) rfl rfl rfl rfl rfl rfl (cw_140_1_38 (l := l) (D := D) (b0 := b0) (ad := ad) (Hb := Hb) (tau := tau) (d := d) (Post := fun r => ∃ (z : Int) (Z' : xZ) (h' : mx_H), r = (some (xI z), h') ∧ XH n s S Z' h' ∧ GI n S Z' ∧ fr' [(12, 2), (14, (-1)), (16, (-1)), (17, (-1)), (18, (-1)), (19, (-1)), (38, 2), (38, 4)] Z Z' ∧ (0 ≤ z ∧ z ≤ 2)) hx hG p0 (fun z Z' h' q1 q2 q3 q4 => ⟨z, Z', h', rfl, q1, q2, q3, q4⟩))
  subst e; exact ⟨z, Z', h', hca, q⟩
set_option maxRecDepth 100000 in
theorem cw_24_12_L {l : Launch} {D : va_G} {b0 : Nat} {ad : Nat → Nat} {Hb : Heap} {tau : Nat → Int64} {d n s : Nat} {S : Nat → xS} {Z : xZ} {h : mx_H} {Post : mx_R → Prop} (hx : XH n s S Z h) (hG : GI n S Z) {r0 : Nat} (or0 : okL r0) (ar0 : r0 < n) (sr0 : S r0 = .inl (3, [2, 2, 0])) {x0 x1 : Int} (p0 : 1 ≤ x0 ∧ x0 ≤ 18) (p1 : 0 ≤ x1 ∧ x1 ≤ 9) (hP : ∀ (Z' : xZ) (h' : mx_H), XH n s S Z' h' → GI n S Z' → fr' [(12, 1), (12, 2), (17, (-1))] Z Z' → Post (none, h')) : mx_J (tB l D b0 ad Hb tau) mt_24 (d + 0) 0 [some (.ref 12), some (.ref r0), some (xI x0), some (xI x1)] [] h Post := by
    have a12 : 12 < n := lt83 (GI_n hG) rfl
    have s12 : S 12 = .inl (4, [2, 2, 0, 2, 2, 2, 2, 2, 2]) := GI_s hG 12 rfl
    have a17 : 17 < n := lt83 (GI_n hG) rfl
    have s17 : S 17 = .inr (.int, 5, 0) := GI_s hG 17 rfl
    refine mx_J.step (sn_24 0) (fun _ _ => rfl) ?_
    refine mx_J.step (sn_24 1) (fun _ _ => rfl) ?_
    refine JputR (g := 1) hx (show mx_Sn _ _ 2 (mx_putf 1 4 1 (.object "TitheHeap$Laws") 5) from sn_24 2) a12 s12 rfl rfl rfl rfl (fun Z1 h1 hx1 hE1 => ?_)
    have hG1 := GI_upL hG hE1 (show (0 : Int) ≤ (r0 : Int) ∧ (r0 : Int) ≤ 4096 by have hn := hx.2.2.1; omega) trivial rfl ⟨r0, rfl, or0, ar0, sr0⟩
    refine mx_J.step (sn_24 5) (fun _ _ => rfl) ?_
    refine JgetR (g := 6) (b := 17) hx1 (show mx_Sn _ _ 6 (mx_getf 4 6 9) from sn_24 6) a12 s12 rfl rfl (hG1.prr 12 6 rfl) ?_
    refine JcI (z := 3) (show mx_Sn _ _ 9 (mx_const (.int 3) 10) from sn_24 9) rfl ?_
    refine mx_J.step (sn_24 10) (fun _ _ => rfl) ?_
    refine JiastI hx1 (show mx_Sn _ _ 11 (mx_iast 1 12) from sn_24 11) a17 s17 rfl (by omega) (fun Z3 h3 hx3 hE3 => ?_)
    have hG3 := GI_up hG1 hE3 (show (-2147483648) ≤ x0 ∧ x0 ≤ 2147483647 by omega) trivial rfl
    refine mx_J.step (sn_24 12) (fun _ _ => rfl) ?_
    refine JgetR (g := 6) (b := 17) hx3 (show mx_Sn _ _ 13 (mx_getf 4 6 16) from sn_24 13) a12 s12 rfl rfl (hG3.prr 12 6 rfl) ?_
    refine JcI (z := 4) (show mx_Sn _ _ 16 (mx_const (.int 4) 17) from sn_24 16) rfl ?_
    refine mx_J.step (sn_24 17) (fun _ _ => rfl) ?_
    refine JiastI hx3 (show mx_Sn _ _ 18 (mx_iast 1 19) from sn_24 18) a17 s17 rfl (by omega) (fun Z5 h5 hx5 hE5 => ?_)
    have hG5 := GI_up hG3 hE5 (show (-2147483648) ≤ x1 ∧ x1 ≤ 2147483647 by omega) trivial rfl
    refine mx_J.step (sn_24 19) (fun _ _ => rfl) ?_
    refine mx_J.step (sn_24 20) (fun _ _ => rfl) ?_
    have b7 : (-2147483648) ≤ Z 12 2 ∧ Z 12 2 ≤ 2147483647 := hG.pr 12 2
    refine JgetI (g := 2) (z := Z 12 2) hx5 (show mx_Sn _ _ 21 (mx_getf 4 2 24) from sn_24 21) a12 s12 rfl rfl ((up_nk hE5 rfl).trans ((up_nk hE3 rfl).trans (up_ni hE1 (by decide)))) ?_
    refine JcI (z := 1) (show mx_Sn _ _ 24 (mx_const (.int 1) 25) from sn_24 24) rfl ?_
    refine JiaddN (show mx_Sn _ _ 25 (mx_iadd 26) from sn_24 25) (fun y8 hy8 hq8 => ?_)
    refine JputI (g := 2) hx5 (show mx_Sn _ _ 26 (mx_putf 1 4 2 (.int) 29) from sn_24 26) a12 s12 rfl rfl rfl rfl (fun Z9 h9 hx9 hE9 => ?_)
    have hG9 := GI_up hG5 hE9 (show (-2147483648) ≤ y8 ∧ y8 ≤ 2147483647 by omega) trivial rfl
    exact mx_J.ret (sn_24 29) (fun _ _ => rfl) (hP Z9 h9 hx9 hG9 (fr_tr (M := [(12, 1), (12, 2), (17, (-1))]) (fr_tr (M := [(12, 1), (12, 2), (17, (-1))]) (fr_tr (M := [(12, 1), (12, 2), (17, (-1))]) (fr_tr (M := [(12, 1), (12, 2), (17, (-1))]) fr_rf (fr_up hE1) (M1 := []) rfl rfl) (fr_ua hE3) rfl rfl) (fr_ua hE5) rfl rfl) (fr_up hE9) rfl rfl))
theorem ct_24_12_L {l : Launch} {D : va_G} {b0 : Nat} {ad : Nat → Nat} {Hb : Heap} {tau : Nat → Int64} {d n s : Nat} {S : Nat → xS} {Z : xZ} {h : mx_H} (hx : XH n s S Z h) (hG : GI n S Z) {r0 : Nat} (or0 : okL r0) (ar0 : r0 < n) (sr0 : S r0 = .inl (3, [2, 2, 0])) {x0 x1 : Int} (p0 : 1 ≤ x0 ∧ x0 ≤ 18) (p1 : 0 ≤ x1 ∧ x1 ≤ 9) : ∃ (Z' : xZ) (h' : mx_H), mx_Ca (tB l D b0 ad Hb tau) (d + 1) 24 [.ref 12, .ref r0, xI x0, xI x1] h (none, h') ∧ XH n s S Z' h' ∧ GI n S Z' ∧ fr' [(12, 1), (12, 2), (17, (-1))] Z Z' := by
  obtain ⟨r, hca, Z', h', e, q⟩ := Jmt (B := tB l D b0 ad Hb tau) (M := mt_24) (mi := 24) (as := [.ref 12, .ref r0, xI x0, xI x1]) (d := d + 0) (ls := [some (.ref 12), some (.ref r0), some (xI x0), some (xI x1)]) rfl rfl rfl rfl rfl rfl (cw_24_12_L (l := l) (D := D) (b0 := b0) (ad := ad) (Hb := Hb) (tau := tau) (d := d) (Post := fun r => ∃ (Z' : xZ) (h' : mx_H), r = (none, h') ∧ XH n s S Z' h' ∧ GI n S Z' ∧ fr' [(12, 1), (12, 2), (17, (-1))] Z Z') hx hG or0 ar0 sr0 p0 p1 (fun Z' h' q1 q2 q3 => ⟨Z', h', rfl, q1, q2, q3⟩))
  subst e; exact ⟨Z', h', hca, q⟩
set_option maxRecDepth 100000 in
theorem cw_33_38_36 {l : Launch} {D : va_G} {b0 : Nat} {ad : Nat → Nat} {Hb : Heap} {tau : Nat → Int64} {d n s : Nat} {S : Nat → xS} {Z : xZ} {h : mx_H} {Post : mx_R → Prop} (hx : XH n s S Z h) (hG : GI n S Z)   (hP : ∀ (Z' : xZ) (h' : mx_H), XH n s S Z' h' → GI n S Z' → fr' [(38, 0), (38, 1), (38, 2), (38, 3), (38, 4)] Z Z' → (Z' 38 1 = Z 36 1) → Post (none, h')) : mx_J (tB l D b0 ad Hb tau) mt_33 (d + 0) 0 [some (.ref 38), some (.ref 36)] [] h Post := by
    have a36 : 36 < n := lt83 (GI_n hG) rfl
    have s36 : S 36 = .inl (5, [2, 0, 0, 0, 0, 0]) := GI_s hG 36 rfl
    have a38 : 38 < n := lt83 (GI_n hG) rfl
    have s38 : S 38 = .inl (5, [2, 0, 0, 0, 0, 0]) := GI_s hG 38 rfl
    refine mx_J.step (sn_33 0) (fun _ _ => rfl) ?_
    refine mx_J.step (sn_33 1) (fun _ _ => rfl) ?_
    obtain ⟨r1, er1, or1, ar1, sr1⟩ := GI_l36 hG
    refine JgetR (g := 0) (b := r1) hx (show mx_Sn _ _ 2 (mx_getf 5 0 5) from sn_33 2) a36 s36 rfl rfl er1 ?_
    refine JputR (g := 0) hx (show mx_Sn _ _ 5 (mx_putf 1 5 0 (.object "TitheHeap$Laws") 8) from sn_33 5) a38 s38 rfl rfl rfl rfl (fun Z2 h2 hx2 hE2 => ?_)
    have hG2 := GI_upL hG hE2 (show (0 : Int) ≤ (r1 : Int) ∧ (r1 : Int) ≤ 4096 by have hn := hx.2.2.1; omega) trivial rfl ⟨r1, rfl, or1, ar1, sr1⟩
    refine mx_J.step (sn_33 8) (fun _ _ => rfl) ?_
    refine mx_J.step (sn_33 9) (fun _ _ => rfl) ?_
    have b4 : 1 ≤ Z 36 1 ∧ Z 36 1 ≤ 18 := hG.pr 36 1
    refine JgetI (g := 1) (z := Z 36 1) hx2 (show mx_Sn _ _ 10 (mx_getf 5 1 13) from sn_33 10) a36 s36 rfl rfl (up_nk hE2 rfl) ?_
    refine JputI (g := 1) hx2 (show mx_Sn _ _ 13 (mx_putf 1 5 1 (.int) 16) from sn_33 13) a38 s38 rfl rfl rfl rfl (fun Z5 h5 hx5 hE5 => ?_)
    have hG5 := GI_up hG2 hE5 (show 1 ≤ Z 36 1 ∧ Z 36 1 ≤ 18 by omega) trivial rfl
    refine mx_J.step (sn_33 16) (fun _ _ => rfl) ?_
    refine mx_J.step (sn_33 17) (fun _ _ => rfl) ?_
    have b7 : 0 ≤ Z 36 2 ∧ Z 36 2 ≤ 384 := hG.pr 36 2
    refine JgetI (g := 2) (z := Z 36 2) hx5 (show mx_Sn _ _ 18 (mx_getf 5 2 21) from sn_33 18) a36 s36 rfl rfl ((up_nk hE5 rfl).trans (up_nk hE2 rfl)) ?_
    refine JputI (g := 2) hx5 (show mx_Sn _ _ 21 (mx_putf 1 5 2 (.int) 24) from sn_33 21) a38 s38 rfl rfl rfl rfl (fun Z8 h8 hx8 hE8 => ?_)
    have hG8 := GI_up hG5 hE8 (show 0 ≤ Z 36 2 ∧ Z 36 2 ≤ 384 by omega) trivial rfl
    refine mx_J.step (sn_33 24) (fun _ _ => rfl) ?_
    refine mx_J.step (sn_33 25) (fun _ _ => rfl) ?_
    have b10 : 0 ≤ Z 36 3 ∧ Z 36 3 ≤ 9 := hG.pr 36 3
    refine JgetI (g := 3) (z := Z 36 3) hx8 (show mx_Sn _ _ 26 (mx_getf 5 3 29) from sn_33 26) a36 s36 rfl rfl ((up_nk hE8 rfl).trans ((up_nk hE5 rfl).trans (up_nk hE2 rfl))) ?_
    refine JputI (g := 3) hx8 (show mx_Sn _ _ 29 (mx_putf 1 5 3 (.int) 32) from sn_33 29) a38 s38 rfl rfl rfl rfl (fun Z11 h11 hx11 hE11 => ?_)
    have hG11 := GI_up hG8 hE11 (show 0 ≤ Z 36 3 ∧ Z 36 3 ≤ 9 by omega) trivial rfl
    refine mx_J.step (sn_33 32) (fun _ _ => rfl) ?_
    refine mx_J.step (sn_33 33) (fun _ _ => rfl) ?_
    have b13 : (-2147483648) ≤ Z 36 4 ∧ Z 36 4 ≤ 2147483647 := hG.pr 36 4
    refine JgetI (g := 4) (z := Z 36 4) hx11 (show mx_Sn _ _ 34 (mx_getf 5 4 37) from sn_33 34) a36 s36 rfl rfl ((up_nk hE11 rfl).trans ((up_nk hE8 rfl).trans ((up_nk hE5 rfl).trans (up_nk hE2 rfl)))) ?_
    refine JputI (g := 4) hx11 (show mx_Sn _ _ 37 (mx_putf 1 5 4 (.int) 40) from sn_33 37) a38 s38 rfl rfl rfl rfl (fun Z14 h14 hx14 hE14 => ?_)
    have hG14 := GI_up hG11 hE14 (show (-2147483648) ≤ Z 36 4 ∧ Z 36 4 ≤ 2147483647 by omega) trivial rfl
    have eq15 : Z14 38 1 = Z 36 1 := ((up_ni hE14 (by decide)).trans ((up_ni hE11 (by decide)).trans ((up_ni hE8 (by decide)).trans (up_at hE5))))
    have eq16 : Z14 36 1 = Z 36 1 := ((up_nk hE14 rfl).trans ((up_nk hE11 rfl).trans ((up_nk hE8 rfl).trans ((up_nk hE5 rfl).trans (up_nk hE2 rfl)))))
    exact mx_J.ret (sn_33 40) (fun _ _ => rfl) (hP Z14 h14 hx14 hG14 (fr_tr (M := [(38, 0), (38, 1), (38, 2), (38, 3), (38, 4)]) (fr_tr (M := [(38, 0), (38, 1), (38, 2), (38, 3), (38, 4)]) (fr_tr (M := [(38, 0), (38, 1), (38, 2), (38, 3), (38, 4)]) (fr_tr (M := [(38, 0), (38, 1), (38, 2), (38, 3), (38, 4)]) (fr_tr (M := [(38, 0), (38, 1), (38, 2), (38, 3), (38, 4)]) fr_rf (fr_up hE2) (M1 := []) rfl rfl) (fr_up hE5) rfl rfl) (fr_up hE8) rfl rfl) (fr_up hE11) rfl rfl) (fr_up hE14) rfl rfl) (by omega))
theorem ct_33_38_36 {l : Launch} {D : va_G} {b0 : Nat} {ad : Nat → Nat} {Hb : Heap} {tau : Nat → Int64} {d n s : Nat} {S : Nat → xS} {Z : xZ} {h : mx_H} (hx : XH n s S Z h) (hG : GI n S Z)   : ∃ (Z' : xZ) (h' : mx_H), mx_Ca (tB l D b0 ad Hb tau) (d + 1) 33 [.ref 38, .ref 36] h (none, h') ∧ XH n s S Z' h' ∧ GI n S Z' ∧ fr' [(38, 0), (38, 1), (38, 2), (38, 3), (38, 4)] Z Z' ∧ ((Z' 38 1 = Z 36 1)) := by
  obtain ⟨r, hca, Z', h', e, q⟩ := Jmt (B := tB l D b0 ad Hb tau) (M := mt_33) (mi := 33) (as := [.ref 38, .ref 36]) (d := d + 0) (ls := [some (.ref 38), some (.ref 36)]) rfl rfl rfl rfl rfl rfl (cw_33_38_36 (l := l) (D := D) (b0 := b0) (ad := ad) (Hb := Hb) (tau := tau) (d := d) (Post := fun r => ∃ (Z' : xZ) (h' : mx_H), r = (none, h') ∧ XH n s S Z' h' ∧ GI n S Z' ∧ fr' [(38, 0), (38, 1), (38, 2), (38, 3), (38, 4)] Z Z' ∧ ((Z' 38 1 = Z 36 1))) hx hG  (fun Z' h' q1 q2 q3 q4 => ⟨Z', h', rfl, q1, q2, q3, q4⟩))
  subst e; exact ⟨Z', h', hca, q⟩
set_option maxRecDepth 100000 in
theorem cw_33_36_38 {l : Launch} {D : va_G} {b0 : Nat} {ad : Nat → Nat} {Hb : Heap} {tau : Nat → Int64} {d n s : Nat} {S : Nat → xS} {Z : xZ} {h : mx_H} {Post : mx_R → Prop} (hx : XH n s S Z h) (hG : GI n S Z)   (hP : ∀ (Z' : xZ) (h' : mx_H), XH n s S Z' h' → GI n S Z' → fr' [(36, 0), (36, 1), (36, 2), (36, 3), (36, 4)] Z Z' → (Z' 36 1 = Z 38 1) → Post (none, h')) : mx_J (tB l D b0 ad Hb tau) mt_33 (d + 0) 0 [some (.ref 36), some (.ref 38)] [] h Post := by
    have a36 : 36 < n := lt83 (GI_n hG) rfl
    have s36 : S 36 = .inl (5, [2, 0, 0, 0, 0, 0]) := GI_s hG 36 rfl
    have a38 : 38 < n := lt83 (GI_n hG) rfl
    have s38 : S 38 = .inl (5, [2, 0, 0, 0, 0, 0]) := GI_s hG 38 rfl
    refine mx_J.step (sn_33 0) (fun _ _ => rfl) ?_
    refine mx_J.step (sn_33 1) (fun _ _ => rfl) ?_
    obtain ⟨r1, er1, or1, ar1, sr1⟩ := GI_l38 hG
    refine JgetR (g := 0) (b := r1) hx (show mx_Sn _ _ 2 (mx_getf 5 0 5) from sn_33 2) a38 s38 rfl rfl er1 ?_
    refine JputR (g := 0) hx (show mx_Sn _ _ 5 (mx_putf 1 5 0 (.object "TitheHeap$Laws") 8) from sn_33 5) a36 s36 rfl rfl rfl rfl (fun Z2 h2 hx2 hE2 => ?_)
    have hG2 := GI_upL hG hE2 (show (0 : Int) ≤ (r1 : Int) ∧ (r1 : Int) ≤ 4096 by have hn := hx.2.2.1; omega) trivial rfl ⟨r1, rfl, or1, ar1, sr1⟩
    refine mx_J.step (sn_33 8) (fun _ _ => rfl) ?_
    refine mx_J.step (sn_33 9) (fun _ _ => rfl) ?_
    have b4 : 1 ≤ Z 38 1 ∧ Z 38 1 ≤ 18 := hG.pr 38 1
    refine JgetI (g := 1) (z := Z 38 1) hx2 (show mx_Sn _ _ 10 (mx_getf 5 1 13) from sn_33 10) a38 s38 rfl rfl (up_nk hE2 rfl) ?_
    refine JputI (g := 1) hx2 (show mx_Sn _ _ 13 (mx_putf 1 5 1 (.int) 16) from sn_33 13) a36 s36 rfl rfl rfl rfl (fun Z5 h5 hx5 hE5 => ?_)
    have hG5 := GI_up hG2 hE5 (show 1 ≤ Z 38 1 ∧ Z 38 1 ≤ 18 by omega) trivial rfl
    refine mx_J.step (sn_33 16) (fun _ _ => rfl) ?_
    refine mx_J.step (sn_33 17) (fun _ _ => rfl) ?_
    have b7 : 0 ≤ Z 38 2 ∧ Z 38 2 ≤ 384 := hG.pr 38 2
    refine JgetI (g := 2) (z := Z 38 2) hx5 (show mx_Sn _ _ 18 (mx_getf 5 2 21) from sn_33 18) a38 s38 rfl rfl ((up_nk hE5 rfl).trans (up_nk hE2 rfl)) ?_
    refine JputI (g := 2) hx5 (show mx_Sn _ _ 21 (mx_putf 1 5 2 (.int) 24) from sn_33 21) a36 s36 rfl rfl rfl rfl (fun Z8 h8 hx8 hE8 => ?_)
    have hG8 := GI_up hG5 hE8 (show 0 ≤ Z 38 2 ∧ Z 38 2 ≤ 384 by omega) trivial rfl
    refine mx_J.step (sn_33 24) (fun _ _ => rfl) ?_
    refine mx_J.step (sn_33 25) (fun _ _ => rfl) ?_
    have b10 : 0 ≤ Z 38 3 ∧ Z 38 3 ≤ 9 := hG.pr 38 3
    refine JgetI (g := 3) (z := Z 38 3) hx8 (show mx_Sn _ _ 26 (mx_getf 5 3 29) from sn_33 26) a38 s38 rfl rfl ((up_nk hE8 rfl).trans ((up_nk hE5 rfl).trans (up_nk hE2 rfl))) ?_
    refine JputI (g := 3) hx8 (show mx_Sn _ _ 29 (mx_putf 1 5 3 (.int) 32) from sn_33 29) a36 s36 rfl rfl rfl rfl (fun Z11 h11 hx11 hE11 => ?_)
    have hG11 := GI_up hG8 hE11 (show 0 ≤ Z 38 3 ∧ Z 38 3 ≤ 9 by omega) trivial rfl
    refine mx_J.step (sn_33 32) (fun _ _ => rfl) ?_
    refine mx_J.step (sn_33 33) (fun _ _ => rfl) ?_
    have b13 : (-2147483648) ≤ Z 38 4 ∧ Z 38 4 ≤ 2147483647 := hG.pr 38 4
    refine JgetI (g := 4) (z := Z 38 4) hx11 (show mx_Sn _ _ 34 (mx_getf 5 4 37) from sn_33 34) a38 s38 rfl rfl ((up_nk hE11 rfl).trans ((up_nk hE8 rfl).trans ((up_nk hE5 rfl).trans (up_nk hE2 rfl)))) ?_
    refine JputI (g := 4) hx11 (show mx_Sn _ _ 37 (mx_putf 1 5 4 (.int) 40) from sn_33 37) a36 s36 rfl rfl rfl rfl (fun Z14 h14 hx14 hE14 => ?_)
    have hG14 := GI_up hG11 hE14 (show (-2147483648) ≤ Z 38 4 ∧ Z 38 4 ≤ 2147483647 by omega) trivial rfl
    have eq15 : Z14 36 1 = Z 38 1 := ((up_ni hE14 (by decide)).trans ((up_ni hE11 (by decide)).trans ((up_ni hE8 (by decide)).trans (up_at hE5))))
    have eq16 : Z14 38 1 = Z 38 1 := ((up_nk hE14 rfl).trans ((up_nk hE11 rfl).trans ((up_nk hE8 rfl).trans ((up_nk hE5 rfl).trans (up_nk hE2 rfl)))))
    exact mx_J.ret (sn_33 40) (fun _ _ => rfl) (hP Z14 h14 hx14 hG14 (fr_tr (M := [(36, 0), (36, 1), (36, 2), (36, 3), (36, 4)]) (fr_tr (M := [(36, 0), (36, 1), (36, 2), (36, 3), (36, 4)]) (fr_tr (M := [(36, 0), (36, 1), (36, 2), (36, 3), (36, 4)]) (fr_tr (M := [(36, 0), (36, 1), (36, 2), (36, 3), (36, 4)]) (fr_tr (M := [(36, 0), (36, 1), (36, 2), (36, 3), (36, 4)]) fr_rf (fr_up hE2) (M1 := []) rfl rfl) (fr_up hE5) rfl rfl) (fr_up hE8) rfl rfl) (fr_up hE11) rfl rfl) (fr_up hE14) rfl rfl) (by omega))
theorem ct_33_36_38 {l : Launch} {D : va_G} {b0 : Nat} {ad : Nat → Nat} {Hb : Heap} {tau : Nat → Int64} {d n s : Nat} {S : Nat → xS} {Z : xZ} {h : mx_H} (hx : XH n s S Z h) (hG : GI n S Z)   : ∃ (Z' : xZ) (h' : mx_H), mx_Ca (tB l D b0 ad Hb tau) (d + 1) 33 [.ref 36, .ref 38] h (none, h') ∧ XH n s S Z' h' ∧ GI n S Z' ∧ fr' [(36, 0), (36, 1), (36, 2), (36, 3), (36, 4)] Z Z' ∧ ((Z' 36 1 = Z 38 1)) := by
  obtain ⟨r, hca, Z', h', e, q⟩ := Jmt (B := tB l D b0 ad Hb tau) (M := mt_33) (mi := 33) (as := [.ref 36, .ref 38]) (d := d + 0) (ls := [some (.ref 36), some (.ref 38)]) rfl rfl rfl rfl rfl rfl (cw_33_36_38 (l := l) (D := D) (b0 := b0) (ad := ad) (Hb := Hb) (tau := tau) (d := d) (Post := fun r => ∃ (Z' : xZ) (h' : mx_H), r = (none, h') ∧ XH n s S Z' h' ∧ GI n S Z' ∧ fr' [(36, 0), (36, 1), (36, 2), (36, 3), (36, 4)] Z Z' ∧ ((Z' 36 1 = Z 38 1))) hx hG  (fun Z' h' q1 q2 q3 q4 => ⟨Z', h', rfl, q1, q2, q3, q4⟩))
  subst e; exact ⟨Z', h', hca, q⟩
set_option maxRecDepth 100000 in
theorem cw_33_52_36 {l : Launch} {D : va_G} {b0 : Nat} {ad : Nat → Nat} {Hb : Heap} {tau : Nat → Int64} {d n s : Nat} {S : Nat → xS} {Z : xZ} {h : mx_H} {Post : mx_R → Prop} (hx : XH n s S Z h) (hG : GI n S Z)   (hP : ∀ (Z' : xZ) (h' : mx_H), XH n s S Z' h' → GI n S Z' → fr' [(52, 0), (52, 1), (52, 2), (52, 3), (52, 4)] Z Z' → (Z' 52 1 = Z 36 1) → Post (none, h')) : mx_J (tB l D b0 ad Hb tau) mt_33 (d + 0) 0 [some (.ref 52), some (.ref 36)] [] h Post := by
    have a36 : 36 < n := lt83 (GI_n hG) rfl
    have s36 : S 36 = .inl (5, [2, 0, 0, 0, 0, 0]) := GI_s hG 36 rfl
    have a52 : 52 < n := lt83 (GI_n hG) rfl
    have s52 : S 52 = .inl (5, [2, 0, 0, 0, 0, 0]) := GI_s hG 52 rfl
    refine mx_J.step (sn_33 0) (fun _ _ => rfl) ?_
    refine mx_J.step (sn_33 1) (fun _ _ => rfl) ?_
    obtain ⟨r1, er1, or1, ar1, sr1⟩ := GI_l36 hG
    refine JgetR (g := 0) (b := r1) hx (show mx_Sn _ _ 2 (mx_getf 5 0 5) from sn_33 2) a36 s36 rfl rfl er1 ?_
    refine JputR (g := 0) hx (show mx_Sn _ _ 5 (mx_putf 1 5 0 (.object "TitheHeap$Laws") 8) from sn_33 5) a52 s52 rfl rfl rfl rfl (fun Z2 h2 hx2 hE2 => ?_)
    have hG2 := GI_upL hG hE2 (show (0 : Int) ≤ (r1 : Int) ∧ (r1 : Int) ≤ 4096 by have hn := hx.2.2.1; omega) trivial rfl ⟨r1, rfl, or1, ar1, sr1⟩
    refine mx_J.step (sn_33 8) (fun _ _ => rfl) ?_
    refine mx_J.step (sn_33 9) (fun _ _ => rfl) ?_
    have b4 : 1 ≤ Z 36 1 ∧ Z 36 1 ≤ 18 := hG.pr 36 1
    refine JgetI (g := 1) (z := Z 36 1) hx2 (show mx_Sn _ _ 10 (mx_getf 5 1 13) from sn_33 10) a36 s36 rfl rfl (up_nk hE2 rfl) ?_
    refine JputI (g := 1) hx2 (show mx_Sn _ _ 13 (mx_putf 1 5 1 (.int) 16) from sn_33 13) a52 s52 rfl rfl rfl rfl (fun Z5 h5 hx5 hE5 => ?_)
    have hG5 := GI_up hG2 hE5 (show 1 ≤ Z 36 1 ∧ Z 36 1 ≤ 18 by omega) trivial rfl
    refine mx_J.step (sn_33 16) (fun _ _ => rfl) ?_
    refine mx_J.step (sn_33 17) (fun _ _ => rfl) ?_
    have b7 : 0 ≤ Z 36 2 ∧ Z 36 2 ≤ 384 := hG.pr 36 2
    refine JgetI (g := 2) (z := Z 36 2) hx5 (show mx_Sn _ _ 18 (mx_getf 5 2 21) from sn_33 18) a36 s36 rfl rfl ((up_nk hE5 rfl).trans (up_nk hE2 rfl)) ?_
    refine JputI (g := 2) hx5 (show mx_Sn _ _ 21 (mx_putf 1 5 2 (.int) 24) from sn_33 21) a52 s52 rfl rfl rfl rfl (fun Z8 h8 hx8 hE8 => ?_)
    have hG8 := GI_up hG5 hE8 (show 0 ≤ Z 36 2 ∧ Z 36 2 ≤ 384 by omega) trivial rfl
    refine mx_J.step (sn_33 24) (fun _ _ => rfl) ?_
    refine mx_J.step (sn_33 25) (fun _ _ => rfl) ?_
    have b10 : 0 ≤ Z 36 3 ∧ Z 36 3 ≤ 9 := hG.pr 36 3
    refine JgetI (g := 3) (z := Z 36 3) hx8 (show mx_Sn _ _ 26 (mx_getf 5 3 29) from sn_33 26) a36 s36 rfl rfl ((up_nk hE8 rfl).trans ((up_nk hE5 rfl).trans (up_nk hE2 rfl))) ?_
    refine JputI (g := 3) hx8 (show mx_Sn _ _ 29 (mx_putf 1 5 3 (.int) 32) from sn_33 29) a52 s52 rfl rfl rfl rfl (fun Z11 h11 hx11 hE11 => ?_)
    have hG11 := GI_up hG8 hE11 (show 0 ≤ Z 36 3 ∧ Z 36 3 ≤ 9 by omega) trivial rfl
    refine mx_J.step (sn_33 32) (fun _ _ => rfl) ?_
    refine mx_J.step (sn_33 33) (fun _ _ => rfl) ?_
    have b13 : (-2147483648) ≤ Z 36 4 ∧ Z 36 4 ≤ 2147483647 := hG.pr 36 4
    refine JgetI (g := 4) (z := Z 36 4) hx11 (show mx_Sn _ _ 34 (mx_getf 5 4 37) from sn_33 34) a36 s36 rfl rfl ((up_nk hE11 rfl).trans ((up_nk hE8 rfl).trans ((up_nk hE5 rfl).trans (up_nk hE2 rfl)))) ?_
    refine JputI (g := 4) hx11 (show mx_Sn _ _ 37 (mx_putf 1 5 4 (.int) 40) from sn_33 37) a52 s52 rfl rfl rfl rfl (fun Z14 h14 hx14 hE14 => ?_)
    have hG14 := GI_up hG11 hE14 (show (-2147483648) ≤ Z 36 4 ∧ Z 36 4 ≤ 2147483647 by omega) trivial rfl
    have eq15 : Z14 52 1 = Z 36 1 := ((up_ni hE14 (by decide)).trans ((up_ni hE11 (by decide)).trans ((up_ni hE8 (by decide)).trans (up_at hE5))))
    have eq16 : Z14 36 1 = Z 36 1 := ((up_nk hE14 rfl).trans ((up_nk hE11 rfl).trans ((up_nk hE8 rfl).trans ((up_nk hE5 rfl).trans (up_nk hE2 rfl)))))
    exact mx_J.ret (sn_33 40) (fun _ _ => rfl) (hP Z14 h14 hx14 hG14 (fr_tr (M := [(52, 0), (52, 1), (52, 2), (52, 3), (52, 4)]) (fr_tr (M := [(52, 0), (52, 1), (52, 2), (52, 3), (52, 4)]) (fr_tr (M := [(52, 0), (52, 1), (52, 2), (52, 3), (52, 4)]) (fr_tr (M := [(52, 0), (52, 1), (52, 2), (52, 3), (52, 4)]) (fr_tr (M := [(52, 0), (52, 1), (52, 2), (52, 3), (52, 4)]) fr_rf (fr_up hE2) (M1 := []) rfl rfl) (fr_up hE5) rfl rfl) (fr_up hE8) rfl rfl) (fr_up hE11) rfl rfl) (fr_up hE14) rfl rfl) (by omega))
theorem ct_33_52_36 {l : Launch} {D : va_G} {b0 : Nat} {ad : Nat → Nat} {Hb : Heap} {tau : Nat → Int64} {d n s : Nat} {S : Nat → xS} {Z : xZ} {h : mx_H} (hx : XH n s S Z h) (hG : GI n S Z)   : ∃ (Z' : xZ) (h' : mx_H), mx_Ca (tB l D b0 ad Hb tau) (d + 1) 33 [.ref 52, .ref 36] h (none, h') ∧ XH n s S Z' h' ∧ GI n S Z' ∧ fr' [(52, 0), (52, 1), (52, 2), (52, 3), (52, 4)] Z Z' ∧ ((Z' 52 1 = Z 36 1)) := by
  obtain ⟨r, hca, Z', h', e, q⟩ := Jmt (B := tB l D b0 ad Hb tau) (M := mt_33) (mi := 33) (as := [.ref 52, .ref 36]) (d := d + 0) (ls := [some (.ref 52), some (.ref 36)]) rfl rfl rfl rfl rfl rfl (cw_33_52_36 (l := l) (D := D) (b0 := b0) (ad := ad) (Hb := Hb) (tau := tau) (d := d) (Post := fun r => ∃ (Z' : xZ) (h' : mx_H), r = (none, h') ∧ XH n s S Z' h' ∧ GI n S Z' ∧ fr' [(52, 0), (52, 1), (52, 2), (52, 3), (52, 4)] Z Z' ∧ ((Z' 52 1 = Z 36 1))) hx hG  (fun Z' h' q1 q2 q3 q4 => ⟨Z', h', rfl, q1, q2, q3, q4⟩))
  subst e; exact ⟨Z', h', hca, q⟩
set_option maxRecDepth 100000 in
theorem cw_33_54_36 {l : Launch} {D : va_G} {b0 : Nat} {ad : Nat → Nat} {Hb : Heap} {tau : Nat → Int64} {d n s : Nat} {S : Nat → xS} {Z : xZ} {h : mx_H} {Post : mx_R → Prop} (hx : XH n s S Z h) (hG : GI n S Z)   (hP : ∀ (Z' : xZ) (h' : mx_H), XH n s S Z' h' → GI n S Z' → fr' [(54, 0), (54, 1), (54, 2), (54, 3), (54, 4)] Z Z' → (Z' 54 1 = Z 36 1) → Post (none, h')) : mx_J (tB l D b0 ad Hb tau) mt_33 (d + 0) 0 [some (.ref 54), some (.ref 36)] [] h Post := by
    have a36 : 36 < n := lt83 (GI_n hG) rfl
    have s36 : S 36 = .inl (5, [2, 0, 0, 0, 0, 0]) := GI_s hG 36 rfl
    have a54 : 54 < n := lt83 (GI_n hG) rfl
    have s54 : S 54 = .inl (5, [2, 0, 0, 0, 0, 0]) := GI_s hG 54 rfl
    refine mx_J.step (sn_33 0) (fun _ _ => rfl) ?_
    refine mx_J.step (sn_33 1) (fun _ _ => rfl) ?_
    obtain ⟨r1, er1, or1, ar1, sr1⟩ := GI_l36 hG
    refine JgetR (g := 0) (b := r1) hx (show mx_Sn _ _ 2 (mx_getf 5 0 5) from sn_33 2) a36 s36 rfl rfl er1 ?_
    refine JputR (g := 0) hx (show mx_Sn _ _ 5 (mx_putf 1 5 0 (.object "TitheHeap$Laws") 8) from sn_33 5) a54 s54 rfl rfl rfl rfl (fun Z2 h2 hx2 hE2 => ?_)
    have hG2 := GI_upL hG hE2 (show (0 : Int) ≤ (r1 : Int) ∧ (r1 : Int) ≤ 4096 by have hn := hx.2.2.1; omega) trivial rfl ⟨r1, rfl, or1, ar1, sr1⟩
    refine mx_J.step (sn_33 8) (fun _ _ => rfl) ?_
    refine mx_J.step (sn_33 9) (fun _ _ => rfl) ?_
    have b4 : 1 ≤ Z 36 1 ∧ Z 36 1 ≤ 18 := hG.pr 36 1
    refine JgetI (g := 1) (z := Z 36 1) hx2 (show mx_Sn _ _ 10 (mx_getf 5 1 13) from sn_33 10) a36 s36 rfl rfl (up_nk hE2 rfl) ?_
    refine JputI (g := 1) hx2 (show mx_Sn _ _ 13 (mx_putf 1 5 1 (.int) 16) from sn_33 13) a54 s54 rfl rfl rfl rfl (fun Z5 h5 hx5 hE5 => ?_)
    have hG5 := GI_up hG2 hE5 (show 1 ≤ Z 36 1 ∧ Z 36 1 ≤ 18 by omega) trivial rfl
    refine mx_J.step (sn_33 16) (fun _ _ => rfl) ?_
    refine mx_J.step (sn_33 17) (fun _ _ => rfl) ?_
    have b7 : 0 ≤ Z 36 2 ∧ Z 36 2 ≤ 384 := hG.pr 36 2
    refine JgetI (g := 2) (z := Z 36 2) hx5 (show mx_Sn _ _ 18 (mx_getf 5 2 21) from sn_33 18) a36 s36 rfl rfl ((up_nk hE5 rfl).trans (up_nk hE2 rfl)) ?_
    refine JputI (g := 2) hx5 (show mx_Sn _ _ 21 (mx_putf 1 5 2 (.int) 24) from sn_33 21) a54 s54 rfl rfl rfl rfl (fun Z8 h8 hx8 hE8 => ?_)
    have hG8 := GI_up hG5 hE8 (show 0 ≤ Z 36 2 ∧ Z 36 2 ≤ 384 by omega) trivial rfl
    refine mx_J.step (sn_33 24) (fun _ _ => rfl) ?_
    refine mx_J.step (sn_33 25) (fun _ _ => rfl) ?_
    have b10 : 0 ≤ Z 36 3 ∧ Z 36 3 ≤ 9 := hG.pr 36 3
    refine JgetI (g := 3) (z := Z 36 3) hx8 (show mx_Sn _ _ 26 (mx_getf 5 3 29) from sn_33 26) a36 s36 rfl rfl ((up_nk hE8 rfl).trans ((up_nk hE5 rfl).trans (up_nk hE2 rfl))) ?_
    refine JputI (g := 3) hx8 (show mx_Sn _ _ 29 (mx_putf 1 5 3 (.int) 32) from sn_33 29) a54 s54 rfl rfl rfl rfl (fun Z11 h11 hx11 hE11 => ?_)
    have hG11 := GI_up hG8 hE11 (show 0 ≤ Z 36 3 ∧ Z 36 3 ≤ 9 by omega) trivial rfl
    refine mx_J.step (sn_33 32) (fun _ _ => rfl) ?_
    refine mx_J.step (sn_33 33) (fun _ _ => rfl) ?_
    have b13 : (-2147483648) ≤ Z 36 4 ∧ Z 36 4 ≤ 2147483647 := hG.pr 36 4
    refine JgetI (g := 4) (z := Z 36 4) hx11 (show mx_Sn _ _ 34 (mx_getf 5 4 37) from sn_33 34) a36 s36 rfl rfl ((up_nk hE11 rfl).trans ((up_nk hE8 rfl).trans ((up_nk hE5 rfl).trans (up_nk hE2 rfl)))) ?_
    refine JputI (g := 4) hx11 (show mx_Sn _ _ 37 (mx_putf 1 5 4 (.int) 40) from sn_33 37) a54 s54 rfl rfl rfl rfl (fun Z14 h14 hx14 hE14 => ?_)
    have hG14 := GI_up hG11 hE14 (show (-2147483648) ≤ Z 36 4 ∧ Z 36 4 ≤ 2147483647 by omega) trivial rfl
    have eq15 : Z14 54 1 = Z 36 1 := ((up_ni hE14 (by decide)).trans ((up_ni hE11 (by decide)).trans ((up_ni hE8 (by decide)).trans (up_at hE5))))
    have eq16 : Z14 36 1 = Z 36 1 := ((up_nk hE14 rfl).trans ((up_nk hE11 rfl).trans ((up_nk hE8 rfl).trans ((up_nk hE5 rfl).trans (up_nk hE2 rfl)))))
    exact mx_J.ret (sn_33 40) (fun _ _ => rfl) (hP Z14 h14 hx14 hG14 (fr_tr (M := [(54, 0), (54, 1), (54, 2), (54, 3), (54, 4)]) (fr_tr (M := [(54, 0), (54, 1), (54, 2), (54, 3), (54, 4)]) (fr_tr (M := [(54, 0), (54, 1), (54, 2), (54, 3), (54, 4)]) (fr_tr (M := [(54, 0), (54, 1), (54, 2), (54, 3), (54, 4)]) (fr_tr (M := [(54, 0), (54, 1), (54, 2), (54, 3), (54, 4)]) fr_rf (fr_up hE2) (M1 := []) rfl rfl) (fr_up hE5) rfl rfl) (fr_up hE8) rfl rfl) (fr_up hE11) rfl rfl) (fr_up hE14) rfl rfl) (by omega))
theorem ct_33_54_36 {l : Launch} {D : va_G} {b0 : Nat} {ad : Nat → Nat} {Hb : Heap} {tau : Nat → Int64} {d n s : Nat} {S : Nat → xS} {Z : xZ} {h : mx_H} (hx : XH n s S Z h) (hG : GI n S Z)   : ∃ (Z' : xZ) (h' : mx_H), mx_Ca (tB l D b0 ad Hb tau) (d + 1) 33 [.ref 54, .ref 36] h (none, h') ∧ XH n s S Z' h' ∧ GI n S Z' ∧ fr' [(54, 0), (54, 1), (54, 2), (54, 3), (54, 4)] Z Z' ∧ ((Z' 54 1 = Z 36 1)) := by
  obtain ⟨r, hca, Z', h', e, q⟩ := Jmt (B := tB l D b0 ad Hb tau) (M := mt_33) (mi := 33) (as := [.ref 54, .ref 36]) (d := d + 0) (ls := [some (.ref 54), some (.ref 36)]) rfl rfl rfl rfl rfl rfl (cw_33_54_36 (l := l) (D := D) (b0 := b0) (ad := ad) (Hb := Hb) (tau := tau) (d := d) (Post := fun r => ∃ (Z' : xZ) (h' : mx_H), r = (none, h') ∧ XH n s S Z' h' ∧ GI n S Z' ∧ fr' [(54, 0), (54, 1), (54, 2), (54, 3), (54, 4)] Z Z' ∧ ((Z' 54 1 = Z 36 1))) hx hG  (fun Z' h' q1 q2 q3 q4 => ⟨Z', h', rfl, q1, q2, q3, q4⟩))
  subst e; exact ⟨Z', h', hca, q⟩
set_option maxRecDepth 100000 in
theorem cw_33_36_52 {l : Launch} {D : va_G} {b0 : Nat} {ad : Nat → Nat} {Hb : Heap} {tau : Nat → Int64} {d n s : Nat} {S : Nat → xS} {Z : xZ} {h : mx_H} {Post : mx_R → Prop} (hx : XH n s S Z h) (hG : GI n S Z)   (hP : ∀ (Z' : xZ) (h' : mx_H), XH n s S Z' h' → GI n S Z' → fr' [(36, 0), (36, 1), (36, 2), (36, 3), (36, 4)] Z Z' → (Z' 36 1 = Z 52 1) → Post (none, h')) : mx_J (tB l D b0 ad Hb tau) mt_33 (d + 0) 0 [some (.ref 36), some (.ref 52)] [] h Post := by
    have a36 : 36 < n := lt83 (GI_n hG) rfl
    have s36 : S 36 = .inl (5, [2, 0, 0, 0, 0, 0]) := GI_s hG 36 rfl
    have a52 : 52 < n := lt83 (GI_n hG) rfl
    have s52 : S 52 = .inl (5, [2, 0, 0, 0, 0, 0]) := GI_s hG 52 rfl
    refine mx_J.step (sn_33 0) (fun _ _ => rfl) ?_
    refine mx_J.step (sn_33 1) (fun _ _ => rfl) ?_
    obtain ⟨r1, er1, or1, ar1, sr1⟩ := GI_l52 hG
    refine JgetR (g := 0) (b := r1) hx (show mx_Sn _ _ 2 (mx_getf 5 0 5) from sn_33 2) a52 s52 rfl rfl er1 ?_
    refine JputR (g := 0) hx (show mx_Sn _ _ 5 (mx_putf 1 5 0 (.object "TitheHeap$Laws") 8) from sn_33 5) a36 s36 rfl rfl rfl rfl (fun Z2 h2 hx2 hE2 => ?_)
    have hG2 := GI_upL hG hE2 (show (0 : Int) ≤ (r1 : Int) ∧ (r1 : Int) ≤ 4096 by have hn := hx.2.2.1; omega) trivial rfl ⟨r1, rfl, or1, ar1, sr1⟩
    refine mx_J.step (sn_33 8) (fun _ _ => rfl) ?_
    refine mx_J.step (sn_33 9) (fun _ _ => rfl) ?_
    have b4 : 1 ≤ Z 52 1 ∧ Z 52 1 ≤ 18 := hG.pr 52 1
    refine JgetI (g := 1) (z := Z 52 1) hx2 (show mx_Sn _ _ 10 (mx_getf 5 1 13) from sn_33 10) a52 s52 rfl rfl (up_nk hE2 rfl) ?_
    refine JputI (g := 1) hx2 (show mx_Sn _ _ 13 (mx_putf 1 5 1 (.int) 16) from sn_33 13) a36 s36 rfl rfl rfl rfl (fun Z5 h5 hx5 hE5 => ?_)
    have hG5 := GI_up hG2 hE5 (show 1 ≤ Z 52 1 ∧ Z 52 1 ≤ 18 by omega) trivial rfl
    refine mx_J.step (sn_33 16) (fun _ _ => rfl) ?_
    refine mx_J.step (sn_33 17) (fun _ _ => rfl) ?_
    have b7 : 0 ≤ Z 52 2 ∧ Z 52 2 ≤ 384 := hG.pr 52 2
    refine JgetI (g := 2) (z := Z 52 2) hx5 (show mx_Sn _ _ 18 (mx_getf 5 2 21) from sn_33 18) a52 s52 rfl rfl ((up_nk hE5 rfl).trans (up_nk hE2 rfl)) ?_
    refine JputI (g := 2) hx5 (show mx_Sn _ _ 21 (mx_putf 1 5 2 (.int) 24) from sn_33 21) a36 s36 rfl rfl rfl rfl (fun Z8 h8 hx8 hE8 => ?_)
    have hG8 := GI_up hG5 hE8 (show 0 ≤ Z 52 2 ∧ Z 52 2 ≤ 384 by omega) trivial rfl
    refine mx_J.step (sn_33 24) (fun _ _ => rfl) ?_
    refine mx_J.step (sn_33 25) (fun _ _ => rfl) ?_
    have b10 : 0 ≤ Z 52 3 ∧ Z 52 3 ≤ 9 := hG.pr 52 3
    refine JgetI (g := 3) (z := Z 52 3) hx8 (show mx_Sn _ _ 26 (mx_getf 5 3 29) from sn_33 26) a52 s52 rfl rfl ((up_nk hE8 rfl).trans ((up_nk hE5 rfl).trans (up_nk hE2 rfl))) ?_
    refine JputI (g := 3) hx8 (show mx_Sn _ _ 29 (mx_putf 1 5 3 (.int) 32) from sn_33 29) a36 s36 rfl rfl rfl rfl (fun Z11 h11 hx11 hE11 => ?_)
    have hG11 := GI_up hG8 hE11 (show 0 ≤ Z 52 3 ∧ Z 52 3 ≤ 9 by omega) trivial rfl
    refine mx_J.step (sn_33 32) (fun _ _ => rfl) ?_
    refine mx_J.step (sn_33 33) (fun _ _ => rfl) ?_
    have b13 : (-2147483648) ≤ Z 52 4 ∧ Z 52 4 ≤ 2147483647 := hG.pr 52 4
    refine JgetI (g := 4) (z := Z 52 4) hx11 (show mx_Sn _ _ 34 (mx_getf 5 4 37) from sn_33 34) a52 s52 rfl rfl ((up_nk hE11 rfl).trans ((up_nk hE8 rfl).trans ((up_nk hE5 rfl).trans (up_nk hE2 rfl)))) ?_
    refine JputI (g := 4) hx11 (show mx_Sn _ _ 37 (mx_putf 1 5 4 (.int) 40) from sn_33 37) a36 s36 rfl rfl rfl rfl (fun Z14 h14 hx14 hE14 => ?_)
    have hG14 := GI_up hG11 hE14 (show (-2147483648) ≤ Z 52 4 ∧ Z 52 4 ≤ 2147483647 by omega) trivial rfl
    have eq15 : Z14 36 1 = Z 52 1 := ((up_ni hE14 (by decide)).trans ((up_ni hE11 (by decide)).trans ((up_ni hE8 (by decide)).trans (up_at hE5))))
    have eq16 : Z14 52 1 = Z 52 1 := ((up_nk hE14 rfl).trans ((up_nk hE11 rfl).trans ((up_nk hE8 rfl).trans ((up_nk hE5 rfl).trans (up_nk hE2 rfl)))))
    exact mx_J.ret (sn_33 40) (fun _ _ => rfl) (hP Z14 h14 hx14 hG14 (fr_tr (M := [(36, 0), (36, 1), (36, 2), (36, 3), (36, 4)]) (fr_tr (M := [(36, 0), (36, 1), (36, 2), (36, 3), (36, 4)]) (fr_tr (M := [(36, 0), (36, 1), (36, 2), (36, 3), (36, 4)]) (fr_tr (M := [(36, 0), (36, 1), (36, 2), (36, 3), (36, 4)]) (fr_tr (M := [(36, 0), (36, 1), (36, 2), (36, 3), (36, 4)]) fr_rf (fr_up hE2) (M1 := []) rfl rfl) (fr_up hE5) rfl rfl) (fr_up hE8) rfl rfl) (fr_up hE11) rfl rfl) (fr_up hE14) rfl rfl) (by omega))
theorem ct_33_36_52 {l : Launch} {D : va_G} {b0 : Nat} {ad : Nat → Nat} {Hb : Heap} {tau : Nat → Int64} {d n s : Nat} {S : Nat → xS} {Z : xZ} {h : mx_H} (hx : XH n s S Z h) (hG : GI n S Z)   : ∃ (Z' : xZ) (h' : mx_H), mx_Ca (tB l D b0 ad Hb tau) (d + 1) 33 [.ref 36, .ref 52] h (none, h') ∧ XH n s S Z' h' ∧ GI n S Z' ∧ fr' [(36, 0), (36, 1), (36, 2), (36, 3), (36, 4)] Z Z' ∧ ((Z' 36 1 = Z 52 1)) := by
  obtain ⟨r, hca, Z', h', e, q⟩ := Jmt (B := tB l D b0 ad Hb tau) (M := mt_33) (mi := 33) (as := [.ref 36, .ref 52]) (d := d + 0) (ls := [some (.ref 36), some (.ref 52)]) rfl rfl rfl rfl rfl rfl (cw_33_36_52 (l := l) (D := D) (b0 := b0) (ad := ad) (Hb := Hb) (tau := tau) (d := d) (Post := fun r => ∃ (Z' : xZ) (h' : mx_H), r = (none, h') ∧ XH n s S Z' h' ∧ GI n S Z' ∧ fr' [(36, 0), (36, 1), (36, 2), (36, 3), (36, 4)] Z Z' ∧ ((Z' 36 1 = Z 52 1))) hx hG  (fun Z' h' q1 q2 q3 q4 => ⟨Z', h', rfl, q1, q2, q3, q4⟩))
  subst e; exact ⟨Z', h', hca, q⟩
set_option maxRecDepth 100000 in
theorem cw_33_36_54 {l : Launch} {D : va_G} {b0 : Nat} {ad : Nat → Nat} {Hb : Heap} {tau : Nat → Int64} {d n s : Nat} {S : Nat → xS} {Z : xZ} {h : mx_H} {Post : mx_R → Prop} (hx : XH n s S Z h) (hG : GI n S Z)   (hP : ∀ (Z' : xZ) (h' : mx_H), XH n s S Z' h' → GI n S Z' → fr' [(36, 0), (36, 1), (36, 2), (36, 3), (36, 4)] Z Z' → (Z' 36 1 = Z 54 1) → Post (none, h')) : mx_J (tB l D b0 ad Hb tau) mt_33 (d + 0) 0 [some (.ref 36), some (.ref 54)] [] h Post := by
    have a36 : 36 < n := lt83 (GI_n hG) rfl
    have s36 : S 36 = .inl (5, [2, 0, 0, 0, 0, 0]) := GI_s hG 36 rfl
    have a54 : 54 < n := lt83 (GI_n hG) rfl
    have s54 : S 54 = .inl (5, [2, 0, 0, 0, 0, 0]) := GI_s hG 54 rfl
    refine mx_J.step (sn_33 0) (fun _ _ => rfl) ?_
    refine mx_J.step (sn_33 1) (fun _ _ => rfl) ?_
    obtain ⟨r1, er1, or1, ar1, sr1⟩ := GI_l54 hG
    refine JgetR (g := 0) (b := r1) hx (show mx_Sn _ _ 2 (mx_getf 5 0 5) from sn_33 2) a54 s54 rfl rfl er1 ?_
    refine JputR (g := 0) hx (show mx_Sn _ _ 5 (mx_putf 1 5 0 (.object "TitheHeap$Laws") 8) from sn_33 5) a36 s36 rfl rfl rfl rfl (fun Z2 h2 hx2 hE2 => ?_)
    have hG2 := GI_upL hG hE2 (show (0 : Int) ≤ (r1 : Int) ∧ (r1 : Int) ≤ 4096 by have hn := hx.2.2.1; omega) trivial rfl ⟨r1, rfl, or1, ar1, sr1⟩
    refine mx_J.step (sn_33 8) (fun _ _ => rfl) ?_
    refine mx_J.step (sn_33 9) (fun _ _ => rfl) ?_
    have b4 : 1 ≤ Z 54 1 ∧ Z 54 1 ≤ 18 := hG.pr 54 1
    refine JgetI (g := 1) (z := Z 54 1) hx2 (show mx_Sn _ _ 10 (mx_getf 5 1 13) from sn_33 10) a54 s54 rfl rfl (up_nk hE2 rfl) ?_
    refine JputI (g := 1) hx2 (show mx_Sn _ _ 13 (mx_putf 1 5 1 (.int) 16) from sn_33 13) a36 s36 rfl rfl rfl rfl (fun Z5 h5 hx5 hE5 => ?_)
    have hG5 := GI_up hG2 hE5 (show 1 ≤ Z 54 1 ∧ Z 54 1 ≤ 18 by omega) trivial rfl
    refine mx_J.step (sn_33 16) (fun _ _ => rfl) ?_
    refine mx_J.step (sn_33 17) (fun _ _ => rfl) ?_
    have b7 : 0 ≤ Z 54 2 ∧ Z 54 2 ≤ 384 := hG.pr 54 2
    refine JgetI (g := 2) (z := Z 54 2) hx5 (show mx_Sn _ _ 18 (mx_getf 5 2 21) from sn_33 18) a54 s54 rfl rfl ((up_nk hE5 rfl).trans (up_nk hE2 rfl)) ?_
    refine JputI (g := 2) hx5 (show mx_Sn _ _ 21 (mx_putf 1 5 2 (.int) 24) from sn_33 21) a36 s36 rfl rfl rfl rfl (fun Z8 h8 hx8 hE8 => ?_)
    have hG8 := GI_up hG5 hE8 (show 0 ≤ Z 54 2 ∧ Z 54 2 ≤ 384 by omega) trivial rfl
    refine mx_J.step (sn_33 24) (fun _ _ => rfl) ?_
    refine mx_J.step (sn_33 25) (fun _ _ => rfl) ?_
    have b10 : 0 ≤ Z 54 3 ∧ Z 54 3 ≤ 9 := hG.pr 54 3
    refine JgetI (g := 3) (z := Z 54 3) hx8 (show mx_Sn _ _ 26 (mx_getf 5 3 29) from sn_33 26) a54 s54 rfl rfl ((up_nk hE8 rfl).trans ((up_nk hE5 rfl).trans (up_nk hE2 rfl))) ?_
    refine JputI (g := 3) hx8 (show mx_Sn _ _ 29 (mx_putf 1 5 3 (.int) 32) from sn_33 29) a36 s36 rfl rfl rfl rfl (fun Z11 h11 hx11 hE11 => ?_)
    have hG11 := GI_up hG8 hE11 (show 0 ≤ Z 54 3 ∧ Z 54 3 ≤ 9 by omega) trivial rfl
    refine mx_J.step (sn_33 32) (fun _ _ => rfl) ?_
    refine mx_J.step (sn_33 33) (fun _ _ => rfl) ?_
    have b13 : (-2147483648) ≤ Z 54 4 ∧ Z 54 4 ≤ 2147483647 := hG.pr 54 4
    refine JgetI (g := 4) (z := Z 54 4) hx11 (show mx_Sn _ _ 34 (mx_getf 5 4 37) from sn_33 34) a54 s54 rfl rfl ((up_nk hE11 rfl).trans ((up_nk hE8 rfl).trans ((up_nk hE5 rfl).trans (up_nk hE2 rfl)))) ?_
    refine JputI (g := 4) hx11 (show mx_Sn _ _ 37 (mx_putf 1 5 4 (.int) 40) from sn_33 37) a36 s36 rfl rfl rfl rfl (fun Z14 h14 hx14 hE14 => ?_)
    have hG14 := GI_up hG11 hE14 (show (-2147483648) ≤ Z 54 4 ∧ Z 54 4 ≤ 2147483647 by omega) trivial rfl
    have eq15 : Z14 36 1 = Z 54 1 := ((up_ni hE14 (by decide)).trans ((up_ni hE11 (by decide)).trans ((up_ni hE8 (by decide)).trans (up_at hE5))))
    have eq16 : Z14 54 1 = Z 54 1 := ((up_nk hE14 rfl).trans ((up_nk hE11 rfl).trans ((up_nk hE8 rfl).trans ((up_nk hE5 rfl).trans (up_nk hE2 rfl)))))
    exact mx_J.ret (sn_33 40) (fun _ _ => rfl) (hP Z14 h14 hx14 hG14 (fr_tr (M := [(36, 0), (36, 1), (36, 2), (36, 3), (36, 4)]) (fr_tr (M := [(36, 0), (36, 1), (36, 2), (36, 3), (36, 4)]) (fr_tr (M := [(36, 0), (36, 1), (36, 2), (36, 3), (36, 4)]) (fr_tr (M := [(36, 0), (36, 1), (36, 2), (36, 3), (36, 4)]) (fr_tr (M := [(36, 0), (36, 1), (36, 2), (36, 3), (36, 4)]) fr_rf (fr_up hE2) (M1 := []) rfl rfl) (fr_up hE5) rfl rfl) (fr_up hE8) rfl rfl) (fr_up hE11) rfl rfl) (fr_up hE14) rfl rfl) (by omega))
theorem ct_33_36_54 {l : Launch} {D : va_G} {b0 : Nat} {ad : Nat → Nat} {Hb : Heap} {tau : Nat → Int64} {d n s : Nat} {S : Nat → xS} {Z : xZ} {h : mx_H} (hx : XH n s S Z h) (hG : GI n S Z)   : ∃ (Z' : xZ) (h' : mx_H), mx_Ca (tB l D b0 ad Hb tau) (d + 1) 33 [.ref 36, .ref 54] h (none, h') ∧ XH n s S Z' h' ∧ GI n S Z' ∧ fr' [(36, 0), (36, 1), (36, 2), (36, 3), (36, 4)] Z Z' ∧ ((Z' 36 1 = Z 54 1)) := by
  obtain ⟨r, hca, Z', h', e, q⟩ := Jmt (B := tB l D b0 ad Hb tau) (M := mt_33) (mi := 33) (as := [.ref 36, .ref 54]) (d := d + 0) (ls := [some (.ref 36), some (.ref 54)]) rfl rfl rfl rfl rfl rfl (cw_33_36_54 (l := l) (D := D) (b0 := b0) (ad := ad) (Hb := Hb) (tau := tau) (d := d) (Post := fun r => ∃ (Z' : xZ) (h' : mx_H), r = (none, h') ∧ XH n s S Z' h' ∧ GI n S Z' ∧ fr' [(36, 0), (36, 1), (36, 2), (36, 3), (36, 4)] Z Z' ∧ ((Z' 36 1 = Z 54 1))) hx hG  (fun Z' h' q1 q2 q3 q4 => ⟨Z', h', rfl, q1, q2, q3, q4⟩))
  subst e; exact ⟨Z', h', hca, q⟩
set_option maxRecDepth 100000 in
theorem cw_35_40_36 {l : Launch} {D : va_G} {b0 : Nat} {ad : Nat → Nat} {Hb : Heap} {tau : Nat → Int64} {d n s : Nat} {S : Nat → xS} {Z : xZ} {h : mx_H} {Post : mx_R → Prop} (hx : XH n s S Z h) (hG : GI n S Z)   (hP : ∀ (Z' : xZ) (h' : mx_H), XH n s S Z' h' → GI n S Z' → fr' [(40, 1), (41, (-1))] Z Z' → Post (none, h')) : mx_J (tB l D b0 ad Hb tau) mt_35 (d + 1) 0 [some (.ref 40), some (.ref 36)] [] h Post := by
    have a36 : 36 < n := lt83 (GI_n hG) rfl
    have s36 : S 36 = .inl (5, [2, 0, 0, 0, 0, 0]) := GI_s hG 36 rfl
    have a40 : 40 < n := lt83 (GI_n hG) rfl
    have s40 : S 40 = .inl (6, [2, 0]) := GI_s hG 40 rfl
    have a41 : 41 < n := lt83 (GI_n hG) rfl
    have s41 : S 41 = .inr (.int, 30, 0) := GI_s hG 41 rfl
    refine mx_J.step (sn_35 0) (fun _ _ => rfl) ?_
    have b2 : 0 ≤ Z 40 1 ∧ Z 40 1 ≤ 10 := hG.pr 40 1
    refine JgetI (g := 1) (z := Z 40 1) hx (show mx_Sn _ _ 1 (mx_getf 6 1 4) from sn_35 1) a40 s40 rfl rfl rfl ?_
    refine JcI (z := 10) (show mx_Sn _ _ 4 (mx_const (.int 10) 6) from sn_35 4) rfl ?_
    have c39 : ∀  (Z4 : xZ) (h4 : mx_H), Z4 40 1 ≤ 9 → XH n s S Z4 h4 → GI n S Z4 → fr' [(40, 1), (41, (-1))] Z Z4 → mx_J (tB l D b0 ad Hb tau) mt_35 (d + 1) 39 [some (.ref 40), some (.ref 36)] [] h4 Post := by
      intro Z4 h4 f3_0 hx4 hG4 hf4
      have b5 : 0 ≤ Z4 40 1 ∧ Z4 40 1 ≤ 10 := hG4.pr 40 1
      refine mx_J.step (sn_35 39) (fun _ _ => rfl) ?_
      refine JgetR (g := 0) (b := 41) hx4 (show mx_Sn _ _ 40 (mx_getf 6 0 43) from sn_35 40) a40 s40 rfl rfl (hG4.prr 40 0 rfl) ?_
      refine mx_J.step (sn_35 43) (fun _ _ => rfl) ?_
      refine JgetI (g := 1) (z := Z4 40 1) hx4 (show mx_Sn _ _ 44 (mx_getf 6 1 47) from sn_35 44) a40 s40 rfl rfl rfl ?_
      refine JcI (z := 3) (show mx_Sn _ _ 47 (mx_const (.int 3) 48) from sn_35 47) rfl ?_
      refine Jimul (show mx_Sn _ _ 48 (mx_imul 49) from sn_35 48) ?_
      refine mx_J.step (sn_35 49) (fun _ _ => rfl) ?_
      have b9 : 0 ≤ Z 36 2 ∧ Z 36 2 ≤ 384 := hG.pr 36 2
      refine JgetI (g := 2) (z := Z 36 2) hx4 (show mx_Sn _ _ 50 (mx_getf 5 2 53) from sn_35 50) a36 s36 rfl rfl (hf4 36 2 rfl) ?_
      refine JiastI hx4 (show mx_Sn _ _ 53 (mx_iast 1 54) from sn_35 53) a41 s41 rfl (by omega) (fun Z10 h10 hx10 hE10 => ?_)
      have hG10 := GI_up hG4 hE10 (show (-2147483648) ≤ Z 36 2 ∧ Z 36 2 ≤ 2147483647 by omega) (show (((((Z4 40 1) * 3) : Int) % 3 = 0 → 0 ≤ (Z 36 2) ∧ (Z 36 2) ≤ 384) ∧ ((((Z4 40 1) * 3) : Int) % 3 = 1 → 0 ≤ (Z 36 2) ∧ (Z 36 2) ≤ 9)) by first | omega | (unfold f57 at *; omega)) rfl
      refine mx_J.step (sn_35 54) (fun _ _ => rfl) ?_
      refine JgetR (g := 0) (b := 41) hx10 (show mx_Sn _ _ 55 (mx_getf 6 0 58) from sn_35 55) a40 s40 rfl rfl (hG10.prr 40 0 rfl) ?_
      refine mx_J.step (sn_35 58) (fun _ _ => rfl) ?_
      refine JgetI (g := 1) (z := Z4 40 1) hx10 (show mx_Sn _ _ 59 (mx_getf 6 1 62) from sn_35 59) a40 s40 rfl rfl (up_nk hE10 rfl) ?_
      refine JcI (z := 3) (show mx_Sn _ _ 62 (mx_const (.int 3) 63) from sn_35 62) rfl ?_
      refine Jimul (show mx_Sn _ _ 63 (mx_imul 64) from sn_35 63) ?_
      refine JcI (z := 1) (show mx_Sn _ _ 64 (mx_const (.int 1) 65) from sn_35 64) rfl ?_
      refine Jiadd (show mx_Sn _ _ 65 (mx_iadd 66) from sn_35 65) ?_
      refine mx_J.step (sn_35 66) (fun _ _ => rfl) ?_
      have b14 : 0 ≤ Z 36 3 ∧ Z 36 3 ≤ 9 := hG.pr 36 3
      refine JgetI (g := 3) (z := Z 36 3) hx10 (show mx_Sn _ _ 67 (mx_getf 5 3 70) from sn_35 67) a36 s36 rfl rfl ((up_nk hE10 rfl).trans (hf4 36 3 rfl)) ?_
      refine JiastI hx10 (show mx_Sn _ _ 70 (mx_iast 1 71) from sn_35 70) a41 s41 rfl (by omega) (fun Z15 h15 hx15 hE15 => ?_)
      have hG15 := GI_up hG10 hE15 (show (-2147483648) ≤ Z 36 3 ∧ Z 36 3 ≤ 2147483647 by omega) (show ((((((Z4 40 1) * 3) + 1) : Int) % 3 = 0 → 0 ≤ (Z 36 3) ∧ (Z 36 3) ≤ 384) ∧ (((((Z4 40 1) * 3) + 1) : Int) % 3 = 1 → 0 ≤ (Z 36 3) ∧ (Z 36 3) ≤ 9)) by first | omega | (unfold f57 at *; omega)) rfl
      refine mx_J.step (sn_35 71) (fun _ _ => rfl) ?_
      refine JgetR (g := 0) (b := 41) hx15 (show mx_Sn _ _ 72 (mx_getf 6 0 75) from sn_35 72) a40 s40 rfl rfl (hG15.prr 40 0 rfl) ?_
      refine mx_J.step (sn_35 75) (fun _ _ => rfl) ?_
      refine JgetI (g := 1) (z := Z4 40 1) hx15 (show mx_Sn _ _ 76 (mx_getf 6 1 79) from sn_35 76) a40 s40 rfl rfl ((up_nk hE15 rfl).trans (up_nk hE10 rfl)) ?_
      refine JcI (z := 3) (show mx_Sn _ _ 79 (mx_const (.int 3) 80) from sn_35 79) rfl ?_
      refine Jimul (show mx_Sn _ _ 80 (mx_imul 81) from sn_35 80) ?_
      refine JcI (z := 2) (show mx_Sn _ _ 81 (mx_const (.int 2) 82) from sn_35 81) rfl ?_
      refine Jiadd (show mx_Sn _ _ 82 (mx_iadd 83) from sn_35 82) ?_
      refine mx_J.step (sn_35 83) (fun _ _ => rfl) ?_
      have b19 : (-2147483648) ≤ Z 36 4 ∧ Z 36 4 ≤ 2147483647 := hG.pr 36 4
      refine JgetI (g := 4) (z := Z 36 4) hx15 (show mx_Sn _ _ 84 (mx_getf 5 4 87) from sn_35 84) a36 s36 rfl rfl ((up_nk hE15 rfl).trans ((up_nk hE10 rfl).trans (hf4 36 4 rfl))) ?_
      refine JiastI hx15 (show mx_Sn _ _ 87 (mx_iast 1 88) from sn_35 87) a41 s41 rfl (by omega) (fun Z20 h20 hx20 hE20 => ?_)
      have hG20 := GI_up hG15 hE20 (show (-2147483648) ≤ Z 36 4 ∧ Z 36 4 ≤ 2147483647 by omega) (show ((((((Z4 40 1) * 3) + 2) : Int) % 3 = 0 → 0 ≤ (Z 36 4) ∧ (Z 36 4) ≤ 384) ∧ (((((Z4 40 1) * 3) + 2) : Int) % 3 = 1 → 0 ≤ (Z 36 4) ∧ (Z 36 4) ≤ 9)) by first | omega | (unfold f57 at *; omega)) rfl
      refine mx_J.step (sn_35 88) (fun _ _ => rfl) ?_
      refine mx_J.step (sn_35 89) (fun _ _ => rfl) ?_
      refine JgetI (g := 1) (z := Z4 40 1) hx20 (show mx_Sn _ _ 90 (mx_getf 6 1 93) from sn_35 90) a40 s40 rfl rfl ((up_nk hE20 rfl).trans ((up_nk hE15 rfl).trans (up_nk hE10 rfl))) ?_
      refine JcI (z := 1) (show mx_Sn _ _ 93 (mx_const (.int 1) 94) from sn_35 93) rfl ?_
      refine Jiadd (show mx_Sn _ _ 94 (mx_iadd 95) from sn_35 94) ?_
      refine JputI (g := 1) hx20 (show mx_Sn _ _ 95 (mx_putf 1 6 1 (.int) 98) from sn_35 95) a40 s40 rfl rfl rfl rfl (fun Z22 h22 hx22 hE22 => ?_)
      have hG22 := GI_up hG20 hE22 (show 0 ≤ (Z4 40 1) + 1 ∧ (Z4 40 1) + 1 ≤ 10 by omega) trivial rfl
      exact mx_J.ret (sn_35 98) (fun _ _ => rfl) (hP Z22 h22 hx22 hG22 (fr_tr (M := [(40, 1), (41, (-1))]) (fr_tr (M := [(40, 1), (41, (-1))]) (fr_tr (M := [(40, 1), (41, (-1))]) (fr_tr (M := [(40, 1), (41, (-1))]) (fr_tr (M := [(40, 1), (41, (-1))]) fr_rf (hf4) (M1 := []) rfl rfl) (fr_ua hE10) rfl rfl) (fr_ua hE15) rfl rfl) (fr_ua hE20) rfl rfl) (fr_up hE22) rfl rfl))
    refine Jicmp_ne (show mx_Sn _ _ 6 (mx_icmp_ne 39 9) from sn_35 6) (by omega) (by omega) (fun q23 => ?_) (fun q23 => ?_)
    · skip
      exact c39 Z h (by omega) hx hG fr_rf
    · skip
      refine mx_J.step (sn_35 9) (fun _ _ => rfl) ?_
      refine JgetR (g := 0) (b := 41) hx (show mx_Sn _ _ 10 (mx_getf 6 0 13) from sn_35 10) a40 s40 rfl rfl (hG.prr 40 0 rfl) ?_
      refine JcI (z := 3) (show mx_Sn _ _ 13 (mx_const (.int 3) 14) from sn_35 13) rfl ?_
      refine mx_J.step (sn_35 14) (fun _ _ => rfl) ?_
      refine JgetR (g := 0) (b := 41) hx (show mx_Sn _ _ 15 (mx_getf 6 0 18) from sn_35 15) a40 s40 rfl rfl (hG.prr 40 0 rfl) ?_
      refine JcI (z := 0) (show mx_Sn _ _ 18 (mx_const (.int 0) 19) from sn_35 18) rfl ?_
      refine mx_J.step (sn_35 19) (fun _ _ => rfl) ?_
      refine JgetR (g := 0) (b := 41) hx (show mx_Sn _ _ 20 (mx_getf 6 0 23) from sn_35 20) a40 s40 rfl rfl (hG.prr 40 0 rfl) ?_
      refine JalenI (z := 30) hx (show mx_Sn _ _ 23 (mx_alen 24) from sn_35 23) a41 s41 (by decide) rfl ?_
      refine JcI (z := 3) (show mx_Sn _ _ 24 (mx_const (.int 3) 25) from sn_35 24) rfl ?_
      refine JisubE (r := 27) (show mx_Sn _ _ 25 (mx_isub 26) from sn_35 25) (by decide) ?_
      refine Jacopy (la := 30) (lb := 30) hx (show mx_Sn _ _ 26 (mx_acopy 1 29) from sn_35 26) a41 s41 a41 s41 rfl (by omega) (by omega) (by omega) ⟨_, rfl⟩ rfl (fun Z27 h27 hx27 hE27 => ?_)
      have hG27 := GI_c41 hG hE27
      have hf27 := cpy_fr hE27
      refine mx_J.step (sn_35 29) (fun _ _ => rfl) ?_
      refine mx_J.step (sn_35 30) (fun _ _ => rfl) ?_
      refine JgetI (g := 1) (z := Z 40 1) hx27 (show mx_Sn _ _ 31 (mx_getf 6 1 34) from sn_35 31) a40 s40 rfl rfl (hf27 40 1 rfl) ?_
      refine JcI (z := 1) (show mx_Sn _ _ 34 (mx_const (.int 1) 35) from sn_35 34) rfl ?_
      refine Jisub (show mx_Sn _ _ 35 (mx_isub 36) from sn_35 35) ?_
      refine JputI (g := 1) hx27 (show mx_Sn _ _ 36 (mx_putf 1 6 1 (.int) 39) from sn_35 36) a40 s40 rfl rfl rfl rfl (fun Z29 h29 hx29 hE29 => ?_)
      have hG29 := GI_up hG27 hE29 (show 0 ≤ (Z 40 1) - 1 ∧ (Z 40 1) - 1 ≤ 10 by omega) trivial rfl
      have eq30 : Z29 40 1 = (Z 40 1) - 1 := (up_at hE29)
      exact c39 Z29 h29 (by omega) hx29 hG29 (fr_tr (M := [(40, 1), (41, (-1))]) (fr_tr (M := [(40, 1), (41, (-1))]) fr_rf (hf27) (M1 := []) rfl rfl) (fr_up hE29) rfl rfl)
theorem ct_35_40_36 {l : Launch} {D : va_G} {b0 : Nat} {ad : Nat → Nat} {Hb : Heap} {tau : Nat → Int64} {d n s : Nat} {S : Nat → xS} {Z : xZ} {h : mx_H} (hx : XH n s S Z h) (hG : GI n S Z)   : ∃ (Z' : xZ) (h' : mx_H), mx_Ca (tB l D b0 ad Hb tau) (d + 2) 35 [.ref 40, .ref 36] h (none, h') ∧ XH n s S Z' h' ∧ GI n S Z' ∧ fr' [(40, 1), (41, (-1))] Z Z' := by
  obtain ⟨r, hca, Z', h', e, q⟩ := Jmt (B := tB l D b0 ad Hb tau) (M := mt_35) (mi := 35) (as := [.ref 40, .ref 36]) (d := d + 1) (ls := [some (.ref 40), some (.ref 36)]) rfl rfl rfl rfl rfl rfl (cw_35_40_36 (l := l) (D := D) (b0 := b0) (ad := ad) (Hb := Hb) (tau := tau) (d := d) (Post := fun r => ∃ (Z' : xZ) (h' : mx_H), r = (none, h') ∧ XH n s S Z' h' ∧ GI n S Z' ∧ fr' [(40, 1), (41, (-1))] Z Z') hx hG  (fun Z' h' q1 q2 q3 => ⟨Z', h', rfl, q1, q2, q3⟩))
  subst e; exact ⟨Z', h', hca, q⟩
set_option maxRecDepth 100000 in
theorem cw_4_7 {l : Launch} {D : va_G} {b0 : Nat} {ad : Nat → Nat} {Hb : Heap} {tau : Nat → Int64} {d n s : Nat} {S : Nat → xS} {Z : xZ} {h : mx_H} {Post : mx_R → Prop} {g0 : Int} {g1 : Int} (hx : XH n s S Z h) (hG : GB n S Z)  {x0 : Int} (p0 : 1 ≤ x0 ∧ x0 ≤ 18) (k0 : rwf Z g0 g1 x0 = 1) (k1 : (1 ≤ g0 ∧ g0 ≤ 18)) (k2 : 0 ≤ g1) (k3 : g1 < wy (g0 * 19 + g0)) (hP : ∀ (z : Int) (Z' : xZ) (h' : mx_H), XH n s S Z' h' → GB n S Z' → fr' [(11, (-1))] Z Z' → 1 ≤ z ∧ z ≤ 18 ∧ (rwf Z' g0 (g1 + 1) z = 1) → Post (some (xI z), h')) : mx_J (tB l D b0 ad Hb tau) mt_4 (d + 1) 0 [some (.ref 7), some (xI x0), none, none, none] [] h Post := by
    have a7 : 7 < n := lt83 (GB_n hG) rfl
    have s7 : S 7 = .inl (0, [2, 2, 2, 2, 0, 0]) := GB_s hG 7 rfl
    have a11 : 11 < n := lt83 (GB_n hG) rfl
    have s11 : S 11 = .inr (.int, 19, 0) := GB_s hG 11 rfl
    have n0 := ni1_0 (Z := Z) (N := g0) (s := g1) (len := x0) (by omega) (by omega) (by omega) (by omega)
    refine mx_J.step (sn_4 0) (fun _ _ => rfl) ?_
    refine JcI (z := 1) (show mx_Sn _ _ 1 (mx_const (.int 1) 2) from sn_4 1) rfl ?_
    refine Jisub (show mx_Sn _ _ 2 (mx_isub 3) from sn_4 2) ?_
    refine mx_J.step (ls2 := [some (.ref 7), some (xI x0), some (xI (x0 - 1)), none, none]) (sn_4 3) (fun _ _ => rfl) ?_
    refine JcI (z := 1) (show mx_Sn _ _ 4 (mx_const (.int 1) 5) from sn_4 4) rfl ?_
    refine mx_J.step (ls2 := [some (.ref 7), some (xI x0), some (xI (x0 - 1)), some (xI 1), none]) (sn_4 5) (fun _ _ => rfl) ?_
    have c6 : ∀ (m1 : Nat) (w1_2 : Int) (w1_3 : Int), w1_2 - 0 < (m1 : Int) → 0 ≤ w1_2 ∧ w1_2 ≤ 17 → 1 ≤ w1_3 ∧ w1_3 ≤ 18 → NI1 Z g0 g1 w1_2 w1_3 → w1_2 + w1_3 = x0 → mx_J (tB l D b0 ad Hb tau) mt_4 (d + 1) 6 [some (.ref 7), some (xI x0), some (xI w1_2), some (xI w1_3), none] [] h Post := by
      intro m1
      induction m1 with
      | zero => intro w1_2 w1_3 q1 f1_0 f1_1 f1_2 f1_3; exact absurd q1 (by omega)
      | succ m1 ih1 =>
        intro w1_2 w1_3 q1 f1_0 f1_1 f1_2 f1_3
        refine mx_J.step (sn_4 6) (fun _ _ => rfl) ?_
        have c29 : (w1_2 = 0 ∨ ¬ Z 11 w1_2 = 1) → mx_J (tB l D b0 ad Hb tau) mt_4 (d + 1) 29 [some (.ref 7), some (xI x0), some (xI w1_2), some (xI w1_3), none] [] h Post := by
          intro f2_0
          refine mx_J.step (sn_4 29) (fun _ _ => rfl) ?_
          refine JgetR (g := 3) (b := 11) hx (show mx_Sn _ _ 30 (mx_getf 0 3 33) from sn_4 30) a7 s7 rfl rfl (hG.prr 7 3 rfl) ?_
          refine mx_J.step (sn_4 33) (fun _ _ => rfl) ?_
          refine mx_J.step (sn_4 34) (fun _ _ => rfl) ?_
          have b4 : 0 ≤ Z 11 w1_2 ∧ Z 11 w1_2 ≤ 18 := hG.pr 11 w1_2
          refine JialdI (z := Z 11 w1_2) hx (show mx_Sn _ _ 35 (mx_iald 36) from sn_4 35) a11 s11 (by omega) rfl ?_
          have np := ni1_p (Z := Z) (N := g0) (s := g1) (i := w1_2) (rest := w1_3) (by assumption) (by omega)
          refine JcI (z := 1) (show mx_Sn _ _ 36 (mx_const (.int 1) 37) from sn_4 36) rfl ?_
          refine Jisub (show mx_Sn _ _ 37 (mx_isub 38) from sn_4 37) ?_
          refine JiastI hx (show mx_Sn _ _ 38 (mx_iast 1 39) from sn_4 38) a11 s11 rfl (by omega) (fun Z5 h5 hx5 hE5 => ?_)
          have hG5 := GB_up hG hE5 (show 0 ≤ (Z 11 w1_2) - 1 ∧ (Z 11 w1_2) - 1 ≤ 18 by omega) trivial rfl
          have n2 := ni2_0 (Z := Z) (N := g0) (s := g1) (i := w1_2) (rest := w1_3) (by assumption) (by omega) (by omega) hE5
          have ua2 := up_at hE5
          refine mx_J.step (sn_4 39) (fun _ _ => rfl) ?_
          refine JgetR (g := 3) (b := 11) hx5 (show mx_Sn _ _ 40 (mx_getf 0 3 43) from sn_4 40) a7 s7 rfl rfl (hG5.prr 7 3 rfl) ?_
          refine mx_J.step (sn_4 43) (fun _ _ => rfl) ?_
          have b7 : 0 ≤ Z5 11 w1_2 ∧ Z5 11 w1_2 ≤ 18 := hG5.pr 11 w1_2
          refine JialdI (z := Z5 11 w1_2) hx5 (show mx_Sn _ _ 44 (mx_iald 45) from sn_4 44) a11 s11 (by omega) rfl ?_
          refine mx_J.step (ls2 := [some (.ref 7), some (xI x0), some (xI w1_2), some (xI w1_3), some (xI (Z5 11 w1_2))]) (sn_4 45) (fun _ _ => rfl) ?_
          refine mx_J.step (sn_4 47) (fun _ _ => rfl) ?_
          refine JcI (z := 1) (show mx_Sn _ _ 48 (mx_const (.int 1) 49) from sn_4 48) rfl ?_
          refine Jiadd (show mx_Sn _ _ 49 (mx_iadd 50) from sn_4 49) ?_
          refine mx_J.step (ls2 := [some (.ref 7), some (xI x0), some (xI (w1_2 + 1)), some (xI w1_3), some (xI (Z5 11 w1_2))]) (sn_4 50) (fun _ _ => rfl) ?_
          have c51 : ∀ (m8 : Nat) (w8_2 : Int) (w8_3 : Int) (Z9 : xZ) (h9 : mx_H), 18 - w8_2 < (m8 : Int) → 1 ≤ w8_2 ∧ w8_2 ≤ 18 → 0 ≤ w8_3 ∧ w8_3 ≤ 18 → NI2 Z9 g0 g1 w8_2 (Z5 11 w1_2) w8_3 → XH n s S Z9 h9 → GB n S Z9 → fr' [(11, (-1))] Z5 Z9 → mx_J (tB l D b0 ad Hb tau) mt_4 (d + 1) 51 [some (.ref 7), some (xI x0), some (xI w8_2), some (xI w8_3), some (xI (Z5 11 w1_2))] [] h9 Post := by
            intro m8
            induction m8 with
            | zero => intro w8_2 w8_3 Z9 h9 q8 f8_0 f8_1 f8_2 hx9 hG9 hf9; exact absurd q8 (by omega)
            | succ m8 ih8 =>
              intro w8_2 w8_3 Z9 h9 q8 f8_0 f8_1 f8_2 hx9 hG9 hf9
              refine mx_J.step (sn_4 51) (fun _ _ => rfl) ?_
              refine JcI (z := 18) (show mx_Sn _ _ 52 (mx_const (.int 18) 54) from sn_4 52) rfl ?_
              have c93 : (18 ≤ w8_2 ∨ w8_3 ≤ 0 ∨ (Z5 11 w1_2) ≤ 0) → mx_J (tB l D b0 ad Hb tau) mt_4 (d + 1) 93 [some (.ref 7), some (xI x0), some (xI w8_2), some (xI w8_3), some (xI (Z5 11 w1_2))] [] h9 Post := by
                intro f10_0
                refine mx_J.step (sn_4 93) (fun _ _ => rfl) ?_
                have nf := ni2_e (Z := Z9) (N := g0) (s := g1) (i := w8_2) (most := (Z5 11 w1_2)) (rest := w8_3) (by assumption) (by assumption) (by omega)
                exact mx_J.ret (sn_4 94) (fun _ _ => rfl) (hP w8_2 Z9 h9 hx9 hG9 (fr_tr (M := [(11, (-1))]) (fr_tr (M := [(11, (-1))]) fr_rf (fr_ua hE5) (M1 := []) rfl rfl) (hf9) rfl rfl) (by omega))
              refine Jicmp_ge (show mx_Sn _ _ 54 (mx_icmp_ge 93 57) from sn_4 54) (by omega) (by omega) (fun q11 => ?_) (fun q11 => ?_)
              · skip
                exact c93 (by omega)
              · skip
                refine mx_J.step (sn_4 57) (fun _ _ => rfl) ?_
                refine Jif_le (show mx_Sn _ _ 58 (mx_if_le 93 61) from sn_4 58) (by omega) (fun q12 => ?_) (fun q12 => ?_)
                · skip
                  exact c93 (by omega)
                · skip
                  refine mx_J.step (sn_4 61) (fun _ _ => rfl) ?_
                  refine Jif_le (show mx_Sn _ _ 63 (mx_if_le 93 66) from sn_4 63) (by omega) (fun q13 => ?_) (fun q13 => ?_)
                  · skip
                    exact c93 (by omega)
                  · skip
                    refine mx_J.step (sn_4 66) (fun _ _ => rfl) ?_
                    refine JgetR (g := 3) (b := 11) hx9 (show mx_Sn _ _ 67 (mx_getf 0 3 70) from sn_4 67) a7 s7 rfl rfl (hG9.prr 7 3 rfl) ?_
                    refine mx_J.step (sn_4 70) (fun _ _ => rfl) ?_
                    refine mx_J.step (sn_4 71) (fun _ _ => rfl) ?_
                    refine mx_J.step (sn_4 73) (fun _ _ => rfl) ?_
                    refine Jmmin (show mx_Sn _ _ 74 (mx_mmin 77) from sn_4 74) (by omega) (by omega) ⟨_, rfl⟩ rfl (fun y15 hy15 => ?_)
                    refine JiastI hx9 (show mx_Sn _ _ 77 (mx_iast 1 78) from sn_4 77) a11 s11 rfl (by omega) (fun Z16 h16 hx16 hE16 => ?_)
                    have hG16 := GB_up hG9 hE16 (show 0 ≤ y15 ∧ y15 ≤ 18 by omega) trivial rfl
                    have ua3 := up_at hE16
                    have n3 := ni2_s (Z := Z9) (N := g0) (s := g1) (i := w8_2) (most := (Z5 11 w1_2)) (rest := w8_3) (by assumption) (by omega) (by omega) (by omega) hE16 (by omega)
                    refine mx_J.step (sn_4 78) (fun _ _ => rfl) ?_
                    refine mx_J.step (sn_4 79) (fun _ _ => rfl) ?_
                    refine JgetR (g := 3) (b := 11) hx16 (show mx_Sn _ _ 80 (mx_getf 0 3 83) from sn_4 80) a7 s7 rfl rfl (hG16.prr 7 3 rfl) ?_
                    refine mx_J.step (sn_4 83) (fun _ _ => rfl) ?_
                    have b18 : 0 ≤ Z16 11 w8_2 ∧ Z16 11 w8_2 ≤ 18 := hG16.pr 11 w8_2
                    refine JialdI (z := Z16 11 w8_2) hx16 (show mx_Sn _ _ 84 (mx_iald 85) from sn_4 84) a11 s11 (by omega) rfl ?_
                    refine Jisub (show mx_Sn _ _ 85 (mx_isub 86) from sn_4 85) ?_
                    refine mx_J.step (ls2 := [some (.ref 7), some (xI x0), some (xI w8_2), some (xI (w8_3 - (Z16 11 w8_2))), some (xI (Z5 11 w1_2))]) (sn_4 86) (fun _ _ => rfl) ?_
                    refine Jiinc (z := w8_2) (cz := 1) (ls2 := [some (.ref 7), some (xI x0), some (xI (w8_2 + 1)), some (xI (w8_3 - (Z16 11 w8_2))), some (xI (Z5 11 w1_2))]) (show mx_Sn _ _ 87 (mx_iinc 2 1 90) from sn_4 87) rfl rfl rfl rfl ?_
                    refine mx_J.step (sn_4 90) (fun _ _ => rfl) ?_
                    exact ih8 (w8_2 + 1) (w8_3 - (Z16 11 w8_2)) Z16 h16 (by omega) (by omega) (by omega) (by first | exact n2 | exact n3 | assumption) hx16 hG16 (fr_tr (M := [(11, (-1))]) (fr_tr (M := [(11, (-1))]) fr_rf (hf9) (M1 := []) rfl rfl) (fr_ua hE16) rfl rfl)
          exact c51 (Int.toNat (18 - (w1_2 + 1)) + 1) (w1_2 + 1) w1_3 Z5 h5 (by omega) (by omega) (by omega) (by first | exact n2 | exact n3 | assumption) hx5 hG5 fr_rf
        refine Jif_le (show mx_Sn _ _ 7 (mx_if_le 29 10) from sn_4 7) (by omega) (fun q19 => ?_) (fun q19 => ?_)
        · skip
          exact c29 (by omega)
        · skip
          refine mx_J.step (sn_4 10) (fun _ _ => rfl) ?_
          refine JgetR (g := 3) (b := 11) hx (show mx_Sn _ _ 11 (mx_getf 0 3 14) from sn_4 11) a7 s7 rfl rfl (hG.prr 7 3 rfl) ?_
          refine mx_J.step (sn_4 14) (fun _ _ => rfl) ?_
          have b21 : 0 ≤ Z 11 w1_2 ∧ Z 11 w1_2 ≤ 18 := hG.pr 11 w1_2
          refine JialdI (z := Z 11 w1_2) hx (show mx_Sn _ _ 15 (mx_iald 16) from sn_4 15) a11 s11 (by omega) rfl ?_
          refine JcI (z := 1) (show mx_Sn _ _ 16 (mx_const (.int 1) 17) from sn_4 16) rfl ?_
          refine Jicmp_ne (show mx_Sn _ _ 17 (mx_icmp_ne 29 20) from sn_4 17) (by omega) (by omega) (fun q22 => ?_) (fun q22 => ?_)
          · skip
            exact c29 (by omega)
          · skip
            refine Jiinc (z := w1_2) (cz := (-1)) (ls2 := [some (.ref 7), some (xI x0), some (xI (w1_2 + (-1))), some (xI w1_3), none]) (show mx_Sn _ _ 20 (mx_iinc 2 (-1) 23) from sn_4 20) rfl rfl rfl rfl ?_
            refine Jiinc (z := w1_3) (cz := 1) (ls2 := [some (.ref 7), some (xI x0), some (xI (w1_2 + (-1))), some (xI (w1_3 + 1)), none]) (show mx_Sn _ _ 23 (mx_iinc 3 1 26) from sn_4 23) rfl rfl rfl rfl ?_
            refine mx_J.step (sn_4 26) (fun _ _ => rfl) ?_
            exact ih1 (w1_2 + (-1)) (w1_3 + 1) (by omega) (by omega) (by omega) (by first | exact n0.1 | exact ni1_s (by assumption) (by omega) (by omega)) (by omega)
    exact c6 (Int.toNat ((x0 - 1) - 0) + 1) (x0 - 1) 1 (by omega) (by omega) (by omega) (by first | exact n0.1 | exact ni1_s (by assumption) (by omega) (by omega)) (by omega)
theorem ct_4_7 {l : Launch} {D : va_G} {b0 : Nat} {ad : Nat → Nat} {Hb : Heap} {tau : Nat → Int64} {d n s : Nat} {S : Nat → xS} {Z : xZ} {h : mx_H} {g0 : Int} {g1 : Int} (hx : XH n s S Z h) (hG : GB n S Z)  {x0 : Int} (p0 : 1 ≤ x0 ∧ x0 ≤ 18) (k0 : rwf Z g0 g1 x0 = 1) (k1 : (1 ≤ g0 ∧ g0 ≤ 18)) (k2 : 0 ≤ g1) (k3 : g1 < wy (g0 * 19 + g0)) : ∃ (z : Int) (Z' : xZ) (h' : mx_H), mx_Ca (tB l D b0 ad Hb tau) (d + 2) 4 [.ref 7, xI x0] h (some (xI z), h') ∧ XH n s S Z' h' ∧ GB n S Z' ∧ fr' [(11, (-1))] Z Z' ∧ (1 ≤ z ∧ z ≤ 18 ∧ (rwf Z' g0 (g1 + 1) z = 1)) := by
  obtain ⟨r, hca, z, Z', h', e, q⟩ := Jmt (B := tB l D b0 ad Hb tau) (M := mt_4) (mi := 4) (as := [.ref 7, xI x0]) (d := d + 1) (ls := [some (.ref 7), some (xI x0), none, none, none]) rfl rfl rfl rfl rfl rfl (cw_4_7 (l := l) (D := D) (b0 := b0) (ad := ad) (Hb := Hb) (tau := tau) (d := d) (Post := fun r => ∃ (z : Int) (Z' : xZ) (h' : mx_H), r = (some (xI z), h') ∧ XH n s S Z' h' ∧ GB n S Z' ∧ fr' [(11, (-1))] Z Z' ∧ (1 ≤ z ∧ z ≤ 18 ∧ (rwf Z' g0 (g1 + 1) z = 1))) hx hG p0 k0 k1 k2 k3 (fun z Z' h' q1 q2 q3 q4 => ⟨z, Z', h', rfl, q1, q2, q3, q4⟩))
  subst e; exact ⟨z, Z', h', hca, q⟩
set_option maxRecDepth 100000 in
theorem cw_2_7_gb {l : Launch} {D : va_G} {b0 : Nat} {ad : Nat → Nat} {Hb : Heap} {tau : Nat → Int64} {d n s : Nat} {S : Nat → xS} {Z : xZ} {h : mx_H} {Post : mx_R → Prop} (hx : XH n s S Z h) (hG : GB n S Z)  {x0 x1 : Int} (p0 : 0 ≤ x0 ∧ x0 ≤ 18) (p1 : 0 ≤ x1 ∧ x1 ≤ 18) (hP : ∀ z : Int, 0 ≤ z ∧ z ≤ 385 ∧ z = wy (x0 * 19 + x1) → Post (some (xI z), h)) : mx_J (tB l D b0 ad Hb tau) mt_2 (d + 0) 0 [some (.ref 7), some (xI x0), some (xI x1)] [] h Post := by
    have a7 : 7 < n := lt83 (GB_n hG) rfl
    have s7 : S 7 = .inl (0, [2, 2, 2, 2, 0, 0]) := GB_s hG 7 rfl
    have a8 : 8 < n := lt83 (GB_n hG) rfl
    have s8 : S 8 = .inr (.int, 361, 0) := GB_s hG 8 rfl
    refine mx_J.step (sn_2 0) (fun _ _ => rfl) ?_
    refine JgetR (g := 0) (b := 8) hx (show mx_Sn _ _ 1 (mx_getf 0 0 4) from sn_2 1) a7 s7 rfl rfl (hG.prr 7 0 rfl) ?_
    refine mx_J.step (sn_2 4) (fun _ _ => rfl) ?_
    refine JcI (z := 19) (show mx_Sn _ _ 5 (mx_const (.int 19) 7) from sn_2 5) rfl ?_
    refine Jimul (show mx_Sn _ _ 7 (mx_imul 8) from sn_2 7) ?_
    refine mx_J.step (sn_2 8) (fun _ _ => rfl) ?_
    refine Jiadd (show mx_Sn _ _ 9 (mx_iadd 10) from sn_2 9) ?_
    have b2 : 0 ≤ Z 8 ((x0 * 19) + x1) ∧ Z 8 ((x0 * 19) + x1) ≤ 385 := hG.pr 8 ((x0 * 19) + x1)
    have b3 : ((0 : Int) ≤ ((x0 * 19) + x1) → (((x0 * 19) + x1) : Int) ≤ 360 → (Z 8 ((x0 * 19) + x1)) = wy ((x0 * 19) + x1)) := GB_ex hG 8 ((x0 * 19) + x1)
    refine JialdI (z := Z 8 ((x0 * 19) + x1)) hx (show mx_Sn _ _ 10 (mx_iald 11) from sn_2 10) a8 s8 (by omega) rfl ?_
    exact mx_J.ret (sn_2 11) (fun _ _ => rfl) (hP (Z 8 ((x0 * 19) + x1)) (by omega))
theorem ct_2_7_gb {l : Launch} {D : va_G} {b0 : Nat} {ad : Nat → Nat} {Hb : Heap} {tau : Nat → Int64} {d n s : Nat} {S : Nat → xS} {Z : xZ} {h : mx_H} (hx : XH n s S Z h) (hG : GB n S Z)  {x0 x1 : Int} (p0 : 0 ≤ x0 ∧ x0 ≤ 18) (p1 : 0 ≤ x1 ∧ x1 ≤ 18) : ∃ z : Int, mx_Ca (tB l D b0 ad Hb tau) (d + 1) 2 [.ref 7, xI x0, xI x1] h (some (xI z), h) ∧ (0 ≤ z ∧ z ≤ 385 ∧ z = wy (x0 * 19 + x1)) := by
  obtain ⟨r, hca, z, e, hp⟩ := Jmt (B := tB l D b0 ad Hb tau) (M := mt_2) (mi := 2) (as := [.ref 7, xI x0, xI x1]) (d := d + 0) (ls := [some (.ref 7), some (xI x0), some (xI x1)]) rfl rfl rfl rfl rfl rfl (cw_2_7_gb (l := l) (D := D) (b0 := b0) (ad := ad) (Hb := Hb) (tau := tau) (d := d) (Post := fun r => ∃ z : Int, r = (some (xI z), h) ∧ (0 ≤ z ∧ z ≤ 385 ∧ z = wy (x0 * 19 + x1))) hx hG p0 p1 (fun z hz => ⟨z, rfl, hz⟩))
  subst e; exact ⟨z, hca, hp⟩
set_option maxRecDepth 100000 in
theorem cw_3_7 {l : Launch} {D : va_G} {b0 : Nat} {ad : Nat → Nat} {Hb : Heap} {tau : Nat → Int64} {d n s : Nat} {S : Nat → xS} {Z : xZ} {h : mx_H} {Post : mx_R → Prop} (hx : XH n s S Z h) (hG : GI n S Z)  {x0 : Int} (p0 : 1 ≤ x0 ∧ x0 ≤ 18) (k0 : CTB Z (Z 7 4)) (hP : ∀ (Z' : xZ) (h' : mx_H), XH n s S Z' h' → GI n S Z' → fr' [(7, 4), (7, 5), (9, (-1)), (10, (-1)), (11, (-1))] Z Z' → CTB Z' x0 → Post (none, h')) : mx_J (tB l D b0 ad Hb tau) mt_3 (d + 2) 0 [some (.ref 7), some (xI x0), none, none, none] [] h Post := by
    have a7 : 7 < n := lt83 (GI_n hG) rfl
    have s7 : S 7 = .inl (0, [2, 2, 2, 2, 0, 0]) := GI_s hG 7 rfl
    have a9 : 9 < n := lt83 (GI_n hG) rfl
    have s9 : S 9 = .inr (.byte, 6930, 0) := GI_s hG 9 rfl
    have a10 : 10 < n := lt83 (GI_n hG) rfl
    have s10 : S 10 = .inr (.byte, 385, 0) := GI_s hG 10 rfl
    have a11 : 11 < n := lt83 (GI_n hG) rfl
    have s11 : S 11 = .inr (.int, 19, 0) := GI_s hG 11 rfl
    refine mx_J.step (sn_3 0) (fun _ _ => rfl) ?_
    refine mx_J.step (sn_3 1) (fun _ _ => rfl) ?_
    have b2 : 0 ≤ Z 7 4 ∧ Z 7 4 ≤ 18 := hG.pr 7 4
    refine JgetI (g := 4) (z := Z 7 4) hx (show mx_Sn _ _ 2 (mx_getf 0 4 5) from sn_3 2) a7 s7 rfl rfl rfl ?_
    have c19 : x0 = Z 7 4 → mx_J (tB l D b0 ad Hb tau) mt_3 (d + 2) 19 [some (.ref 7), some (xI x0), none, none, none] [] h Post := by
      intro f3_0
      exact mx_J.ret (sn_3 19) (fun _ _ => rfl) (hP Z h hx hG fr_rf (CTB_r k0 (by omega)))
    refine Jicmp_eq (show mx_Sn _ _ 5 (mx_icmp_eq 19 8) from sn_3 5) (by omega) (by omega) (fun q4 => ?_) (fun q4 => ?_)
    · skip
      exact c19 (by omega)
    · skip
      refine mx_J.step (sn_3 8) (fun _ _ => rfl) ?_
      refine JcI (z := 1) (show mx_Sn _ _ 9 (mx_const (.int 1) 10) from sn_3 9) rfl ?_
      refine Jicmp_lt (show mx_Sn _ _ 10 (mx_icmp_lt 19 13) from sn_3 10) (by omega) (by omega) (fun q5 => ?_) (fun q5 => ?_)
      · skip
        exact c19 (by omega)
      · skip
        refine mx_J.step (sn_3 13) (fun _ _ => rfl) ?_
        refine JcI (z := 18) (show mx_Sn _ _ 14 (mx_const (.int 18) 16) from sn_3 14) rfl ?_
        refine Jicmp_le (show mx_Sn _ _ 16 (mx_icmp_le 20 19) from sn_3 16) (by omega) (by omega) (fun q6 => ?_) (fun q6 => ?_)
        · skip
          have hGo : GI n S Z := hG
          refine mx_J.step (sn_3 20) (fun _ _ => rfl) ?_
          refine mx_J.step (sn_3 21) (fun _ _ => rfl) ?_
          refine JputI (g := 4) hx (show mx_Sn _ _ 22 (mx_putf 1 0 4 (.int) 25) from sn_3 22) a7 s7 rfl rfl rfl rfl (fun Z7 h7 hx7 hE7 => ?_)
          have hG7 := GB_up (GI_gb hG) hE7 (show 0 ≤ x0 ∧ x0 ≤ 18 by omega) trivial rfl
          refine mx_J.step (sn_3 25) (fun _ _ => rfl) ?_
          refine mx_J.step (sn_3 26) (fun _ _ => rfl) ?_
          refine mx_J.step (sn_3 27) (fun _ _ => rfl) ?_
          refine JgetI (g := 4) (z := x0) hx7 (show mx_Sn _ _ 28 (mx_getf 0 4 31) from sn_3 28) a7 s7 rfl rfl (up_at hE7) ?_
          refine mx_J.step (sn_3 31) (fun _ _ => rfl) ?_
          refine JgetI (g := 4) (z := x0) hx7 (show mx_Sn _ _ 32 (mx_getf 0 4 35) from sn_3 32) a7 s7 rfl rfl (up_at hE7) ?_
          have wq := W1 (n := x0) (m := x0) (by omega) (by omega)
          obtain ⟨z10, hc10, b10⟩ := ct_2_7_gb (d := d + 1) (l := l) (D := D) (b0 := b0) (ad := ad) (Hb := Hb) (tau := tau) hx7 hG7 (show 0 ≤ x0 ∧ x0 ≤ 18 by omega) (show 0 ≤ x0 ∧ x0 ≤ 18 by omega)
          refine Jcv hx7 (show mx_Sn _ _ 35 (mx_callv 2 3 0 38) from sn_3 35) a7 s7 hc10 rfl rfl rfl ?_
          refine JputI (g := 5) hx7 (show mx_Sn _ _ 38 (mx_putf 1 0 5 (.int) 41) from sn_3 38) a7 s7 rfl rfl rfl rfl (fun Z11 h11 hx11 hE11 => ?_)
          have hG11 := GB_up hG7 hE11 (show 0 ≤ z10 ∧ z10 ≤ 385 by omega) trivial rfl
          refine mx_J.step (sn_3 41) (fun _ _ => rfl) ?_
          refine JgetR (g := 3) (b := 11) hx11 (show mx_Sn _ _ 42 (mx_getf 0 3 45) from sn_3 42) a7 s7 rfl rfl (hG11.prr 7 3 rfl) ?_
          refine JcI (z := 0) (show mx_Sn _ _ 45 (mx_const (.int 0) 46) from sn_3 45) rfl ?_
          refine mx_J.step (sn_3 46) (fun _ _ => rfl) ?_
          refine JgetI (g := 4) (z := x0) hx11 (show mx_Sn _ _ 47 (mx_getf 0 4 50) from sn_3 47) a7 s7 rfl rfl ((up_ni hE11 (by decide)).trans (up_at hE7)) ?_
          refine JiastI hx11 (show mx_Sn _ _ 50 (mx_iast 1 51) from sn_3 50) a11 s11 rfl (by omega) (fun Z14 h14 hx14 hE14 => ?_)
          have hG14 := GB_up hG11 hE14 (show 0 ≤ x0 ∧ x0 ≤ 18 by omega) trivial rfl
          have rw0 := rwf_0 hE14
          refine JcI (z := 1) (show mx_Sn _ _ 51 (mx_const (.int 1) 52) from sn_3 51) rfl ?_
          refine mx_J.step (ls2 := [some (.ref 7), some (xI x0), some (xI 1), none, none]) (sn_3 52) (fun _ _ => rfl) ?_
          refine JcI (z := 0) (show mx_Sn _ _ 53 (mx_const (.int 0) 54) from sn_3 53) rfl ?_
          refine mx_J.step (ls2 := [some (.ref 7), some (xI x0), some (xI 1), some (xI 0), none]) (sn_3 54) (fun _ _ => rfl) ?_
          have c55 : ∀ (m15 : Nat) (w15_2 : Int) (w15_3 : Int) (u15_4 : Option Value) (Z16 : xZ) (h16 : mx_H), 385 - w15_3 < (m15 : Int) → 1 ≤ w15_2 ∧ w15_2 ≤ 18 → 0 ≤ w15_3 ∧ w15_3 ≤ 385 → smp Z16 w15_3 → rwf Z16 x0 w15_3 w15_2 = 1 → CTS Z16 x0 w15_3 → XH n s S Z16 h16 → GB n S Z16 → fr' [(9, (-1)), (10, (-1)), (11, (-1))] Z14 Z16 → mx_J (tB l D b0 ad Hb tau) mt_3 (d + 2) 55 [some (.ref 7), some (xI x0), some (xI w15_2), some (xI w15_3), u15_4] [] h16 Post := by
            intro m15
            induction m15 with
            | zero => intro w15_2 w15_3 u15_4 Z16 h16 q15 f15_0 f15_1 f15_2 f15_3 f15_4 hx16 hG16 hf16; exact absurd q15 (by omega)
            | succ m15 ih15 =>
              intro w15_2 w15_3 u15_4 Z16 h16 q15 f15_0 f15_1 f15_2 f15_3 f15_4 hx16 hG16 hf16
              refine mx_J.step (sn_3 55) (fun _ _ => rfl) ?_
              refine mx_J.step (sn_3 56) (fun _ _ => rfl) ?_
              refine JgetI (g := 5) (z := z10) hx16 (show mx_Sn _ _ 57 (mx_getf 0 5 60) from sn_3 57) a7 s7 rfl rfl ((hf16 7 5 rfl).trans ((up_nk hE14 rfl).trans (up_at hE11))) ?_
              refine Jicmp_ge (show mx_Sn _ _ 60 (mx_icmp_ge 118 63) from sn_3 60) (by omega) (by omega) (fun q18 => ?_) (fun q18 => ?_)
              · skip
                have eq19 : Z16 7 4 = x0 := ((hf16 7 4 rfl).trans ((up_nk hE14 rfl).trans ((up_ni hE11 (by decide)).trans (up_at hE7))))
                have eq20 : Z16 7 5 = z10 := ((hf16 7 5 rfl).trans ((up_nk hE14 rfl).trans (up_at hE11)))
                have eq21 : Z16 7 4 = x0 := ((hf16 7 4 rfl).trans ((up_nk hE14 rfl).trans ((up_ni hE11 (by decide)).trans (up_at hE7))))
                exact mx_J.ret (sn_3 118) (fun _ _ => rfl) (hP Z16 h16 hx16 ⟨hG16, lay_fin hGo (k := w15_3) (by assumption) (by omega) (fun i => (fr_tr (M := [(7, 4), (7, 5), (9, (-1)), (10, (-1)), (11, (-1))]) (fr_tr (M := [(7, 4), (7, 5), (9, (-1)), (10, (-1)), (11, (-1))]) (fr_tr (M := [(7, 4), (7, 5), (9, (-1)), (10, (-1)), (11, (-1))]) (fr_tr (M := [(7, 4), (7, 5), (9, (-1)), (10, (-1)), (11, (-1))]) fr_rf (fr_up hE7) (M1 := []) rfl rfl) (fr_up hE11) rfl rfl) (fr_ua hE14) rfl rfl) (hf16) rfl rfl) 57 i rfl) ((fr_tr (M := [(7, 4), (7, 5), (9, (-1)), (10, (-1)), (11, (-1))]) (fr_tr (M := [(7, 4), (7, 5), (9, (-1)), (10, (-1)), (11, (-1))]) (fr_tr (M := [(7, 4), (7, 5), (9, (-1)), (10, (-1)), (11, (-1))]) (fr_tr (M := [(7, 4), (7, 5), (9, (-1)), (10, (-1)), (11, (-1))]) fr_rf (fr_up hE7) (M1 := []) rfl rfl) (fr_up hE11) rfl rfl) (fr_ua hE14) rfl rfl) (hf16) rfl rfl) 56 18 rfl)⟩ (fr_tr (M := [(7, 4), (7, 5), (9, (-1)), (10, (-1)), (11, (-1))]) (fr_tr (M := [(7, 4), (7, 5), (9, (-1)), (10, (-1)), (11, (-1))]) (fr_tr (M := [(7, 4), (7, 5), (9, (-1)), (10, (-1)), (11, (-1))]) (fr_tr (M := [(7, 4), (7, 5), (9, (-1)), (10, (-1)), (11, (-1))]) fr_rf (fr_up hE7) (M1 := []) rfl rfl) (fr_up hE11) rfl rfl) (fr_ua hE14) rfl rfl) (hf16) rfl rfl) (CTB_m (k := w15_3) (by omega) (by omega) (by assumption) (by omega)))
              · skip
                have nb := (ni1_0 (Z := Z16) (N := x0) (s := w15_3) (len := w15_2) (by omega) (by omega) (by omega) (by omega)).2
                refine JcI (z := 0) (show mx_Sn _ _ 63 (mx_const (.int 0) 64) from sn_3 63) rfl ?_
                refine mx_J.step (ls2 := [some (.ref 7), some (xI x0), some (xI w15_2), some (xI w15_3), some (xI 0)]) (sn_3 64) (fun _ _ => rfl) ?_
                have c66 : ∀ (m22 : Nat) (w22_4 : Int) (Z23 : xZ) (h23 : mx_H), 18 - w22_4 < (m22 : Int) → 0 ≤ w22_4 ∧ w22_4 ≤ 18 → smp Z23 w15_3 → CPY Z23 w15_3 w22_4 → w22_4 ≤ w15_2 → rwf Z23 x0 w15_3 w15_2 = 1 → CTS Z23 x0 w15_3 → XH n s S Z23 h23 → GB n S Z23 → fr' [(9, (-1))] Z16 Z23 → mx_J (tB l D b0 ad Hb tau) mt_3 (d + 2) 66 [some (.ref 7), some (xI x0), some (xI w15_2), some (xI w15_3), some (xI w22_4)] [] h23 Post := by
                  intro m22
                  induction m22 with
                  | zero => intro w22_4 Z23 h23 q22 f22_0 f22_1 f22_2 f22_3 f22_4 f22_5 hx23 hG23 hf23; exact absurd q22 (by omega)
                  | succ m22 ih22 =>
                    intro w22_4 Z23 h23 q22 f22_0 f22_1 f22_2 f22_3 f22_4 f22_5 hx23 hG23 hf23
                    have eq24 : rwf Z23 x0 w15_3 w15_2 = rwf Z16 x0 w15_3 w15_2 := (rw_c (fun i => hf23 11 i rfl))
                    refine mx_J.step (sn_3 66) (fun _ _ => rfl) ?_
                    refine mx_J.step (sn_3 68) (fun _ _ => rfl) ?_
                    refine Jicmp_ge (show mx_Sn _ _ 69 (mx_icmp_ge 98 72) from sn_3 69) (by omega) (by omega) (fun q25 => ?_) (fun q25 => ?_)
                    · skip
                      refine mx_J.step (sn_3 98) (fun _ _ => rfl) ?_
                      refine JgetR (g := 2) (b := 10) hx23 (show mx_Sn _ _ 99 (mx_getf 0 2 102) from sn_3 99) a7 s7 rfl rfl (hG23.prr 7 2 rfl) ?_
                      refine mx_J.step (sn_3 102) (fun _ _ => rfl) ?_
                      refine mx_J.step (sn_3 103) (fun _ _ => rfl) ?_
                      refine Ji2bE (show mx_Sn _ _ 104 (mx_i2b 105) from sn_3 104) (by omega) ?_
                      have eq27 : rwf Z23 x0 w15_3 w15_2 = rwf Z16 x0 w15_3 w15_2 := (rw_c (fun i => hf23 11 i rfl))
                      have cq : CPY Z23 w15_3 w15_2 := (show w22_4 = w15_2 by omega) ▸ (by assumption : CPY Z23 w15_3 w22_4)
                      refine JbastI hx23 (show mx_Sn _ _ 105 (mx_bast 1 106) from sn_3 105) a10 s10 rfl (by omega) (by omega) (fun Z28 h28 hx28 hE28 => ?_)
                      have hG28 := GB_up hG23 hE28 (show 0 ≤ w15_2 ∧ w15_2 ≤ 18 by omega) trivial rfl
                      have sm2 := smp_s (Z := Z23) (N := x0) (k := w15_3) (len := w15_2) (by assumption) cq (by omega) hE28 (by omega) (by omega) (by omega)
                      have ct2 := cts_s (Z := Z23) (N := x0) (k := w15_3) (len := w15_2) (by assumption) cq (by omega) hE28
                      refine mx_J.step (sn_3 106) (fun _ _ => rfl) ?_
                      refine mx_J.step (sn_3 107) (fun _ _ => rfl) ?_
                      have eq30 : rwf Z28 x0 w15_3 w15_2 = rwf Z16 x0 w15_3 w15_2 := ((rw_c (fun i => up_nk hE28 rfl)).trans (rw_c (fun i => hf23 11 i rfl)))
                      obtain ⟨z29, Z29, h29, hc29, hx29, hG29, hf29, b29⟩ := ct_4_7 (g0 := x0) (g1 := w15_3) (d := d + 0) (l := l) (D := D) (b0 := b0) (ad := ad) (Hb := Hb) (tau := tau) hx28 hG28 (show 1 ≤ w15_2 ∧ w15_2 ≤ 18 by omega) (show rwf Z28 x0 w15_3 w15_2 = 1 by omega) (show (1 ≤ x0 ∧ x0 ≤ 18) by omega) (show 0 ≤ w15_3 by omega) (show w15_3 < wy (x0 * 19 + x0) by omega)
                      refine Jcv hx28 (show mx_Sn _ _ 108 (mx_callv 4 2 0 111) from sn_3 108) a7 s7 hc29 rfl rfl rfl ?_
                      have sm3 : smp Z29 (w15_3 + 1) := smp_c (Z := Z28) (by assumption) (fun i => hf29 9 i rfl) (fun i => hf29 10 i rfl)
                      have ct3 : CTS Z29 x0 (w15_3 + 1) := cts_c (Z := Z28) (by assumption) (fun i => hf29 9 i rfl) (fun i => hf29 10 i rfl)
                      refine mx_J.step (ls2 := [some (.ref 7), some (xI x0), some (xI z29), some (xI w15_3), some (xI w22_4)]) (sn_3 111) (fun _ _ => rfl) ?_
                      refine Jiinc (z := w15_3) (cz := 1) (ls2 := [some (.ref 7), some (xI x0), some (xI z29), some (xI (w15_3 + 1)), some (xI w22_4)]) (show mx_Sn _ _ 112 (mx_iinc 3 1 115) from sn_3 112) rfl rfl rfl rfl ?_
                      refine mx_J.step (sn_3 115) (fun _ _ => rfl) ?_
                      exact ih15 z29 (w15_3 + 1) (some (xI w22_4)) Z29 h29 (by omega) (by omega) (by omega) (by first | exact smp_0 | assumption) (by omega) (by first | exact cts_0 | assumption) hx29 hG29 (fr_tr (M := [(9, (-1)), (10, (-1)), (11, (-1))]) (fr_tr (M := [(9, (-1)), (10, (-1)), (11, (-1))]) (fr_tr (M := [(9, (-1)), (10, (-1)), (11, (-1))]) (fr_tr (M := [(9, (-1)), (10, (-1)), (11, (-1))]) fr_rf (hf16) (M1 := []) rfl rfl) (hf23) rfl rfl) (fr_ua hE28) rfl rfl) (hf29) rfl rfl)
                    · skip
                      refine mx_J.step (sn_3 72) (fun _ _ => rfl) ?_
                      refine JgetR (g := 1) (b := 9) hx23 (show mx_Sn _ _ 73 (mx_getf 0 1 76) from sn_3 73) a7 s7 rfl rfl (hG23.prr 7 1 rfl) ?_
                      refine mx_J.step (sn_3 76) (fun _ _ => rfl) ?_
                      refine JcI (z := 18) (show mx_Sn _ _ 77 (mx_const (.int 18) 79) from sn_3 77) rfl ?_
                      refine Jimul (show mx_Sn _ _ 79 (mx_imul 80) from sn_3 79) ?_
                      refine mx_J.step (sn_3 80) (fun _ _ => rfl) ?_
                      refine Jiadd (show mx_Sn _ _ 82 (mx_iadd 83) from sn_3 82) ?_
                      refine mx_J.step (sn_3 83) (fun _ _ => rfl) ?_
                      refine JgetR (g := 3) (b := 11) hx23 (show mx_Sn _ _ 84 (mx_getf 0 3 87) from sn_3 84) a7 s7 rfl rfl (hG23.prr 7 3 rfl) ?_
                      refine mx_J.step (sn_3 87) (fun _ _ => rfl) ?_
                      have b33 : 0 ≤ Z16 11 w22_4 ∧ Z16 11 w22_4 ≤ 18 := hG16.pr 11 w22_4
                      refine JialdI (z := Z16 11 w22_4) hx23 (show mx_Sn _ _ 89 (mx_iald 90) from sn_3 89) a11 s11 (by omega) (hf23 11 w22_4 rfl) ?_
                      refine Ji2bE (show mx_Sn _ _ 90 (mx_i2b 91) from sn_3 90) (by omega) ?_
                      refine JbastI hx23 (show mx_Sn _ _ 91 (mx_bast 1 92) from sn_3 91) a9 s9 rfl (by omega) (by omega) (fun Z34 h34 hx34 hE34 => ?_)
                      have hG34 := GB_up hG23 hE34 (show 0 ≤ Z16 11 w22_4 ∧ Z16 11 w22_4 ≤ 18 by omega) trivial rfl
                      have sm := smp_9 (Z := Z23) (k := w15_3) (by assumption) hE34 (by omega) (fun t => (hG23.pr 10 t).2)
                      have cp := cpy_s (Z := Z23) (k := w15_3) (i := w22_4) (by assumption) hE34 (by first | rfl | exact (hf23 11 _ rfl).symm)
                      have ct1 := cts_9 (Z := Z23) (N := x0) (k := w15_3) (by assumption) hE34 (by omega) (by omega) (by show w15_3 ≤ wy (x0 * 19 + x0); omega)
                      refine Jiinc (z := w22_4) (cz := 1) (ls2 := [some (.ref 7), some (xI x0), some (xI w15_2), some (xI w15_3), some (xI (w22_4 + 1))]) (show mx_Sn _ _ 92 (mx_iinc 4 1 95) from sn_3 92) rfl rfl rfl rfl ?_
                      refine mx_J.step (sn_3 95) (fun _ _ => rfl) ?_
                      have eq35 : rwf Z34 x0 w15_3 w15_2 = rwf Z16 x0 w15_3 w15_2 := ((rw_c (fun i => up_nk hE34 rfl)).trans (rw_c (fun i => hf23 11 i rfl)))
                      exact ih22 (w22_4 + 1) Z34 h34 (by omega) (by omega) (by assumption) (by first | exact cpy_0 | assumption) (by omega) (by omega) (by assumption) hx34 hG34 (fr_tr (M := [(9, (-1))]) (fr_tr (M := [(9, (-1))]) fr_rf (hf23) (M1 := []) rfl rfl) (fr_ua hE34) rfl rfl)
                exact c66 (Int.toNat (18 - 0) + 1) 0 Z16 h16 (by omega) (by omega) (by assumption) (by first | exact cpy_0 | assumption) (by omega) (by omega) (by assumption) hx16 hG16 fr_rf
          exact c55 (Int.toNat (385 - 0) + 1) 1 0 none Z14 h14 (by omega) (by omega) (by omega) (by first | exact smp_0 | assumption) (by omega) (by first | exact cts_0 | assumption) hx14 hG14 fr_rf
        · skip
          exact c19 (by omega)
theorem ct_3_7 {l : Launch} {D : va_G} {b0 : Nat} {ad : Nat → Nat} {Hb : Heap} {tau : Nat → Int64} {d n s : Nat} {S : Nat → xS} {Z : xZ} {h : mx_H} (hx : XH n s S Z h) (hG : GI n S Z)  {x0 : Int} (p0 : 1 ≤ x0 ∧ x0 ≤ 18) (k0 : CTB Z (Z 7 4)) : ∃ (Z' : xZ) (h' : mx_H), mx_Ca (tB l D b0 ad Hb tau) (d + 3) 3 [.ref 7, xI x0] h (none, h') ∧ XH n s S Z' h' ∧ GI n S Z' ∧ fr' [(7, 4), (7, 5), (9, (-1)), (10, (-1)), (11, (-1))] Z Z' ∧ (CTB Z' x0) := by
  obtain ⟨r, hca, Z', h', e, q⟩ := Jmt (B := tB l D b0 ad Hb tau) (M := mt_3) (mi := 3) (as := [.ref 7, xI x0]) (d := d + 2) (ls := [some (.ref 7), some (xI x0), none, none, none]) rfl rfl rfl rfl rfl rfl (cw_3_7 (l := l) (D := D) (b0 := b0) (ad := ad) (Hb := Hb) (tau := tau) (d := d) (Post := fun r => ∃ (Z' : xZ) (h' : mx_H), r = (none, h') ∧ XH n s S Z' h' ∧ GI n S Z' ∧ fr' [(7, 4), (7, 5), (9, (-1)), (10, (-1)), (11, (-1))] Z Z' ∧ (CTB Z' x0)) hx hG p0 k0 (fun Z' h' q1 q2 q3 q4 => ⟨Z', h', rfl, q1, q2, q3, q4⟩))
  subst e; exact ⟨Z', h', hca, q⟩
set_option maxRecDepth 100000 in
theorem cw_36_40_36 {l : Launch} {D : va_G} {b0 : Nat} {ad : Nat → Nat} {Hb : Heap} {tau : Nat → Int64} {d n s : Nat} {S : Nat → xS} {Z : xZ} {h : mx_H} {Post : mx_R → Prop} (hx : XH n s S Z h) (hG : GI n S Z)  {x0 : Int} (p0 : (-2147483648) ≤ x0 ∧ x0 ≤ 2147483647) (hP : ∀ (Z' : xZ) (h' : mx_H), XH n s S Z' h' → GI n S Z' → fr' [(36, 2), (36, 3), (36, 4), (40, 1)] Z Z' → Post (none, h')) : mx_J (tB l D b0 ad Hb tau) mt_36 (d + 0) 0 [some (.ref 40), some (.ref 36), some (xI x0)] [] h Post := by
    have a36 : 36 < n := lt83 (GI_n hG) rfl
    have s36 : S 36 = .inl (5, [2, 0, 0, 0, 0, 0]) := GI_s hG 36 rfl
    have a40 : 40 < n := lt83 (GI_n hG) rfl
    have s40 : S 40 = .inl (6, [2, 0]) := GI_s hG 40 rfl
    have a41 : 41 < n := lt83 (GI_n hG) rfl
    have s41 : S 41 = .inr (.int, 30, 0) := GI_s hG 41 rfl
    refine mx_J.step (sn_36 0) (fun _ _ => rfl) ?_
    refine JcI (z := 1) (show mx_Sn _ _ 1 (mx_const (.int 1) 2) from sn_36 1) rfl ?_
    have c13 : mx_J (tB l D b0 ad Hb tau) mt_36 (d + 0) 13 [some (.ref 40), some (.ref 36), some (xI x0)] [] h Post := by
      exact mx_J.ret (sn_36 13) (fun _ _ => rfl) (hP Z h hx hG fr_rf)
    refine Jicmp_lt (show mx_Sn _ _ 2 (mx_icmp_lt 13 5) from sn_36 2) (by omega) (by omega) (fun q2 => ?_) (fun q2 => ?_)
    · skip
      exact c13 
    · skip
      refine mx_J.step (sn_36 5) (fun _ _ => rfl) ?_
      refine mx_J.step (sn_36 6) (fun _ _ => rfl) ?_
      have b4 : 0 ≤ Z 40 1 ∧ Z 40 1 ≤ 10 := hG.pr 40 1
      refine JgetI (g := 1) (z := Z 40 1) hx (show mx_Sn _ _ 7 (mx_getf 6 1 10) from sn_36 7) a40 s40 rfl rfl rfl ?_
      refine Jicmp_le (show mx_Sn _ _ 10 (mx_icmp_le 14 13) from sn_36 10) (by omega) (by omega) (fun q5 => ?_) (fun q5 => ?_)
      · skip
        refine mx_J.step (sn_36 14) (fun _ _ => rfl) ?_
        refine mx_J.step (sn_36 15) (fun _ _ => rfl) ?_
        refine JgetI (g := 1) (z := Z 40 1) hx (show mx_Sn _ _ 16 (mx_getf 6 1 19) from sn_36 16) a40 s40 rfl rfl rfl ?_
        refine mx_J.step (sn_36 19) (fun _ _ => rfl) ?_
        refine Jisub (show mx_Sn _ _ 20 (mx_isub 21) from sn_36 20) ?_
        refine JputI (g := 1) hx (show mx_Sn _ _ 21 (mx_putf 1 6 1 (.int) 24) from sn_36 21) a40 s40 rfl rfl rfl rfl (fun Z7 h7 hx7 hE7 => ?_)
        have hG7 := GI_up hG hE7 (show 0 ≤ (Z 40 1) - x0 ∧ (Z 40 1) - x0 ≤ 10 by omega) trivial rfl
        refine mx_J.step (sn_36 24) (fun _ _ => rfl) ?_
        refine mx_J.step (sn_36 25) (fun _ _ => rfl) ?_
        refine JgetR (g := 0) (b := 41) hx7 (show mx_Sn _ _ 26 (mx_getf 6 0 29) from sn_36 26) a40 s40 rfl rfl (hG7.prr 40 0 rfl) ?_
        refine mx_J.step (sn_36 29) (fun _ _ => rfl) ?_
        refine JgetI (g := 1) (z := (Z 40 1) - x0) hx7 (show mx_Sn _ _ 30 (mx_getf 6 1 33) from sn_36 30) a40 s40 rfl rfl (up_at hE7) ?_
        refine JcI (z := 3) (show mx_Sn _ _ 33 (mx_const (.int 3) 34) from sn_36 33) rfl ?_
        refine Jimul (show mx_Sn _ _ 34 (mx_imul 35) from sn_36 34) ?_
        have b10 : (-2147483648) ≤ Z 41 (((Z 40 1) - x0) * 3) ∧ Z 41 (((Z 40 1) - x0) * 3) ≤ 2147483647 := hG.pr 41 (((Z 40 1) - x0) * 3)
        have b11 : ((((((Z 40 1) - x0) * 3) : Int) % 3 = 0 → 0 ≤ (Z 41 (((Z 40 1) - x0) * 3)) ∧ (Z 41 (((Z 40 1) - x0) * 3)) ≤ 384) ∧ (((((Z 40 1) - x0) * 3) : Int) % 3 = 1 → 0 ≤ (Z 41 (((Z 40 1) - x0) * 3)) ∧ (Z 41 (((Z 40 1) - x0) * 3)) ≤ 9)) := GI_ex hG 41 (((Z 40 1) - x0) * 3)
        refine JialdI (z := Z 41 (((Z 40 1) - x0) * 3)) hx7 (show mx_Sn _ _ 35 (mx_iald 36) from sn_36 35) a41 s41 (by omega) (up_nk hE7 rfl) ?_
        refine JputI (g := 2) hx7 (show mx_Sn _ _ 36 (mx_putf 1 5 2 (.int) 39) from sn_36 36) a36 s36 rfl rfl rfl rfl (fun Z12 h12 hx12 hE12 => ?_)
        have hG12 := GI_up hG7 hE12 (show 0 ≤ Z 41 (((Z 40 1) - x0) * 3) ∧ Z 41 (((Z 40 1) - x0) * 3) ≤ 384 by omega) trivial rfl
        refine mx_J.step (sn_36 39) (fun _ _ => rfl) ?_
        refine mx_J.step (sn_36 40) (fun _ _ => rfl) ?_
        refine JgetR (g := 0) (b := 41) hx12 (show mx_Sn _ _ 41 (mx_getf 6 0 44) from sn_36 41) a40 s40 rfl rfl (hG12.prr 40 0 rfl) ?_
        refine mx_J.step (sn_36 44) (fun _ _ => rfl) ?_
        refine JgetI (g := 1) (z := (Z 40 1) - x0) hx12 (show mx_Sn _ _ 45 (mx_getf 6 1 48) from sn_36 45) a40 s40 rfl rfl ((up_nk hE12 rfl).trans (up_at hE7)) ?_
        refine JcI (z := 3) (show mx_Sn _ _ 48 (mx_const (.int 3) 49) from sn_36 48) rfl ?_
        refine Jimul (show mx_Sn _ _ 49 (mx_imul 50) from sn_36 49) ?_
        refine JcI (z := 1) (show mx_Sn _ _ 50 (mx_const (.int 1) 51) from sn_36 50) rfl ?_
        refine Jiadd (show mx_Sn _ _ 51 (mx_iadd 52) from sn_36 51) ?_
        have b15 : (-2147483648) ≤ Z 41 ((((Z 40 1) - x0) * 3) + 1) ∧ Z 41 ((((Z 40 1) - x0) * 3) + 1) ≤ 2147483647 := hG.pr 41 ((((Z 40 1) - x0) * 3) + 1)
        have b16 : (((((((Z 40 1) - x0) * 3) + 1) : Int) % 3 = 0 → 0 ≤ (Z 41 ((((Z 40 1) - x0) * 3) + 1)) ∧ (Z 41 ((((Z 40 1) - x0) * 3) + 1)) ≤ 384) ∧ ((((((Z 40 1) - x0) * 3) + 1) : Int) % 3 = 1 → 0 ≤ (Z 41 ((((Z 40 1) - x0) * 3) + 1)) ∧ (Z 41 ((((Z 40 1) - x0) * 3) + 1)) ≤ 9)) := GI_ex hG 41 ((((Z 40 1) - x0) * 3) + 1)
        refine JialdI (z := Z 41 ((((Z 40 1) - x0) * 3) + 1)) hx12 (show mx_Sn _ _ 52 (mx_iald 53) from sn_36 52) a41 s41 (by omega) ((up_nk hE12 rfl).trans (up_nk hE7 rfl)) ?_
        refine JputI (g := 3) hx12 (show mx_Sn _ _ 53 (mx_putf 1 5 3 (.int) 56) from sn_36 53) a36 s36 rfl rfl rfl rfl (fun Z17 h17 hx17 hE17 => ?_)
        have hG17 := GI_up hG12 hE17 (show 0 ≤ Z 41 ((((Z 40 1) - x0) * 3) + 1) ∧ Z 41 ((((Z 40 1) - x0) * 3) + 1) ≤ 9 by omega) trivial rfl
        refine mx_J.step (sn_36 56) (fun _ _ => rfl) ?_
        refine mx_J.step (sn_36 57) (fun _ _ => rfl) ?_
        refine JgetR (g := 0) (b := 41) hx17 (show mx_Sn _ _ 58 (mx_getf 6 0 61) from sn_36 58) a40 s40 rfl rfl (hG17.prr 40 0 rfl) ?_
        refine mx_J.step (sn_36 61) (fun _ _ => rfl) ?_
        refine JgetI (g := 1) (z := (Z 40 1) - x0) hx17 (show mx_Sn _ _ 62 (mx_getf 6 1 65) from sn_36 62) a40 s40 rfl rfl ((up_nk hE17 rfl).trans ((up_nk hE12 rfl).trans (up_at hE7))) ?_
        refine JcI (z := 3) (show mx_Sn _ _ 65 (mx_const (.int 3) 66) from sn_36 65) rfl ?_
        refine Jimul (show mx_Sn _ _ 66 (mx_imul 67) from sn_36 66) ?_
        refine JcI (z := 2) (show mx_Sn _ _ 67 (mx_const (.int 2) 68) from sn_36 67) rfl ?_
        refine Jiadd (show mx_Sn _ _ 68 (mx_iadd 69) from sn_36 68) ?_
        have b20 : (-2147483648) ≤ Z 41 ((((Z 40 1) - x0) * 3) + 2) ∧ Z 41 ((((Z 40 1) - x0) * 3) + 2) ≤ 2147483647 := hG.pr 41 ((((Z 40 1) - x0) * 3) + 2)
        have b21 : (((((((Z 40 1) - x0) * 3) + 2) : Int) % 3 = 0 → 0 ≤ (Z 41 ((((Z 40 1) - x0) * 3) + 2)) ∧ (Z 41 ((((Z 40 1) - x0) * 3) + 2)) ≤ 384) ∧ ((((((Z 40 1) - x0) * 3) + 2) : Int) % 3 = 1 → 0 ≤ (Z 41 ((((Z 40 1) - x0) * 3) + 2)) ∧ (Z 41 ((((Z 40 1) - x0) * 3) + 2)) ≤ 9)) := GI_ex hG 41 ((((Z 40 1) - x0) * 3) + 2)
        refine JialdI (z := Z 41 ((((Z 40 1) - x0) * 3) + 2)) hx17 (show mx_Sn _ _ 69 (mx_iald 70) from sn_36 69) a41 s41 (by omega) ((up_nk hE17 rfl).trans ((up_nk hE12 rfl).trans (up_nk hE7 rfl))) ?_
        refine JputI (g := 4) hx17 (show mx_Sn _ _ 70 (mx_putf 1 5 4 (.int) 73) from sn_36 70) a36 s36 rfl rfl rfl rfl (fun Z22 h22 hx22 hE22 => ?_)
        have hG22 := GI_up hG17 hE22 (show (-2147483648) ≤ Z 41 ((((Z 40 1) - x0) * 3) + 2) ∧ Z 41 ((((Z 40 1) - x0) * 3) + 2) ≤ 2147483647 by omega) trivial rfl
        exact mx_J.ret (sn_36 73) (fun _ _ => rfl) (hP Z22 h22 hx22 hG22 (fr_tr (M := [(36, 2), (36, 3), (36, 4), (40, 1)]) (fr_tr (M := [(36, 2), (36, 3), (36, 4), (40, 1)]) (fr_tr (M := [(36, 2), (36, 3), (36, 4), (40, 1)]) (fr_tr (M := [(36, 2), (36, 3), (36, 4), (40, 1)]) fr_rf (fr_up hE7) (M1 := []) rfl rfl) (fr_up hE12) rfl rfl) (fr_up hE17) rfl rfl) (fr_up hE22) rfl rfl))
      · skip
        exact c13 
theorem ct_36_40_36 {l : Launch} {D : va_G} {b0 : Nat} {ad : Nat → Nat} {Hb : Heap} {tau : Nat → Int64} {d n s : Nat} {S : Nat → xS} {Z : xZ} {h : mx_H} (hx : XH n s S Z h) (hG : GI n S Z)  {x0 : Int} (p0 : (-2147483648) ≤ x0 ∧ x0 ≤ 2147483647) : ∃ (Z' : xZ) (h' : mx_H), mx_Ca (tB l D b0 ad Hb tau) (d + 1) 36 [.ref 40, .ref 36, xI x0] h (none, h') ∧ XH n s S Z' h' ∧ GI n S Z' ∧ fr' [(36, 2), (36, 3), (36, 4), (40, 1)] Z Z' := by
  obtain ⟨r, hca, Z', h', e, q⟩ := Jmt (B := tB l D b0 ad Hb tau) (M := mt_36) (mi := 36) (as := [.ref 40, .ref 36, xI x0]) (d := d + 0) (ls := [some (.ref 40), some (.ref 36), some (xI x0)]) rfl rfl rfl rfl rfl rfl (cw_36_40_36 (l := l) (D := D) (b0 := b0) (ad := ad) (Hb := Hb) (tau := tau) (d := d) (Post := fun r => ∃ (Z' : xZ) (h' : mx_H), r = (none, h') ∧ XH n s S Z' h' ∧ GI n S Z' ∧ fr' [(36, 2), (36, 3), (36, 4), (40, 1)] Z Z') hx hG p0 (fun Z' h' q1 q2 q3 => ⟨Z', h', rfl, q1, q2, q3⟩))
  subst e; exact ⟨Z', h', hca, q⟩
set_option maxRecDepth 100000 in
theorem cw_139_1_38 {l : Launch} {D : va_G} {b0 : Nat} {ad : Nat → Nat} {Hb : Heap} {tau : Nat → Int64} {d n s : Nat} {S : Nat → xS} {Z : xZ} {h : mx_H} {Post : mx_R → Prop} (hx : XH n s S Z h) (hG : GI n S Z)  {x0 : Int} (p0 : (-9223372036854775808) ≤ x0 ∧ x0 ≤ 9223372036854775807) (hP : ∀ (z : Int) (Z' : xZ) (h' : mx_H), XH n s S Z' h' → GI n S Z' → fr' [(12, 2), (14, (-1)), (16, (-1)), (17, (-1)), (18, (-1)), (19, (-1)), (38, 2), (38, 3), (38, 4), (42, (-1))] Z Z' → 0 ≤ z ∧ z ≤ 2 → Post (some (xI z), h')) : mx_J (tB l D b0 ad Hb tau) mt_139 (d + 5) 0 [some (.ref 1), some (.ref 38), some (xL x0), none, none] [] h Post := by
    have a1 : 1 < n := lt83 (GI_n hG) rfl
    have s1 : S 1 = .inl (11, [2, 0, 0, 0, 2, 2, 2, 2, 2, 2, 2, 2, 2, 2, 2, 2, 2]) := GI_s hG 1 rfl
    refine mx_J.step (sn_139 0) (fun _ _ => rfl) ?_
    refine JcL (z := 0) (show mx_Sn _ _ 1 (mx_const (.long 0) 2) from sn_139 1) rfl ?_
    have c14 : mx_J (tB l D b0 ad Hb tau) mt_139 (d + 5) 14 [some (.ref 1), some (.ref 38), some (xL x0), none, none] [] h Post := by
      refine JcI (z := 1) (show mx_Sn _ _ 14 (mx_const (.int 1) 15) from sn_139 14) rfl ?_
      exact mx_J.ret (sn_139 15) (fun _ _ => rfl) (hP 1 Z h hx hG fr_rf (by omega))
    refine Jlif_lt (show mx_Sn _ _ 2 (mx_lif_lt 14 6) from sn_139 2) (by omega) (by omega) (fun q2 => ?_) (fun q2 => ?_)
    · skip
      exact c14 
    · skip
      refine mx_J.step (sn_139 6) (fun _ _ => rfl) ?_
      refine JcL (z := 4999) (show mx_Sn _ _ 7 (mx_const (.long 4999) 10) from sn_139 7) rfl ?_
      refine Jlif_le (show mx_Sn _ _ 10 (mx_lif_le 16 14) from sn_139 10) (by omega) (by omega) (fun q3 => ?_) (fun q3 => ?_)
      · skip
        refine mx_J.step (sn_139 16) (fun _ _ => rfl) ?_
        refine Jl2i (show mx_Sn _ _ 17 (mx_l2i 18) from sn_139 17) ?_
        refine mx_J.step (ls2 := [some (.ref 1), some (.ref 38), some (xL x0), none, some (xI x0)]) (sn_139 18) (fun _ _ => rfl) ?_
        refine mx_J.step (sn_139 20) (fun _ _ => rfl) ?_
        refine JcI (z := 18) (show mx_Sn _ _ 22 (mx_const (.int 18) 24) from sn_139 22) rfl ?_
        refine Jicmp_gt (show mx_Sn _ _ 24 (mx_icmp_gt 35 27) from sn_139 24) (by omega) (by omega) (fun q4 => ?_) (fun q4 => ?_)
        · skip
          refine mx_J.step (sn_139 35) (fun _ _ => rfl) ?_
          refine JcI (z := 3000) (show mx_Sn _ _ 37 (mx_const (.int 3000) 40) from sn_139 37) rfl ?_
          refine Jicmp_lt (show mx_Sn _ _ 40 (mx_icmp_lt 63 43) from sn_139 40) (by omega) (by omega) (fun q5 => ?_) (fun q5 => ?_)
          · skip
            refine mx_J.step (sn_139 63) (fun _ _ => rfl) ?_
            refine JcI (z := 1000) (show mx_Sn _ _ 65 (mx_const (.int 1000) 68) from sn_139 65) rfl ?_
            refine Jicmp_lt (show mx_Sn _ _ 68 (mx_icmp_lt 91 71) from sn_139 68) (by omega) (by omega) (fun q6 => ?_) (fun q6 => ?_)
            · skip
              refine mx_J.step (sn_139 91) (fun _ _ => rfl) ?_
              refine mx_J.step (sn_139 92) (fun _ _ => rfl) ?_
              refine mx_J.step (sn_139 93) (fun _ _ => rfl) ?_
              refine JcI (z := 20) (show mx_Sn _ _ 95 (mx_const (.int 20) 97) from sn_139 95) rfl ?_
              refine Jisub (show mx_Sn _ _ 97 (mx_isub 98) from sn_139 97) ?_
              obtain ⟨z7, Z7, h7, hc7, hx7, hG7, hf7, b7⟩ := ct_143_1_38 (d := d + 4) (l := l) (D := D) (b0 := b0) (ad := ad) (Hb := Hb) (tau := tau) hx hG (show (-2147483648) ≤ x0 - 20 ∧ x0 - 20 ≤ 2147483647 by omega)
              refine Jcv hx (show mx_Sn _ _ 98 (mx_callv 143 3 11 101) from sn_139 98) a1 s1 hc7 rfl rfl rfl ?_
              exact mx_J.ret (sn_139 101) (fun _ _ => rfl) (hP z7 Z7 h7 hx7 hG7 (fr_tr (M := [(12, 2), (14, (-1)), (16, (-1)), (17, (-1)), (18, (-1)), (19, (-1)), (38, 2), (38, 3), (38, 4), (42, (-1))]) fr_rf (hf7) (M1 := []) rfl rfl) (by omega))
            · skip
              refine mx_J.step (sn_139 71) (fun _ _ => rfl) ?_
              refine mx_J.step (sn_139 72) (fun _ _ => rfl) ?_
              refine mx_J.step (sn_139 73) (fun _ _ => rfl) ?_
              refine JcI (z := 1000) (show mx_Sn _ _ 75 (mx_const (.int 1000) 78) from sn_139 75) rfl ?_
              refine Jisub (show mx_Sn _ _ 78 (mx_isub 79) from sn_139 78) ?_
              refine JcI (z := 100) (show mx_Sn _ _ 79 (mx_const (.int 100) 81) from sn_139 79) rfl ?_
              refine Jidiv (show mx_Sn _ _ 81 (mx_idiv 82) from sn_139 81) (by omega) (by omega) ?_
              refine mx_J.step (sn_139 82) (fun _ _ => rfl) ?_
              refine JcI (z := 100) (show mx_Sn _ _ 84 (mx_const (.int 100) 86) from sn_139 84) rfl ?_
              refine Jirem (show mx_Sn _ _ 86 (mx_irem 87) from sn_139 86) (by omega) (by omega) ?_
              obtain ⟨z8, Z8, h8, hc8, hx8, hG8, hf8, b8⟩ := ct_141_1_38 (d := d + 2) (l := l) (D := D) (b0 := b0) (ad := ad) (Hb := Hb) (tau := tau) hx hG (show (-2147483648) ≤ (x0 - 1000) / 100 ∧ (x0 - 1000) / 100 ≤ 2147483647 by omega) (show (-2147483648) ≤ x0 % 100 ∧ x0 % 100 ≤ 2147483647 by omega)
              refine Jcv hx (show mx_Sn _ _ 87 (mx_callv 141 4 11 90) from sn_139 87) a1 s1 hc8 rfl rfl rfl ?_
              exact mx_J.ret (sn_139 90) (fun _ _ => rfl) (hP z8 Z8 h8 hx8 hG8 (fr_tr (M := [(12, 2), (14, (-1)), (16, (-1)), (17, (-1)), (18, (-1)), (19, (-1)), (38, 2), (38, 3), (38, 4), (42, (-1))]) fr_rf (hf8) (M1 := []) rfl rfl) (by omega))
          · skip
            refine mx_J.step (sn_139 43) (fun _ _ => rfl) ?_
            refine mx_J.step (sn_139 44) (fun _ _ => rfl) ?_
            refine mx_J.step (sn_139 45) (fun _ _ => rfl) ?_
            refine JcI (z := 3000) (show mx_Sn _ _ 47 (mx_const (.int 3000) 50) from sn_139 47) rfl ?_
            refine Jisub (show mx_Sn _ _ 50 (mx_isub 51) from sn_139 50) ?_
            refine JcI (z := 100) (show mx_Sn _ _ 51 (mx_const (.int 100) 53) from sn_139 51) rfl ?_
            refine Jidiv (show mx_Sn _ _ 53 (mx_idiv 54) from sn_139 53) (by omega) (by omega) ?_
            refine mx_J.step (sn_139 54) (fun _ _ => rfl) ?_
            refine JcI (z := 100) (show mx_Sn _ _ 56 (mx_const (.int 100) 58) from sn_139 56) rfl ?_
            refine Jirem (show mx_Sn _ _ 58 (mx_irem 59) from sn_139 58) (by omega) (by omega) ?_
            obtain ⟨z9, Z9, h9, hc9, hx9, hG9, hf9, b9⟩ := ct_142_1_38 (d := d + 2) (l := l) (D := D) (b0 := b0) (ad := ad) (Hb := Hb) (tau := tau) hx hG (show (-2147483648) ≤ (x0 - 3000) / 100 ∧ (x0 - 3000) / 100 ≤ 2147483647 by omega) (show (-2147483648) ≤ x0 % 100 ∧ x0 % 100 ≤ 2147483647 by omega)
            refine Jcv hx (show mx_Sn _ _ 59 (mx_callv 142 4 11 62) from sn_139 59) a1 s1 hc9 rfl rfl rfl ?_
            exact mx_J.ret (sn_139 62) (fun _ _ => rfl) (hP z9 Z9 h9 hx9 hG9 (fr_tr (M := [(12, 2), (14, (-1)), (16, (-1)), (17, (-1)), (18, (-1)), (19, (-1)), (38, 2), (38, 3), (38, 4), (42, (-1))]) fr_rf (hf9) (M1 := []) rfl rfl) (by omega))
        · skip
          refine mx_J.step (sn_139 27) (fun _ _ => rfl) ?_
          refine mx_J.step (sn_139 28) (fun _ _ => rfl) ?_
          refine mx_J.step (sn_139 29) (fun _ _ => rfl) ?_
          obtain ⟨z10, Z10, h10, hc10, hx10, hG10, hf10, b10⟩ := ct_140_1_38 (d := d + 0) (l := l) (D := D) (b0 := b0) (ad := ad) (Hb := Hb) (tau := tau) hx hG (show (-2147483648) ≤ x0 ∧ x0 ≤ 2147483647 by omega)
          refine Jcv hx (show mx_Sn _ _ 31 (mx_callv 140 3 11 34) from sn_139 31) a1 s1 hc10 rfl rfl rfl ?_
          exact mx_J.ret (sn_139 34) (fun _ _ => rfl) (hP z10 Z10 h10 hx10 hG10 (fr_tr (M := [(12, 2), (14, (-1)), (16, (-1)), (17, (-1)), (18, (-1)), (19, (-1)), (38, 2), (38, 3), (38, 4), (42, (-1))]) fr_rf (hf10) (M1 := []) rfl rfl) (by omega))
      · skip
        exact c14 
theorem ct_139_1_38 {l : Launch} {D : va_G} {b0 : Nat} {ad : Nat → Nat} {Hb : Heap} {tau : Nat → Int64} {d n s : Nat} {S : Nat → xS} {Z : xZ} {h : mx_H} (hx : XH n s S Z h) (hG : GI n S Z)  {x0 : Int} (p0 : (-9223372036854775808) ≤ x0 ∧ x0 ≤ 9223372036854775807) : ∃ (z : Int) (Z' : xZ) (h' : mx_H), mx_Ca (tB l D b0 ad Hb tau) (d + 6) 139 [.ref 1, .ref 38, xL x0] h (some (xI z), h') ∧ XH n s S Z' h' ∧ GI n S Z' ∧ fr' [(12, 2), (14, (-1)), (16, (-1)), (17, (-1)), (18, (-1)), (19, (-1)), (38, 2), (38, 3), (38, 4), (42, (-1))] Z Z' ∧ (0 ≤ z ∧ z ≤ 2) := by
  obtain ⟨r, hca, z, Z', h', e, q⟩ := Jmt (B := tB l D b0 ad Hb tau) (M := mt_139) (mi := 139) (as := [.ref 1, .ref 38, xL x0]) (d := d + 5) (ls := [some (.ref 1), some (.ref 38), some (xL x0), none, none]) rfl rfl rfl rfl rfl rfl (cw_139_1_38 (l := l) (D := D) (b0 := b0) (ad := ad) (Hb := Hb) (tau := tau) (d := d) (Post := fun r => ∃ (z : Int) (Z' : xZ) (h' : mx_H), r = (some (xI z), h') ∧ XH n s S Z' h' ∧ GI n S Z' ∧ fr' [(12, 2), (14, (-1)), (16, (-1)), (17, (-1)), (18, (-1)), (19, (-1)), (38, 2), (38, 3), (38, 4), (42, (-1))] Z Z' ∧ (0 ≤ z ∧ z ≤ 2)) hx hG p0 (fun z Z' h' q1 q2 q3 q4 => ⟨z, Z', h', rfl, q1, q2, q3, q4⟩))
  subst e; exact ⟨z, Z', h', hca, q⟩
set_option maxRecDepth 100000 in
theorem cw_138_1_44 {l : Launch} {D : va_G} {b0 : Nat} {ad : Nat → Nat} {Hb : Heap} {tau : Nat → Int64} {d n s : Nat} {S : Nat → xS} {Z : xZ} {h : mx_H} {Post : mx_R → Prop} (hx : XH n s S Z h) (hG : GI n S Z)   (hP : ∀ (z : Int) (Z' : xZ) (h' : mx_H), XH n s S Z' h' → GI n S Z' → fr' [(12, 2), (14, (-1)), (16, (-1)), (17, (-1)), (18, (-1)), (19, (-1)), (38, 2), (38, 3), (38, 4), (42, (-1))] Z Z' → 0 ≤ z ∧ z ≤ 40 → Post (some (xI z), h')) : mx_J (tB l D b0 ad Hb tau) mt_138 (d + 6) 0 [some (.ref 1), some (.ref 44), none] [] h Post := by
    have a1 : 1 < n := lt83 (GI_n hG) rfl
    have s1 : S 1 = .inl (11, [2, 0, 0, 0, 2, 2, 2, 2, 2, 2, 2, 2, 2, 2, 2, 2, 2]) := GI_s hG 1 rfl
    have a44 : 44 < n := lt83 (GI_n hG) rfl
    have s44 : S 44 = .inl (10, [2, 0, 0, 0]) := GI_s hG 44 rfl
    refine JcI (z := 0) (show mx_Sn _ _ 0 (mx_const (.int 0) 1) from sn_138 0) rfl ?_
    refine mx_J.step (ls2 := [some (.ref 1), some (.ref 44), some (xI 0)]) (sn_138 1) (fun _ _ => rfl) ?_
    have c2 : ∀ (m1 : Nat) (w1_2 : Int) (Z2 : xZ) (h2 : mx_H), 40 - w1_2 < (m1 : Int) → 0 ≤ w1_2 ∧ w1_2 ≤ 40 → XH n s S Z2 h2 → GI n S Z2 → fr' [(12, 2), (14, (-1)), (16, (-1)), (17, (-1)), (18, (-1)), (19, (-1)), (38, 2), (38, 3), (38, 4), (42, (-1))] Z Z2 → mx_J (tB l D b0 ad Hb tau) mt_138 (d + 6) 2 [some (.ref 1), some (.ref 44), some (xI w1_2)] [] h2 Post := by
      intro m1
      induction m1 with
      | zero => intro w1_2 Z2 h2 q1 f1_0 hx2 hG2 hf2; exact absurd q1 (by omega)
      | succ m1 ih1 =>
        intro w1_2 Z2 h2 q1 f1_0 hx2 hG2 hf2
        refine mx_J.step (sn_138 2) (fun _ _ => rfl) ?_
        refine mx_J.step (sn_138 3) (fun _ _ => rfl) ?_
        have b4 : 0 ≤ Z 44 2 ∧ Z 44 2 ≤ 40 := hG.pr 44 2
        refine JgetI (g := 2) (z := Z 44 2) hx2 (show mx_Sn _ _ 4 (mx_getf 10 2 7) from sn_138 4) a44 s44 rfl rfl (hf2 44 2 rfl) ?_
        refine Jicmp_ge (show mx_Sn _ _ 7 (mx_icmp_ge 34 10) from sn_138 7) (by omega) (by omega) (fun q5 => ?_) (fun q5 => ?_)
        · skip
          refine mx_J.step (sn_138 34) (fun _ _ => rfl) ?_
          refine JgetI (g := 2) (z := Z 44 2) hx2 (show mx_Sn _ _ 35 (mx_getf 10 2 38) from sn_138 35) a44 s44 rfl rfl (hf2 44 2 rfl) ?_
          exact mx_J.ret (sn_138 38) (fun _ _ => rfl) (hP (Z 44 2) Z2 h2 hx2 hG2 (fr_tr (M := [(12, 2), (14, (-1)), (16, (-1)), (17, (-1)), (18, (-1)), (19, (-1)), (38, 2), (38, 3), (38, 4), (42, (-1))]) fr_rf (hf2) (M1 := []) rfl rfl) (by omega))
        · skip
          refine mx_J.step (sn_138 10) (fun _ _ => rfl) ?_
          refine mx_J.step (sn_138 11) (fun _ _ => rfl) ?_
          refine JgetR (g := 13) (b := 38) hx2 (show mx_Sn _ _ 12 (mx_getf 11 13 15) from sn_138 12) a1 s1 rfl rfl (hG2.prr 1 13 rfl) ?_
          refine mx_J.step (sn_138 15) (fun _ _ => rfl) ?_
          refine mx_J.step (sn_138 16) (fun _ _ => rfl) ?_
          have eq9 : Z2 45 w1_2 = Z 45 w1_2 := (hf2 45 w1_2 rfl)
          have b10 : (-9223372036854775808) ≤ Z 45 w1_2 ∧ Z 45 w1_2 ≤ 9223372036854775807 := hG.pr 45 w1_2
          obtain ⟨z8, hc8, b8⟩ := ct_85_44 (d := d + 5) (l := l) (D := D) (b0 := b0) (ad := ad) (Hb := Hb) (tau := tau) hx2 hG2 (show (-2147483648) ≤ w1_2 ∧ w1_2 ≤ 2147483647 by omega)
          try rw [eq9] at b8
          refine Jcv hx2 (show mx_Sn _ _ 17 (mx_callv 85 2 10 20) from sn_138 17) a44 s44 hc8 rfl rfl rfl ?_
          obtain ⟨z11, Z11, h11, hc11, hx11, hG11, hf11, b11⟩ := ct_139_1_38 (d := d + 0) (l := l) (D := D) (b0 := b0) (ad := ad) (Hb := Hb) (tau := tau) hx2 hG2 (show (-9223372036854775808) ≤ z8 ∧ z8 ≤ 9223372036854775807 by omega)
          refine Jcv hx2 (show mx_Sn _ _ 20 (mx_callv 139 3 11 23) from sn_138 20) a1 s1 hc11 rfl rfl rfl ?_
          refine Jif_eq (show mx_Sn _ _ 23 (mx_if_eq 28 26) from sn_138 23) (by omega) (fun q12 => ?_) (fun q12 => ?_)
          · skip
            refine Jiinc (z := w1_2) (cz := 1) (ls2 := [some (.ref 1), some (.ref 44), some (xI (w1_2 + 1))]) (show mx_Sn _ _ 28 (mx_iinc 2 1 31) from sn_138 28) rfl rfl rfl rfl ?_
            refine mx_J.step (sn_138 31) (fun _ _ => rfl) ?_
            exact ih1 (w1_2 + 1) Z11 h11 (by omega) (by omega) hx11 hG11 (fr_tr (M := [(12, 2), (14, (-1)), (16, (-1)), (17, (-1)), (18, (-1)), (19, (-1)), (38, 2), (38, 3), (38, 4), (42, (-1))]) (fr_tr (M := [(12, 2), (14, (-1)), (16, (-1)), (17, (-1)), (18, (-1)), (19, (-1)), (38, 2), (38, 3), (38, 4), (42, (-1))]) fr_rf (hf2) (M1 := []) rfl rfl) (hf11) rfl rfl)
          · skip
            refine mx_J.step (sn_138 26) (fun _ _ => rfl) ?_
            exact mx_J.ret (sn_138 27) (fun _ _ => rfl) (hP w1_2 Z11 h11 hx11 hG11 (fr_tr (M := [(12, 2), (14, (-1)), (16, (-1)), (17, (-1)), (18, (-1)), (19, (-1)), (38, 2), (38, 3), (38, 4), (42, (-1))]) (fr_tr (M := [(12, 2), (14, (-1)), (16, (-1)), (17, (-1)), (18, (-1)), (19, (-1)), (38, 2), (38, 3), (38, 4), (42, (-1))]) fr_rf (hf2) (M1 := []) rfl rfl) (hf11) rfl rfl) (by omega))
    exact c2 (Int.toNat (40 - 0) + 1) 0 Z h (by omega) (by omega) hx hG fr_rf
theorem ct_138_1_44 {l : Launch} {D : va_G} {b0 : Nat} {ad : Nat → Nat} {Hb : Heap} {tau : Nat → Int64} {d n s : Nat} {S : Nat → xS} {Z : xZ} {h : mx_H} (hx : XH n s S Z h) (hG : GI n S Z)   : ∃ (z : Int) (Z' : xZ) (h' : mx_H), mx_Ca (tB l D b0 ad Hb tau) (d + 7) 138 [.ref 1, .ref 44] h (some (xI z), h') ∧ XH n s S Z' h' ∧ GI n S Z' ∧ fr' [(12, 2), (14, (-1)), (16, (-1)), (17, (-1)), (18, (-1)), (19, (-1)), (38, 2), (38, 3), (38, 4), (42, (-1))] Z Z' ∧ (0 ≤ z ∧ z ≤ 40) := by
  obtain ⟨r, hca, z, Z', h', e, q⟩ := Jmt (B := tB l D b0 ad Hb tau) (M := mt_138) (mi := 138) (as := [.ref 1, .ref 44]) (d := d + 6) (ls := [some (.ref 1), some (.ref 44), none]) rfl rfl rfl rfl rfl rfl (cw_138_1_44 (l := l) (D := D) (b0 := b0) (ad := ad) (Hb := Hb) (tau := tau) (d := d) (Post := fun r => ∃ (z : Int) (Z' : xZ) (h' : mx_H), r = (some (xI z), h') ∧ XH n s S Z' h' ∧ GI n S Z' ∧ fr' [(12, 2), (14, (-1)), (16, (-1)), (17, (-1)), (18, (-1)), (19, (-1)), (38, 2), (38, 3), (38, 4), (42, (-1))] Z Z' ∧ (0 ≤ z ∧ z ≤ 40)) hx hG  (fun z Z' h' q1 q2 q3 q4 => ⟨z, Z', h', rfl, q1, q2, q3, q4⟩))
  subst e; exact ⟨z, Z', h', hca, q⟩
set_option maxRecDepth 100000 in
theorem cw_138_1_46 {l : Launch} {D : va_G} {b0 : Nat} {ad : Nat → Nat} {Hb : Heap} {tau : Nat → Int64} {d n s : Nat} {S : Nat → xS} {Z : xZ} {h : mx_H} {Post : mx_R → Prop} (hx : XH n s S Z h) (hG : GI n S Z)   (hP : ∀ (z : Int) (Z' : xZ) (h' : mx_H), XH n s S Z' h' → GI n S Z' → fr' [(12, 2), (14, (-1)), (16, (-1)), (17, (-1)), (18, (-1)), (19, (-1)), (38, 2), (38, 3), (38, 4), (42, (-1))] Z Z' → 0 ≤ z ∧ z ≤ 40 → Post (some (xI z), h')) : mx_J (tB l D b0 ad Hb tau) mt_138 (d + 6) 0 [some (.ref 1), some (.ref 46), none] [] h Post := by
    have a1 : 1 < n := lt83 (GI_n hG) rfl
    have s1 : S 1 = .inl (11, [2, 0, 0, 0, 2, 2, 2, 2, 2, 2, 2, 2, 2, 2, 2, 2, 2]) := GI_s hG 1 rfl
    have a46 : 46 < n := lt83 (GI_n hG) rfl
    have s46 : S 46 = .inl (10, [2, 0, 0, 0]) := GI_s hG 46 rfl
    refine JcI (z := 0) (show mx_Sn _ _ 0 (mx_const (.int 0) 1) from sn_138 0) rfl ?_
    refine mx_J.step (ls2 := [some (.ref 1), some (.ref 46), some (xI 0)]) (sn_138 1) (fun _ _ => rfl) ?_
    have c2 : ∀ (m1 : Nat) (w1_2 : Int) (Z2 : xZ) (h2 : mx_H), 40 - w1_2 < (m1 : Int) → 0 ≤ w1_2 ∧ w1_2 ≤ 40 → XH n s S Z2 h2 → GI n S Z2 → fr' [(12, 2), (14, (-1)), (16, (-1)), (17, (-1)), (18, (-1)), (19, (-1)), (38, 2), (38, 3), (38, 4), (42, (-1))] Z Z2 → mx_J (tB l D b0 ad Hb tau) mt_138 (d + 6) 2 [some (.ref 1), some (.ref 46), some (xI w1_2)] [] h2 Post := by
      intro m1
      induction m1 with
      | zero => intro w1_2 Z2 h2 q1 f1_0 hx2 hG2 hf2; exact absurd q1 (by omega)
      | succ m1 ih1 =>
        intro w1_2 Z2 h2 q1 f1_0 hx2 hG2 hf2
        refine mx_J.step (sn_138 2) (fun _ _ => rfl) ?_
        refine mx_J.step (sn_138 3) (fun _ _ => rfl) ?_
        have b4 : 0 ≤ Z 46 2 ∧ Z 46 2 ≤ 40 := hG.pr 46 2
        refine JgetI (g := 2) (z := Z 46 2) hx2 (show mx_Sn _ _ 4 (mx_getf 10 2 7) from sn_138 4) a46 s46 rfl rfl (hf2 46 2 rfl) ?_
        refine Jicmp_ge (show mx_Sn _ _ 7 (mx_icmp_ge 34 10) from sn_138 7) (by omega) (by omega) (fun q5 => ?_) (fun q5 => ?_)
        · skip
          refine mx_J.step (sn_138 34) (fun _ _ => rfl) ?_
          refine JgetI (g := 2) (z := Z 46 2) hx2 (show mx_Sn _ _ 35 (mx_getf 10 2 38) from sn_138 35) a46 s46 rfl rfl (hf2 46 2 rfl) ?_
          exact mx_J.ret (sn_138 38) (fun _ _ => rfl) (hP (Z 46 2) Z2 h2 hx2 hG2 (fr_tr (M := [(12, 2), (14, (-1)), (16, (-1)), (17, (-1)), (18, (-1)), (19, (-1)), (38, 2), (38, 3), (38, 4), (42, (-1))]) fr_rf (hf2) (M1 := []) rfl rfl) (by omega))
        · skip
          refine mx_J.step (sn_138 10) (fun _ _ => rfl) ?_
          refine mx_J.step (sn_138 11) (fun _ _ => rfl) ?_
          refine JgetR (g := 13) (b := 38) hx2 (show mx_Sn _ _ 12 (mx_getf 11 13 15) from sn_138 12) a1 s1 rfl rfl (hG2.prr 1 13 rfl) ?_
          refine mx_J.step (sn_138 15) (fun _ _ => rfl) ?_
          refine mx_J.step (sn_138 16) (fun _ _ => rfl) ?_
          have eq9 : Z2 47 w1_2 = Z 47 w1_2 := (hf2 47 w1_2 rfl)
          have b10 : (-9223372036854775808) ≤ Z 47 w1_2 ∧ Z 47 w1_2 ≤ 9223372036854775807 := hG.pr 47 w1_2
          obtain ⟨z8, hc8, b8⟩ := ct_85_46 (d := d + 5) (l := l) (D := D) (b0 := b0) (ad := ad) (Hb := Hb) (tau := tau) hx2 hG2 (show (-2147483648) ≤ w1_2 ∧ w1_2 ≤ 2147483647 by omega)
          try rw [eq9] at b8
          refine Jcv hx2 (show mx_Sn _ _ 17 (mx_callv 85 2 10 20) from sn_138 17) a46 s46 hc8 rfl rfl rfl ?_
          obtain ⟨z11, Z11, h11, hc11, hx11, hG11, hf11, b11⟩ := ct_139_1_38 (d := d + 0) (l := l) (D := D) (b0 := b0) (ad := ad) (Hb := Hb) (tau := tau) hx2 hG2 (show (-9223372036854775808) ≤ z8 ∧ z8 ≤ 9223372036854775807 by omega)
          refine Jcv hx2 (show mx_Sn _ _ 20 (mx_callv 139 3 11 23) from sn_138 20) a1 s1 hc11 rfl rfl rfl ?_
          refine Jif_eq (show mx_Sn _ _ 23 (mx_if_eq 28 26) from sn_138 23) (by omega) (fun q12 => ?_) (fun q12 => ?_)
          · skip
            refine Jiinc (z := w1_2) (cz := 1) (ls2 := [some (.ref 1), some (.ref 46), some (xI (w1_2 + 1))]) (show mx_Sn _ _ 28 (mx_iinc 2 1 31) from sn_138 28) rfl rfl rfl rfl ?_
            refine mx_J.step (sn_138 31) (fun _ _ => rfl) ?_
            exact ih1 (w1_2 + 1) Z11 h11 (by omega) (by omega) hx11 hG11 (fr_tr (M := [(12, 2), (14, (-1)), (16, (-1)), (17, (-1)), (18, (-1)), (19, (-1)), (38, 2), (38, 3), (38, 4), (42, (-1))]) (fr_tr (M := [(12, 2), (14, (-1)), (16, (-1)), (17, (-1)), (18, (-1)), (19, (-1)), (38, 2), (38, 3), (38, 4), (42, (-1))]) fr_rf (hf2) (M1 := []) rfl rfl) (hf11) rfl rfl)
          · skip
            refine mx_J.step (sn_138 26) (fun _ _ => rfl) ?_
            exact mx_J.ret (sn_138 27) (fun _ _ => rfl) (hP w1_2 Z11 h11 hx11 hG11 (fr_tr (M := [(12, 2), (14, (-1)), (16, (-1)), (17, (-1)), (18, (-1)), (19, (-1)), (38, 2), (38, 3), (38, 4), (42, (-1))]) (fr_tr (M := [(12, 2), (14, (-1)), (16, (-1)), (17, (-1)), (18, (-1)), (19, (-1)), (38, 2), (38, 3), (38, 4), (42, (-1))]) fr_rf (hf2) (M1 := []) rfl rfl) (hf11) rfl rfl) (by omega))
    exact c2 (Int.toNat (40 - 0) + 1) 0 Z h (by omega) (by omega) hx hG fr_rf
theorem ct_138_1_46 {l : Launch} {D : va_G} {b0 : Nat} {ad : Nat → Nat} {Hb : Heap} {tau : Nat → Int64} {d n s : Nat} {S : Nat → xS} {Z : xZ} {h : mx_H} (hx : XH n s S Z h) (hG : GI n S Z)   : ∃ (z : Int) (Z' : xZ) (h' : mx_H), mx_Ca (tB l D b0 ad Hb tau) (d + 7) 138 [.ref 1, .ref 46] h (some (xI z), h') ∧ XH n s S Z' h' ∧ GI n S Z' ∧ fr' [(12, 2), (14, (-1)), (16, (-1)), (17, (-1)), (18, (-1)), (19, (-1)), (38, 2), (38, 3), (38, 4), (42, (-1))] Z Z' ∧ (0 ≤ z ∧ z ≤ 40) := by
  obtain ⟨r, hca, z, Z', h', e, q⟩ := Jmt (B := tB l D b0 ad Hb tau) (M := mt_138) (mi := 138) (as := [.ref 1, .ref 46]) (d := d + 6) (ls := [some (.ref 1), some (.ref 46), none]) rfl rfl rfl rfl rfl rfl (cw_138_1_46 (l := l) (D := D) (b0 := b0) (ad := ad) (Hb := Hb) (tau := tau) (d := d) (Post := fun r => ∃ (z : Int) (Z' : xZ) (h' : mx_H), r = (some (xI z), h') ∧ XH n s S Z' h' ∧ GI n S Z' ∧ fr' [(12, 2), (14, (-1)), (16, (-1)), (17, (-1)), (18, (-1)), (19, (-1)), (38, 2), (38, 3), (38, 4), (42, (-1))] Z Z' ∧ (0 ≤ z ∧ z ≤ 40)) hx hG  (fun z Z' h' q1 q2 q3 q4 => ⟨z, Z', h', rfl, q1, q2, q3, q4⟩))
  subst e; exact ⟨z, Z', h', hca, q⟩
set_option maxRecDepth 100000 in
theorem cw_138_1_48 {l : Launch} {D : va_G} {b0 : Nat} {ad : Nat → Nat} {Hb : Heap} {tau : Nat → Int64} {d n s : Nat} {S : Nat → xS} {Z : xZ} {h : mx_H} {Post : mx_R → Prop} (hx : XH n s S Z h) (hG : GI n S Z)   (hP : ∀ (z : Int) (Z' : xZ) (h' : mx_H), XH n s S Z' h' → GI n S Z' → fr' [(12, 2), (14, (-1)), (16, (-1)), (17, (-1)), (18, (-1)), (19, (-1)), (38, 2), (38, 3), (38, 4), (42, (-1))] Z Z' → 0 ≤ z ∧ z ≤ 40 → Post (some (xI z), h')) : mx_J (tB l D b0 ad Hb tau) mt_138 (d + 6) 0 [some (.ref 1), some (.ref 48), none] [] h Post := by
    have a1 : 1 < n := lt83 (GI_n hG) rfl
    have s1 : S 1 = .inl (11, [2, 0, 0, 0, 2, 2, 2, 2, 2, 2, 2, 2, 2, 2, 2, 2, 2]) := GI_s hG 1 rfl
    have a48 : 48 < n := lt83 (GI_n hG) rfl
    have s48 : S 48 = .inl (10, [2, 0, 0, 0]) := GI_s hG 48 rfl
    refine JcI (z := 0) (show mx_Sn _ _ 0 (mx_const (.int 0) 1) from sn_138 0) rfl ?_
    refine mx_J.step (ls2 := [some (.ref 1), some (.ref 48), some (xI 0)]) (sn_138 1) (fun _ _ => rfl) ?_
    have c2 : ∀ (m1 : Nat) (w1_2 : Int) (Z2 : xZ) (h2 : mx_H), 40 - w1_2 < (m1 : Int) → 0 ≤ w1_2 ∧ w1_2 ≤ 40 → XH n s S Z2 h2 → GI n S Z2 → fr' [(12, 2), (14, (-1)), (16, (-1)), (17, (-1)), (18, (-1)), (19, (-1)), (38, 2), (38, 3), (38, 4), (42, (-1))] Z Z2 → mx_J (tB l D b0 ad Hb tau) mt_138 (d + 6) 2 [some (.ref 1), some (.ref 48), some (xI w1_2)] [] h2 Post := by
      intro m1
      induction m1 with
      | zero => intro w1_2 Z2 h2 q1 f1_0 hx2 hG2 hf2; exact absurd q1 (by omega)
      | succ m1 ih1 =>
        intro w1_2 Z2 h2 q1 f1_0 hx2 hG2 hf2
        refine mx_J.step (sn_138 2) (fun _ _ => rfl) ?_
        refine mx_J.step (sn_138 3) (fun _ _ => rfl) ?_
        have b4 : 0 ≤ Z 48 2 ∧ Z 48 2 ≤ 40 := hG.pr 48 2
        refine JgetI (g := 2) (z := Z 48 2) hx2 (show mx_Sn _ _ 4 (mx_getf 10 2 7) from sn_138 4) a48 s48 rfl rfl (hf2 48 2 rfl) ?_
        refine Jicmp_ge (show mx_Sn _ _ 7 (mx_icmp_ge 34 10) from sn_138 7) (by omega) (by omega) (fun q5 => ?_) (fun q5 => ?_)
        · skip
          refine mx_J.step (sn_138 34) (fun _ _ => rfl) ?_
          refine JgetI (g := 2) (z := Z 48 2) hx2 (show mx_Sn _ _ 35 (mx_getf 10 2 38) from sn_138 35) a48 s48 rfl rfl (hf2 48 2 rfl) ?_
          exact mx_J.ret (sn_138 38) (fun _ _ => rfl) (hP (Z 48 2) Z2 h2 hx2 hG2 (fr_tr (M := [(12, 2), (14, (-1)), (16, (-1)), (17, (-1)), (18, (-1)), (19, (-1)), (38, 2), (38, 3), (38, 4), (42, (-1))]) fr_rf (hf2) (M1 := []) rfl rfl) (by omega))
        · skip
          refine mx_J.step (sn_138 10) (fun _ _ => rfl) ?_
          refine mx_J.step (sn_138 11) (fun _ _ => rfl) ?_
          refine JgetR (g := 13) (b := 38) hx2 (show mx_Sn _ _ 12 (mx_getf 11 13 15) from sn_138 12) a1 s1 rfl rfl (hG2.prr 1 13 rfl) ?_
          refine mx_J.step (sn_138 15) (fun _ _ => rfl) ?_
          refine mx_J.step (sn_138 16) (fun _ _ => rfl) ?_
          have eq9 : Z2 49 w1_2 = Z 49 w1_2 := (hf2 49 w1_2 rfl)
          have b10 : (-9223372036854775808) ≤ Z 49 w1_2 ∧ Z 49 w1_2 ≤ 9223372036854775807 := hG.pr 49 w1_2
          obtain ⟨z8, hc8, b8⟩ := ct_85_48 (d := d + 5) (l := l) (D := D) (b0 := b0) (ad := ad) (Hb := Hb) (tau := tau) hx2 hG2 (show (-2147483648) ≤ w1_2 ∧ w1_2 ≤ 2147483647 by omega)
          try rw [eq9] at b8
          refine Jcv hx2 (show mx_Sn _ _ 17 (mx_callv 85 2 10 20) from sn_138 17) a48 s48 hc8 rfl rfl rfl ?_
          obtain ⟨z11, Z11, h11, hc11, hx11, hG11, hf11, b11⟩ := ct_139_1_38 (d := d + 0) (l := l) (D := D) (b0 := b0) (ad := ad) (Hb := Hb) (tau := tau) hx2 hG2 (show (-9223372036854775808) ≤ z8 ∧ z8 ≤ 9223372036854775807 by omega)
          refine Jcv hx2 (show mx_Sn _ _ 20 (mx_callv 139 3 11 23) from sn_138 20) a1 s1 hc11 rfl rfl rfl ?_
          refine Jif_eq (show mx_Sn _ _ 23 (mx_if_eq 28 26) from sn_138 23) (by omega) (fun q12 => ?_) (fun q12 => ?_)
          · skip
            refine Jiinc (z := w1_2) (cz := 1) (ls2 := [some (.ref 1), some (.ref 48), some (xI (w1_2 + 1))]) (show mx_Sn _ _ 28 (mx_iinc 2 1 31) from sn_138 28) rfl rfl rfl rfl ?_
            refine mx_J.step (sn_138 31) (fun _ _ => rfl) ?_
            exact ih1 (w1_2 + 1) Z11 h11 (by omega) (by omega) hx11 hG11 (fr_tr (M := [(12, 2), (14, (-1)), (16, (-1)), (17, (-1)), (18, (-1)), (19, (-1)), (38, 2), (38, 3), (38, 4), (42, (-1))]) (fr_tr (M := [(12, 2), (14, (-1)), (16, (-1)), (17, (-1)), (18, (-1)), (19, (-1)), (38, 2), (38, 3), (38, 4), (42, (-1))]) fr_rf (hf2) (M1 := []) rfl rfl) (hf11) rfl rfl)
          · skip
            refine mx_J.step (sn_138 26) (fun _ _ => rfl) ?_
            exact mx_J.ret (sn_138 27) (fun _ _ => rfl) (hP w1_2 Z11 h11 hx11 hG11 (fr_tr (M := [(12, 2), (14, (-1)), (16, (-1)), (17, (-1)), (18, (-1)), (19, (-1)), (38, 2), (38, 3), (38, 4), (42, (-1))]) (fr_tr (M := [(12, 2), (14, (-1)), (16, (-1)), (17, (-1)), (18, (-1)), (19, (-1)), (38, 2), (38, 3), (38, 4), (42, (-1))]) fr_rf (hf2) (M1 := []) rfl rfl) (hf11) rfl rfl) (by omega))
    exact c2 (Int.toNat (40 - 0) + 1) 0 Z h (by omega) (by omega) hx hG fr_rf
theorem ct_138_1_48 {l : Launch} {D : va_G} {b0 : Nat} {ad : Nat → Nat} {Hb : Heap} {tau : Nat → Int64} {d n s : Nat} {S : Nat → xS} {Z : xZ} {h : mx_H} (hx : XH n s S Z h) (hG : GI n S Z)   : ∃ (z : Int) (Z' : xZ) (h' : mx_H), mx_Ca (tB l D b0 ad Hb tau) (d + 7) 138 [.ref 1, .ref 48] h (some (xI z), h') ∧ XH n s S Z' h' ∧ GI n S Z' ∧ fr' [(12, 2), (14, (-1)), (16, (-1)), (17, (-1)), (18, (-1)), (19, (-1)), (38, 2), (38, 3), (38, 4), (42, (-1))] Z Z' ∧ (0 ≤ z ∧ z ≤ 40) := by
  obtain ⟨r, hca, z, Z', h', e, q⟩ := Jmt (B := tB l D b0 ad Hb tau) (M := mt_138) (mi := 138) (as := [.ref 1, .ref 48]) (d := d + 6) (ls := [some (.ref 1), some (.ref 48), none]) rfl rfl rfl rfl rfl rfl (cw_138_1_48 (l := l) (D := D) (b0 := b0) (ad := ad) (Hb := Hb) (tau := tau) (d := d) (Post := fun r => ∃ (z : Int) (Z' : xZ) (h' : mx_H), r = (some (xI z), h') ∧ XH n s S Z' h' ∧ GI n S Z' ∧ fr' [(12, 2), (14, (-1)), (16, (-1)), (17, (-1)), (18, (-1)), (19, (-1)), (38, 2), (38, 3), (38, 4), (42, (-1))] Z Z' ∧ (0 ≤ z ∧ z ≤ 40)) hx hG  (fun z Z' h' q1 q2 q3 q4 => ⟨z, Z', h', rfl, q1, q2, q3, q4⟩))
  subst e; exact ⟨z, Z', h', hca, q⟩
set_option maxRecDepth 100000 in
theorem cw_138_1_50 {l : Launch} {D : va_G} {b0 : Nat} {ad : Nat → Nat} {Hb : Heap} {tau : Nat → Int64} {d n s : Nat} {S : Nat → xS} {Z : xZ} {h : mx_H} {Post : mx_R → Prop} (hx : XH n s S Z h) (hG : GI n S Z)   (hP : ∀ (z : Int) (Z' : xZ) (h' : mx_H), XH n s S Z' h' → GI n S Z' → fr' [(12, 2), (14, (-1)), (16, (-1)), (17, (-1)), (18, (-1)), (19, (-1)), (38, 2), (38, 3), (38, 4), (42, (-1))] Z Z' → 0 ≤ z ∧ z ≤ 40 → Post (some (xI z), h')) : mx_J (tB l D b0 ad Hb tau) mt_138 (d + 6) 0 [some (.ref 1), some (.ref 50), none] [] h Post := by
    have a1 : 1 < n := lt83 (GI_n hG) rfl
    have s1 : S 1 = .inl (11, [2, 0, 0, 0, 2, 2, 2, 2, 2, 2, 2, 2, 2, 2, 2, 2, 2]) := GI_s hG 1 rfl
    have a50 : 50 < n := lt83 (GI_n hG) rfl
    have s50 : S 50 = .inl (10, [2, 0, 0, 0]) := GI_s hG 50 rfl
    refine JcI (z := 0) (show mx_Sn _ _ 0 (mx_const (.int 0) 1) from sn_138 0) rfl ?_
    refine mx_J.step (ls2 := [some (.ref 1), some (.ref 50), some (xI 0)]) (sn_138 1) (fun _ _ => rfl) ?_
    have c2 : ∀ (m1 : Nat) (w1_2 : Int) (Z2 : xZ) (h2 : mx_H), 40 - w1_2 < (m1 : Int) → 0 ≤ w1_2 ∧ w1_2 ≤ 40 → XH n s S Z2 h2 → GI n S Z2 → fr' [(12, 2), (14, (-1)), (16, (-1)), (17, (-1)), (18, (-1)), (19, (-1)), (38, 2), (38, 3), (38, 4), (42, (-1))] Z Z2 → mx_J (tB l D b0 ad Hb tau) mt_138 (d + 6) 2 [some (.ref 1), some (.ref 50), some (xI w1_2)] [] h2 Post := by
      intro m1
      induction m1 with
      | zero => intro w1_2 Z2 h2 q1 f1_0 hx2 hG2 hf2; exact absurd q1 (by omega)
      | succ m1 ih1 =>
        intro w1_2 Z2 h2 q1 f1_0 hx2 hG2 hf2
        refine mx_J.step (sn_138 2) (fun _ _ => rfl) ?_
        refine mx_J.step (sn_138 3) (fun _ _ => rfl) ?_
        have b4 : 0 ≤ Z 50 2 ∧ Z 50 2 ≤ 40 := hG.pr 50 2
        refine JgetI (g := 2) (z := Z 50 2) hx2 (show mx_Sn _ _ 4 (mx_getf 10 2 7) from sn_138 4) a50 s50 rfl rfl (hf2 50 2 rfl) ?_
        refine Jicmp_ge (show mx_Sn _ _ 7 (mx_icmp_ge 34 10) from sn_138 7) (by omega) (by omega) (fun q5 => ?_) (fun q5 => ?_)
        · skip
          refine mx_J.step (sn_138 34) (fun _ _ => rfl) ?_
          refine JgetI (g := 2) (z := Z 50 2) hx2 (show mx_Sn _ _ 35 (mx_getf 10 2 38) from sn_138 35) a50 s50 rfl rfl (hf2 50 2 rfl) ?_
          exact mx_J.ret (sn_138 38) (fun _ _ => rfl) (hP (Z 50 2) Z2 h2 hx2 hG2 (fr_tr (M := [(12, 2), (14, (-1)), (16, (-1)), (17, (-1)), (18, (-1)), (19, (-1)), (38, 2), (38, 3), (38, 4), (42, (-1))]) fr_rf (hf2) (M1 := []) rfl rfl) (by omega))
        · skip
          refine mx_J.step (sn_138 10) (fun _ _ => rfl) ?_
          refine mx_J.step (sn_138 11) (fun _ _ => rfl) ?_
          refine JgetR (g := 13) (b := 38) hx2 (show mx_Sn _ _ 12 (mx_getf 11 13 15) from sn_138 12) a1 s1 rfl rfl (hG2.prr 1 13 rfl) ?_
          refine mx_J.step (sn_138 15) (fun _ _ => rfl) ?_
          refine mx_J.step (sn_138 16) (fun _ _ => rfl) ?_
          have eq9 : Z2 51 w1_2 = Z 51 w1_2 := (hf2 51 w1_2 rfl)
          have b10 : (-9223372036854775808) ≤ Z 51 w1_2 ∧ Z 51 w1_2 ≤ 9223372036854775807 := hG.pr 51 w1_2
          obtain ⟨z8, hc8, b8⟩ := ct_85_50 (d := d + 5) (l := l) (D := D) (b0 := b0) (ad := ad) (Hb := Hb) (tau := tau) hx2 hG2 (show (-2147483648) ≤ w1_2 ∧ w1_2 ≤ 2147483647 by omega)
          try rw [eq9] at b8
          refine Jcv hx2 (show mx_Sn _ _ 17 (mx_callv 85 2 10 20) from sn_138 17) a50 s50 hc8 rfl rfl rfl ?_
          obtain ⟨z11, Z11, h11, hc11, hx11, hG11, hf11, b11⟩ := ct_139_1_38 (d := d + 0) (l := l) (D := D) (b0 := b0) (ad := ad) (Hb := Hb) (tau := tau) hx2 hG2 (show (-9223372036854775808) ≤ z8 ∧ z8 ≤ 9223372036854775807 by omega)
          refine Jcv hx2 (show mx_Sn _ _ 20 (mx_callv 139 3 11 23) from sn_138 20) a1 s1 hc11 rfl rfl rfl ?_
          refine Jif_eq (show mx_Sn _ _ 23 (mx_if_eq 28 26) from sn_138 23) (by omega) (fun q12 => ?_) (fun q12 => ?_)
          · skip
            refine Jiinc (z := w1_2) (cz := 1) (ls2 := [some (.ref 1), some (.ref 50), some (xI (w1_2 + 1))]) (show mx_Sn _ _ 28 (mx_iinc 2 1 31) from sn_138 28) rfl rfl rfl rfl ?_
            refine mx_J.step (sn_138 31) (fun _ _ => rfl) ?_
            exact ih1 (w1_2 + 1) Z11 h11 (by omega) (by omega) hx11 hG11 (fr_tr (M := [(12, 2), (14, (-1)), (16, (-1)), (17, (-1)), (18, (-1)), (19, (-1)), (38, 2), (38, 3), (38, 4), (42, (-1))]) (fr_tr (M := [(12, 2), (14, (-1)), (16, (-1)), (17, (-1)), (18, (-1)), (19, (-1)), (38, 2), (38, 3), (38, 4), (42, (-1))]) fr_rf (hf2) (M1 := []) rfl rfl) (hf11) rfl rfl)
          · skip
            refine mx_J.step (sn_138 26) (fun _ _ => rfl) ?_
            exact mx_J.ret (sn_138 27) (fun _ _ => rfl) (hP w1_2 Z11 h11 hx11 hG11 (fr_tr (M := [(12, 2), (14, (-1)), (16, (-1)), (17, (-1)), (18, (-1)), (19, (-1)), (38, 2), (38, 3), (38, 4), (42, (-1))]) (fr_tr (M := [(12, 2), (14, (-1)), (16, (-1)), (17, (-1)), (18, (-1)), (19, (-1)), (38, 2), (38, 3), (38, 4), (42, (-1))]) fr_rf (hf2) (M1 := []) rfl rfl) (hf11) rfl rfl) (by omega))
    exact c2 (Int.toNat (40 - 0) + 1) 0 Z h (by omega) (by omega) hx hG fr_rf
theorem ct_138_1_50 {l : Launch} {D : va_G} {b0 : Nat} {ad : Nat → Nat} {Hb : Heap} {tau : Nat → Int64} {d n s : Nat} {S : Nat → xS} {Z : xZ} {h : mx_H} (hx : XH n s S Z h) (hG : GI n S Z)   : ∃ (z : Int) (Z' : xZ) (h' : mx_H), mx_Ca (tB l D b0 ad Hb tau) (d + 7) 138 [.ref 1, .ref 50] h (some (xI z), h') ∧ XH n s S Z' h' ∧ GI n S Z' ∧ fr' [(12, 2), (14, (-1)), (16, (-1)), (17, (-1)), (18, (-1)), (19, (-1)), (38, 2), (38, 3), (38, 4), (42, (-1))] Z Z' ∧ (0 ≤ z ∧ z ≤ 40) := by
  obtain ⟨r, hca, z, Z', h', e, q⟩ := Jmt (B := tB l D b0 ad Hb tau) (M := mt_138) (mi := 138) (as := [.ref 1, .ref 50]) (d := d + 6) (ls := [some (.ref 1), some (.ref 50), none]) rfl rfl rfl rfl rfl rfl (cw_138_1_50 (l := l) (D := D) (b0 := b0) (ad := ad) (Hb := Hb) (tau := tau) (d := d) (Post := fun r => ∃ (z : Int) (Z' : xZ) (h' : mx_H), r = (some (xI z), h') ∧ XH n s S Z' h' ∧ GI n S Z' ∧ fr' [(12, 2), (14, (-1)), (16, (-1)), (17, (-1)), (18, (-1)), (19, (-1)), (38, 2), (38, 3), (38, 4), (42, (-1))] Z Z' ∧ (0 ≤ z ∧ z ≤ 40)) hx hG  (fun z Z' h' q1 q2 q3 q4 => ⟨z, Z', h', rfl, q1, q2, q3, q4⟩))
  subst e; exact ⟨z, Z', h', hca, q⟩
set_option maxRecDepth 100000 in
theorem cw_137_1 {l : Launch} {D : va_G} {b0 : Nat} {ad : Nat → Nat} {Hb : Heap} {tau : Nat → Int64} {d n s : Nat} {S : Nat → xS} {Z : xZ} {h : mx_H} {Post : mx_R → Prop} (hx : XH n s S Z h) (hG : GI n S Z)   (hP : ∀ (Z' : xZ) (h' : mx_H), XH n s S Z' h' → GI n S Z' → fr' [(12, 2), (17, (-1)), (36, 0), (36, 1), (36, 2), (36, 3), (36, 4), (40, 1), (41, (-1))] Z Z' → (Z' 36 1 = Z 38 1) → Post (none, h')) : mx_J (tB l D b0 ad Hb tau) mt_137 (d + 2) 0 [some (.ref 1)] [] h Post := by
    have a1 : 1 < n := lt83 (GI_n hG) rfl
    have s1 : S 1 = .inl (11, [2, 0, 0, 0, 2, 2, 2, 2, 2, 2, 2, 2, 2, 2, 2, 2, 2]) := GI_s hG 1 rfl
    have a12 : 12 < n := lt83 (GI_n hG) rfl
    have s12 : S 12 = .inl (4, [2, 2, 0, 2, 2, 2, 2, 2, 2]) := GI_s hG 12 rfl
    have a36 : 36 < n := lt83 (GI_n hG) rfl
    have s36 : S 36 = .inl (5, [2, 0, 0, 0, 0, 0]) := GI_s hG 36 rfl
    have a40 : 40 < n := lt83 (GI_n hG) rfl
    have s40 : S 40 = .inl (6, [2, 0]) := GI_s hG 40 rfl
    refine mx_J.step (sn_137 0) (fun _ _ => rfl) ?_
    refine JgetR (g := 14) (b := 40) hx (show mx_Sn _ _ 1 (mx_getf 11 14 4) from sn_137 1) a1 s1 rfl rfl (hG.prr 1 14 rfl) ?_
    refine mx_J.step (sn_137 4) (fun _ _ => rfl) ?_
    refine JgetR (g := 12) (b := 36) hx (show mx_Sn _ _ 5 (mx_getf 11 12 8) from sn_137 5) a1 s1 rfl rfl (hG.prr 1 12 rfl) ?_
    obtain ⟨Z3, h3, hc3, hx3, hG3, hf3⟩ := ct_35_40_36 (d := d + 0) (l := l) (D := D) (b0 := b0) (ad := ad) (Hb := Hb) (tau := tau) hx hG 
    refine Jcv0 hx (show mx_Sn _ _ 8 (mx_callv 35 2 6 11) from sn_137 8) a40 s40 hc3 rfl rfl rfl ?_
    refine mx_J.step (sn_137 11) (fun _ _ => rfl) ?_
    refine JgetR (g := 12) (b := 36) hx3 (show mx_Sn _ _ 12 (mx_getf 11 12 15) from sn_137 12) a1 s1 rfl rfl (hG3.prr 1 12 rfl) ?_
    refine mx_J.step (sn_137 15) (fun _ _ => rfl) ?_
    refine JgetR (g := 13) (b := 38) hx3 (show mx_Sn _ _ 16 (mx_getf 11 13 19) from sn_137 16) a1 s1 rfl rfl (hG3.prr 1 13 rfl) ?_
    have eq7 : Z3 38 1 = Z 38 1 := (hf3 38 1 rfl)
    have b8 : 1 ≤ Z 38 1 ∧ Z 38 1 ≤ 18 := hG.pr 38 1
    obtain ⟨Z6, h6, hc6, hx6, hG6, hf6, b6⟩ := ct_33_36_38 (d := d + 1) (l := l) (D := D) (b0 := b0) (ad := ad) (Hb := Hb) (tau := tau) hx3 hG3 
    try rw [eq7] at b6
    have b9 : 1 ≤ Z6 36 1 ∧ Z6 36 1 ≤ 18 := hG6.pr 36 1
    refine Jcv0 hx3 (show mx_Sn _ _ 19 (mx_callv 33 2 5 22) from sn_137 19) a36 s36 hc6 rfl rfl rfl ?_
    refine mx_J.step (sn_137 22) (fun _ _ => rfl) ?_
    refine JgetR (g := 6) (b := 12) hx6 (show mx_Sn _ _ 23 (mx_getf 11 6 26) from sn_137 23) a1 s1 rfl rfl (hG6.prr 1 6 rfl) ?_
    refine mx_J.step (sn_137 26) (fun _ _ => rfl) ?_
    refine JgetR (g := 12) (b := 36) hx6 (show mx_Sn _ _ 27 (mx_getf 11 12 30) from sn_137 27) a1 s1 rfl rfl (hG6.prr 1 12 rfl) ?_
    have b13 : 0 ≤ Z6 36 3 ∧ Z6 36 3 ≤ 9 := hG6.pr 36 3
    refine JgetI (g := 3) (z := Z6 36 3) hx6 (show mx_Sn _ _ 30 (mx_getf 5 3 33) from sn_137 30) a36 s36 rfl rfl rfl ?_
    obtain ⟨Z14, h14, hc14, hx14, hG14, hf14⟩ := ct_25_12 (d := d + 1) (l := l) (D := D) (b0 := b0) (ad := ad) (Hb := Hb) (tau := tau) hx6 hG6 (show 0 ≤ Z6 36 3 ∧ Z6 36 3 ≤ 9 by omega)
    refine Jcv0 hx6 (show mx_Sn _ _ 33 (mx_callv 25 2 4 36) from sn_137 33) a12 s12 hc14 rfl rfl rfl ?_
    have eq15 : Z14 36 1 = Z6 36 1 := (hf14 36 1 rfl)
    have eq16 : Z14 38 1 = Z 38 1 := ((hf14 38 1 rfl).trans ((hf6 38 1 rfl).trans (hf3 38 1 rfl)))
    exact mx_J.ret (sn_137 36) (fun _ _ => rfl) (hP Z14 h14 hx14 hG14 (fr_tr (M := [(12, 2), (17, (-1)), (36, 0), (36, 1), (36, 2), (36, 3), (36, 4), (40, 1), (41, (-1))]) (fr_tr (M := [(12, 2), (17, (-1)), (36, 0), (36, 1), (36, 2), (36, 3), (36, 4), (40, 1), (41, (-1))]) (fr_tr (M := [(12, 2), (17, (-1)), (36, 0), (36, 1), (36, 2), (36, 3), (36, 4), (40, 1), (41, (-1))]) fr_rf (hf3) (M1 := []) rfl rfl) (hf6) rfl rfl) (hf14) rfl rfl) (by omega))
theorem ct_137_1 {l : Launch} {D : va_G} {b0 : Nat} {ad : Nat → Nat} {Hb : Heap} {tau : Nat → Int64} {d n s : Nat} {S : Nat → xS} {Z : xZ} {h : mx_H} (hx : XH n s S Z h) (hG : GI n S Z)   : ∃ (Z' : xZ) (h' : mx_H), mx_Ca (tB l D b0 ad Hb tau) (d + 3) 137 [.ref 1] h (none, h') ∧ XH n s S Z' h' ∧ GI n S Z' ∧ fr' [(12, 2), (17, (-1)), (36, 0), (36, 1), (36, 2), (36, 3), (36, 4), (40, 1), (41, (-1))] Z Z' ∧ ((Z' 36 1 = Z 38 1)) := by
  obtain ⟨r, hca, Z', h', e, q⟩ := Jmt (B := tB l D b0 ad Hb tau) (M := mt_137) (mi := 137) (as := [.ref 1]) (d := d + 2) (ls := [some (.ref 1)]) rfl rfl rfl rfl rfl rfl (cw_137_1 (l := l) (D := D) (b0 := b0) (ad := ad) (Hb := Hb) (tau := tau) (d := d) (Post := fun r => ∃ (Z' : xZ) (h' : mx_H), r = (none, h') ∧ XH n s S Z' h' ∧ GI n S Z' ∧ fr' [(12, 2), (17, (-1)), (36, 0), (36, 1), (36, 2), (36, 3), (36, 4), (40, 1), (41, (-1))] Z Z' ∧ ((Z' 36 1 = Z 38 1))) hx hG  (fun Z' h' q1 q2 q3 q4 => ⟨Z', h', rfl, q1, q2, q3, q4⟩))
  subst e; exact ⟨Z', h', hca, q⟩
set_option maxRecDepth 100000 in
theorem cw_136_1 {l : Launch} {D : va_G} {b0 : Nat} {ad : Nat → Nat} {Hb : Heap} {tau : Nat → Int64} {d n s : Nat} {S : Nat → xS} {Z : xZ} {h : mx_H} {Post : mx_R → Prop} (hx : XH n s S Z h) (hG : GI n S Z)  {x0 : Int} (p0 : 0 ≤ x0 ∧ x0 ≤ 2) (hP : ∀ (z : Int) (Z' : xZ) (h' : mx_H), XH n s S Z' h' → GI n S Z' → fr' [(12, 2), (17, (-1)), (36, 0), (36, 1), (36, 2), (36, 3), (36, 4), (40, 1), (41, (-1))] Z Z' → (-12) ≤ z ∧ z ≤ 18 ∧ ((x0 = 0 → Z' 36 1 = Z 38 1) ∧ (¬ x0 = 0 → Z' 36 1 = Z 36 1)) → Post (some (xI z), h')) : mx_J (tB l D b0 ad Hb tau) mt_136 (d + 3) 0 [some (.ref 1), some (xI x0)] [] h Post := by
    have a1 : 1 < n := lt83 (GI_n hG) rfl
    have s1 : S 1 = .inl (11, [2, 0, 0, 0, 2, 2, 2, 2, 2, 2, 2, 2, 2, 2, 2, 2, 2]) := GI_s hG 1 rfl
    have a7 : 7 < n := lt83 (GI_n hG) rfl
    have s7 : S 7 = .inl (0, [2, 2, 2, 2, 0, 0]) := GI_s hG 7 rfl
    have a36 : 36 < n := lt83 (GI_n hG) rfl
    have s36 : S 36 = .inl (5, [2, 0, 0, 0, 0, 0]) := GI_s hG 36 rfl
    refine mx_J.step (sn_136 0) (fun _ _ => rfl) ?_
    refine Jif_eq (show mx_Sn _ _ 1 (mx_if_eq 9 4) from sn_136 1) (by omega) (fun q1 => ?_) (fun q1 => ?_)
    · skip
      refine mx_J.step (sn_136 9) (fun _ _ => rfl) ?_
      have b3 : 1 ≤ Z 38 1 ∧ Z 38 1 ≤ 18 := hG.pr 38 1
      obtain ⟨Z2, h2, hc2, hx2, hG2, hf2, b2⟩ := ct_137_1 (d := d + 0) (l := l) (D := D) (b0 := b0) (ad := ad) (Hb := Hb) (tau := tau) hx hG 
      have b4 : 1 ≤ Z2 36 1 ∧ Z2 36 1 ≤ 18 := hG2.pr 36 1
      refine Jcv0 hx (show mx_Sn _ _ 10 (mx_callv 137 1 11 13) from sn_136 10) a1 s1 hc2 rfl rfl rfl ?_
      refine mx_J.step (sn_136 13) (fun _ _ => rfl) ?_
      refine JgetR (g := 5) (b := 7) hx2 (show mx_Sn _ _ 14 (mx_getf 11 5 17) from sn_136 14) a1 s1 rfl rfl (hG2.prr 1 5 rfl) ?_
      refine mx_J.step (sn_136 17) (fun _ _ => rfl) ?_
      refine JgetR (g := 12) (b := 36) hx2 (show mx_Sn _ _ 18 (mx_getf 11 12 21) from sn_136 18) a1 s1 rfl rfl (hG2.prr 1 12 rfl) ?_
      have b8 : 0 ≤ Z2 36 2 ∧ Z2 36 2 ≤ 384 := hG2.pr 36 2
      refine JgetI (g := 2) (z := Z2 36 2) hx2 (show mx_Sn _ _ 21 (mx_getf 5 2 24) from sn_136 21) a36 s36 rfl rfl rfl ?_
      have eq10 : Z2 7 5 = Z 7 5 := (hf2 7 5 rfl)
      have b11 : 0 ≤ Z 7 5 ∧ Z 7 5 ≤ 385 := hG.pr 7 5
      have eq12 : Z2 10 (Z2 36 2) = Z 10 (Z2 36 2) := (hf2 10 (Z2 36 2) rfl)
      have b13 : 0 ≤ Z 10 (Z2 36 2) ∧ Z 10 (Z2 36 2) ≤ 18 := hG.pr 10 (Z2 36 2)
      obtain ⟨z9, hc9, b9⟩ := ct_5_7 (d := d + 2) (l := l) (D := D) (b0 := b0) (ad := ad) (Hb := Hb) (tau := tau) hx2 hG2 (show (-2147483648) ≤ Z2 36 2 ∧ Z2 36 2 ≤ 2147483647 by omega)
      try rw [eq10] at b9
      try rw [eq12] at b9
      refine Jcv hx2 (show mx_Sn _ _ 24 (mx_callv 5 2 0 27) from sn_136 24) a7 s7 hc9 rfl rfl rfl ?_
      have eq14 : Z2 38 1 = Z 38 1 := (hf2 38 1 rfl)
      exact mx_J.ret (sn_136 27) (fun _ _ => rfl) (hP z9 Z2 h2 hx2 hG2 (fr_tr (M := [(12, 2), (17, (-1)), (36, 0), (36, 1), (36, 2), (36, 3), (36, 4), (40, 1), (41, (-1))]) fr_rf (hf2) (M1 := []) rfl rfl) (by omega))
    · skip
      refine JcI (z := (-10)) (show mx_Sn _ _ 4 (mx_const (.int (-10)) 6) from sn_136 4) rfl ?_
      refine mx_J.step (sn_136 6) (fun _ _ => rfl) ?_
      refine Jisub (show mx_Sn _ _ 7 (mx_isub 8) from sn_136 7) ?_
      have b15 : 1 ≤ Z 36 1 ∧ Z 36 1 ≤ 18 := hG.pr 36 1
      have b16 : 1 ≤ Z 38 1 ∧ Z 38 1 ≤ 18 := hG.pr 38 1
      exact mx_J.ret (sn_136 8) (fun _ _ => rfl) (hP ((-10) - x0) Z h hx hG fr_rf (by omega))
theorem ct_136_1 {l : Launch} {D : va_G} {b0 : Nat} {ad : Nat → Nat} {Hb : Heap} {tau : Nat → Int64} {d n s : Nat} {S : Nat → xS} {Z : xZ} {h : mx_H} (hx : XH n s S Z h) (hG : GI n S Z)  {x0 : Int} (p0 : 0 ≤ x0 ∧ x0 ≤ 2) : ∃ (z : Int) (Z' : xZ) (h' : mx_H), mx_Ca (tB l D b0 ad Hb tau) (d + 4) 136 [.ref 1, xI x0] h (some (xI z), h') ∧ XH n s S Z' h' ∧ GI n S Z' ∧ fr' [(12, 2), (17, (-1)), (36, 0), (36, 1), (36, 2), (36, 3), (36, 4), (40, 1), (41, (-1))] Z Z' ∧ ((-12) ≤ z ∧ z ≤ 18 ∧ ((x0 = 0 → Z' 36 1 = Z 38 1) ∧ (¬ x0 = 0 → Z' 36 1 = Z 36 1))) := by
  obtain ⟨r, hca, z, Z', h', e, q⟩ := Jmt (B := tB l D b0 ad Hb tau) (M := mt_136) (mi := 136) (as := [.ref 1, xI x0]) (d := d + 3) (ls := [some (.ref 1), some (xI x0)]) rfl rfl rfl rfl rfl rfl (cw_136_1 (l := l) (D := D) (b0 := b0) (ad := ad) (Hb := Hb) (tau := tau) (d := d) (Post := fun r => ∃ (z : Int) (Z' : xZ) (h' : mx_H), r = (some (xI z), h') ∧ XH n s S Z' h' ∧ GI n S Z' ∧ fr' [(12, 2), (17, (-1)), (36, 0), (36, 1), (36, 2), (36, 3), (36, 4), (40, 1), (41, (-1))] Z Z' ∧ ((-12) ≤ z ∧ z ≤ 18 ∧ ((x0 = 0 → Z' 36 1 = Z 38 1) ∧ (¬ x0 = 0 → Z' 36 1 = Z 36 1)))) hx hG p0 (fun z Z' h' q1 q2 q3 q4 => ⟨z, Z', h', rfl, q1, q2, q3, q4⟩))
  subst e; exact ⟨z, Z', h', hca, q⟩
set_option maxRecDepth 100000 in
theorem cw_135_1 {l : Launch} {D : va_G} {b0 : Nat} {ad : Nat → Nat} {Hb : Heap} {tau : Nat → Int64} {d n s : Nat} {S : Nat → xS} {Z : xZ} {h : mx_H} {Post : mx_R → Prop} (hx : XH n s S Z h) (hG : GI n S Z)   (k0 : CTB Z (Z 7 4)) (hP : ∀ (Z' : xZ) (h' : mx_H), XH n s S Z' h' → GI n S Z' → fr' [(7, 4), (7, 5), (9, (-1)), (10, (-1)), (11, (-1)), (12, 1), (12, 2), (17, (-1)), (40, 1)] Z Z' → CTB Z' (Z 36 1) → Post (none, h')) : mx_J (tB l D b0 ad Hb tau) mt_135 (d + 3) 0 [some (.ref 1)] [] h Post := by
    have a1 : 1 < n := lt83 (GI_n hG) rfl
    have s1 : S 1 = .inl (11, [2, 0, 0, 0, 2, 2, 2, 2, 2, 2, 2, 2, 2, 2, 2, 2, 2]) := GI_s hG 1 rfl
    have a7 : 7 < n := lt83 (GI_n hG) rfl
    have s7 : S 7 = .inl (0, [2, 2, 2, 2, 0, 0]) := GI_s hG 7 rfl
    have a12 : 12 < n := lt83 (GI_n hG) rfl
    have s12 : S 12 = .inl (4, [2, 2, 0, 2, 2, 2, 2, 2, 2]) := GI_s hG 12 rfl
    have a36 : 36 < n := lt83 (GI_n hG) rfl
    have s36 : S 36 = .inl (5, [2, 0, 0, 0, 0, 0]) := GI_s hG 36 rfl
    have a40 : 40 < n := lt83 (GI_n hG) rfl
    have s40 : S 40 = .inl (6, [2, 0]) := GI_s hG 40 rfl
    refine mx_J.step (sn_135 0) (fun _ _ => rfl) ?_
    refine JgetR (g := 5) (b := 7) hx (show mx_Sn _ _ 1 (mx_getf 11 5 4) from sn_135 1) a1 s1 rfl rfl (hG.prr 1 5 rfl) ?_
    refine mx_J.step (sn_135 4) (fun _ _ => rfl) ?_
    refine JgetR (g := 12) (b := 36) hx (show mx_Sn _ _ 5 (mx_getf 11 12 8) from sn_135 5) a1 s1 rfl rfl (hG.prr 1 12 rfl) ?_
    have b4 : 1 ≤ Z 36 1 ∧ Z 36 1 ≤ 18 := hG.pr 36 1
    refine JgetI (g := 1) (z := Z 36 1) hx (show mx_Sn _ _ 8 (mx_getf 5 1 11) from sn_135 8) a36 s36 rfl rfl rfl ?_
    have b6 : 0 ≤ Z 7 4 ∧ Z 7 4 ≤ 18 := hG.pr 7 4
    obtain ⟨Z5, h5, hc5, hx5, hG5, hf5, b5⟩ := ct_3_7 (d := d + 0) (l := l) (D := D) (b0 := b0) (ad := ad) (Hb := Hb) (tau := tau) hx hG (show 1 ≤ Z 36 1 ∧ Z 36 1 ≤ 18 by omega) (k0)
    have bs5_0 := b5
    clear b5
    refine Jcv0 hx (show mx_Sn _ _ 11 (mx_callv 3 2 0 14) from sn_135 11) a7 s7 hc5 rfl rfl rfl ?_
    refine mx_J.step (sn_135 14) (fun _ _ => rfl) ?_
    refine JgetR (g := 6) (b := 12) hx5 (show mx_Sn _ _ 15 (mx_getf 11 6 18) from sn_135 15) a1 s1 rfl rfl (hG5.prr 1 6 rfl) ?_
    refine mx_J.step (sn_135 18) (fun _ _ => rfl) ?_
    refine JgetR (g := 12) (b := 36) hx5 (show mx_Sn _ _ 19 (mx_getf 11 12 22) from sn_135 19) a1 s1 rfl rfl (hG5.prr 1 12 rfl) ?_
    obtain ⟨r9, er9, or9, ar9, sr9⟩ := GI_l36 hG5
    refine JgetR (g := 0) (b := r9) hx5 (show mx_Sn _ _ 22 (mx_getf 5 0 25) from sn_135 22) a36 s36 rfl rfl er9 ?_
    refine mx_J.step (sn_135 25) (fun _ _ => rfl) ?_
    refine JgetR (g := 12) (b := 36) hx5 (show mx_Sn _ _ 26 (mx_getf 11 12 29) from sn_135 26) a1 s1 rfl rfl (hG5.prr 1 12 rfl) ?_
    refine JgetI (g := 1) (z := Z 36 1) hx5 (show mx_Sn _ _ 29 (mx_getf 5 1 32) from sn_135 29) a36 s36 rfl rfl (hf5 36 1 rfl) ?_
    refine mx_J.step (sn_135 32) (fun _ _ => rfl) ?_
    refine JgetR (g := 12) (b := 36) hx5 (show mx_Sn _ _ 33 (mx_getf 11 12 36) from sn_135 33) a1 s1 rfl rfl (hG5.prr 1 12 rfl) ?_
    have b14 : 0 ≤ Z 36 3 ∧ Z 36 3 ≤ 9 := hG.pr 36 3
    refine JgetI (g := 3) (z := Z 36 3) hx5 (show mx_Sn _ _ 36 (mx_getf 5 3 39) from sn_135 36) a36 s36 rfl rfl (hf5 36 3 rfl) ?_
    obtain ⟨Z15, h15, hc15, hx15, hG15, hf15⟩ := ct_24_12_L (d := d + 2) (l := l) (D := D) (b0 := b0) (ad := ad) (Hb := Hb) (tau := tau) hx5 hG5 or9 ar9 sr9 (show 1 ≤ Z 36 1 ∧ Z 36 1 ≤ 18 by omega) (show 0 ≤ Z 36 3 ∧ Z 36 3 ≤ 9 by omega)
    refine Jcv0 hx5 (show mx_Sn _ _ 39 (mx_callv 24 4 4 42) from sn_135 39) a12 s12 hc15 rfl rfl rfl ?_
    refine mx_J.step (sn_135 42) (fun _ _ => rfl) ?_
    refine JgetR (g := 14) (b := 40) hx15 (show mx_Sn _ _ 43 (mx_getf 11 14 46) from sn_135 43) a1 s1 rfl rfl (hG15.prr 1 14 rfl) ?_
    refine JcI (z := 0) (show mx_Sn _ _ 46 (mx_const (.int 0) 47) from sn_135 46) rfl ?_
    refine JputI (g := 1) hx15 (show mx_Sn _ _ 47 (mx_putf 1 6 1 (.int) 50) from sn_135 47) a40 s40 rfl rfl rfl rfl (fun Z17 h17 hx17 hE17 => ?_)
    have hG17 := GI_up hG15 hE17 (show 0 ≤ 0 ∧ 0 ≤ 10 by omega) trivial rfl
    exact mx_J.ret (sn_135 50) (fun _ _ => rfl) (hP Z17 h17 hx17 hG17 (fr_tr (M := [(7, 4), (7, 5), (9, (-1)), (10, (-1)), (11, (-1)), (12, 1), (12, 2), (17, (-1)), (40, 1)]) (fr_tr (M := [(7, 4), (7, 5), (9, (-1)), (10, (-1)), (11, (-1)), (12, 1), (12, 2), (17, (-1)), (40, 1)]) (fr_tr (M := [(7, 4), (7, 5), (9, (-1)), (10, (-1)), (11, (-1)), (12, 1), (12, 2), (17, (-1)), (40, 1)]) fr_rf (hf5) (M1 := []) rfl rfl) (hf15) rfl rfl) (fr_up hE17) rfl rfl) (CTB_c (by assumption) ((up_nk hE17 rfl).trans (hf15 7 4 rfl)) ((up_nk hE17 rfl).trans (hf15 7 5 rfl)) (fun i => ((up_nk hE17 rfl).trans (hf15 9 i rfl))) (fun i => ((up_nk hE17 rfl).trans (hf15 10 i rfl)))))
theorem ct_135_1 {l : Launch} {D : va_G} {b0 : Nat} {ad : Nat → Nat} {Hb : Heap} {tau : Nat → Int64} {d n s : Nat} {S : Nat → xS} {Z : xZ} {h : mx_H} (hx : XH n s S Z h) (hG : GI n S Z)   (k0 : CTB Z (Z 7 4)) : ∃ (Z' : xZ) (h' : mx_H), mx_Ca (tB l D b0 ad Hb tau) (d + 4) 135 [.ref 1] h (none, h') ∧ XH n s S Z' h' ∧ GI n S Z' ∧ fr' [(7, 4), (7, 5), (9, (-1)), (10, (-1)), (11, (-1)), (12, 1), (12, 2), (17, (-1)), (40, 1)] Z Z' ∧ (CTB Z' (Z 36 1)) := by
  obtain ⟨r, hca, Z', h', e, q⟩ := Jmt (B := tB l D b0 ad Hb tau) (M := mt_135) (mi := 135) (as := [.ref 1]) (d := d + 3) (ls := [some (.ref 1)]) rfl rfl rfl rfl rfl rfl (cw_135_1 (l := l) (D := D) (b0 := b0) (ad := ad) (Hb := Hb) (tau := tau) (d := d) (Post := fun r => ∃ (Z' : xZ) (h' : mx_H), r = (none, h') ∧ XH n s S Z' h' ∧ GI n S Z' ∧ fr' [(7, 4), (7, 5), (9, (-1)), (10, (-1)), (11, (-1)), (12, 1), (12, 2), (17, (-1)), (40, 1)] Z Z' ∧ (CTB Z' (Z 36 1))) hx hG k0 (fun Z' h' q1 q2 q3 q4 => ⟨Z', h', rfl, q1, q2, q3, q4⟩))
  subst e; exact ⟨Z', h', hca, q⟩
set_option maxRecDepth 100000 in
theorem cw_95_1 {l : Launch} {D : va_G} {b0 : Nat} {ad : Nat → Nat} {Hb : Heap} {tau : Nat → Int64} {d n s : Nat} {S : Nat → xS} {Z : xZ} {h : mx_H} {Post : mx_R → Prop} (hx : XH n s S Z h) (hG : GI n S Z)  {x0 : Int} (p0 : (-2147483648) ≤ x0 ∧ x0 ≤ 2147483647) (hP : ∀ (z : Int) (Z' : xZ) (h' : mx_H), XH n s S Z' h' → GI n S Z' → fr' [(12, 2), (14, (-1)), (16, (-1)), (17, (-1)), (18, (-1)), (19, (-1)), (36, 0), (36, 1), (36, 2), (36, 3), (36, 4), (38, 0), (38, 1), (38, 2), (38, 3), (38, 4), (40, 1), (41, (-1))] Z Z' → (-12) ≤ z ∧ z ≤ 18 ∧ (Z' 36 1 = Z 36 1) → Post (some (xI z), h')) : mx_J (tB l D b0 ad Hb tau) mt_95 (d + 5) 0 [some (.ref 1), some (xI x0)] [] h Post := by
    have a1 : 1 < n := lt83 (GI_n hG) rfl
    have s1 : S 1 = .inl (11, [2, 0, 0, 0, 2, 2, 2, 2, 2, 2, 2, 2, 2, 2, 2, 2, 2]) := GI_s hG 1 rfl
    have a38 : 38 < n := lt83 (GI_n hG) rfl
    have s38 : S 38 = .inl (5, [2, 0, 0, 0, 0, 0]) := GI_s hG 38 rfl
    refine mx_J.step (sn_95 0) (fun _ _ => rfl) ?_
    refine JgetR (g := 13) (b := 38) hx (show mx_Sn _ _ 1 (mx_getf 11 13 4) from sn_95 1) a1 s1 rfl rfl (hG.prr 1 13 rfl) ?_
    refine mx_J.step (sn_95 4) (fun _ _ => rfl) ?_
    refine JgetR (g := 12) (b := 36) hx (show mx_Sn _ _ 5 (mx_getf 11 12 8) from sn_95 5) a1 s1 rfl rfl (hG.prr 1 12 rfl) ?_
    have b4 : 1 ≤ Z 36 1 ∧ Z 36 1 ≤ 18 := hG.pr 36 1
    obtain ⟨Z3, h3, hc3, hx3, hG3, hf3, b3⟩ := ct_33_38_36 (d := d + 4) (l := l) (D := D) (b0 := b0) (ad := ad) (Hb := Hb) (tau := tau) hx hG 
    have b5 : 1 ≤ Z3 38 1 ∧ Z3 38 1 ≤ 18 := hG3.pr 38 1
    refine Jcv0 hx (show mx_Sn _ _ 8 (mx_callv 33 2 5 11) from sn_95 8) a38 s38 hc3 rfl rfl rfl ?_
    refine mx_J.step (sn_95 11) (fun _ _ => rfl) ?_
    refine mx_J.step (sn_95 12) (fun _ _ => rfl) ?_
    refine mx_J.step (sn_95 13) (fun _ _ => rfl) ?_
    refine JgetR (g := 13) (b := 38) hx3 (show mx_Sn _ _ 14 (mx_getf 11 13 17) from sn_95 14) a1 s1 rfl rfl (hG3.prr 1 13 rfl) ?_
    refine mx_J.step (sn_95 17) (fun _ _ => rfl) ?_
    obtain ⟨z7, Z7, h7, hc7, hx7, hG7, hf7, b7⟩ := ct_140_1_38 (d := d + 0) (l := l) (D := D) (b0 := b0) (ad := ad) (Hb := Hb) (tau := tau) hx3 hG3 (show (-2147483648) ≤ x0 ∧ x0 ≤ 2147483647 by omega)
    refine Jcv hx3 (show mx_Sn _ _ 18 (mx_callv 140 3 11 21) from sn_95 18) a1 s1 hc7 rfl rfl rfl ?_
    have eq9 : Z7 38 1 = Z3 38 1 := (hf7 38 1 rfl)
    have eq10 : Z7 36 1 = Z 36 1 := ((hf7 36 1 rfl).trans (hf3 36 1 rfl))
    obtain ⟨z8, Z8, h8, hc8, hx8, hG8, hf8, b8⟩ := ct_136_1 (d := d + 1) (l := l) (D := D) (b0 := b0) (ad := ad) (Hb := Hb) (tau := tau) hx7 hG7 (show 0 ≤ z7 ∧ z7 ≤ 2 by omega)
    try rw [eq9] at b8
    try rw [eq10] at b8
    have b11 : 1 ≤ Z8 36 1 ∧ Z8 36 1 ≤ 18 := hG8.pr 36 1
    refine Jcv hx7 (show mx_Sn _ _ 21 (mx_callv 136 2 11 24) from sn_95 21) a1 s1 hc8 rfl rfl rfl ?_
    exact mx_J.ret (sn_95 24) (fun _ _ => rfl) (hP z8 Z8 h8 hx8 hG8 (fr_tr (M := [(12, 2), (14, (-1)), (16, (-1)), (17, (-1)), (18, (-1)), (19, (-1)), (36, 0), (36, 1), (36, 2), (36, 3), (36, 4), (38, 0), (38, 1), (38, 2), (38, 3), (38, 4), (40, 1), (41, (-1))]) (fr_tr (M := [(12, 2), (14, (-1)), (16, (-1)), (17, (-1)), (18, (-1)), (19, (-1)), (36, 0), (36, 1), (36, 2), (36, 3), (36, 4), (38, 0), (38, 1), (38, 2), (38, 3), (38, 4), (40, 1), (41, (-1))]) (fr_tr (M := [(12, 2), (14, (-1)), (16, (-1)), (17, (-1)), (18, (-1)), (19, (-1)), (36, 0), (36, 1), (36, 2), (36, 3), (36, 4), (38, 0), (38, 1), (38, 2), (38, 3), (38, 4), (40, 1), (41, (-1))]) fr_rf (hf3) (M1 := []) rfl rfl) (hf7) rfl rfl) (hf8) rfl rfl) (by omega))
theorem ct_95_1 {l : Launch} {D : va_G} {b0 : Nat} {ad : Nat → Nat} {Hb : Heap} {tau : Nat → Int64} {d n s : Nat} {S : Nat → xS} {Z : xZ} {h : mx_H} (hx : XH n s S Z h) (hG : GI n S Z)  {x0 : Int} (p0 : (-2147483648) ≤ x0 ∧ x0 ≤ 2147483647) : ∃ (z : Int) (Z' : xZ) (h' : mx_H), mx_Ca (tB l D b0 ad Hb tau) (d + 6) 95 [.ref 1, xI x0] h (some (xI z), h') ∧ XH n s S Z' h' ∧ GI n S Z' ∧ fr' [(12, 2), (14, (-1)), (16, (-1)), (17, (-1)), (18, (-1)), (19, (-1)), (36, 0), (36, 1), (36, 2), (36, 3), (36, 4), (38, 0), (38, 1), (38, 2), (38, 3), (38, 4), (40, 1), (41, (-1))] Z Z' ∧ ((-12) ≤ z ∧ z ≤ 18 ∧ (Z' 36 1 = Z 36 1)) := by
  obtain ⟨r, hca, z, Z', h', e, q⟩ := Jmt (B := tB l D b0 ad Hb tau) (M := mt_95) (mi := 95) (as := [.ref 1, xI x0]) (d := d + 5) (ls := [some (.ref 1), some (xI x0)]) rfl rfl rfl rfl rfl rfl (cw_95_1 (l := l) (D := D) (b0 := b0) (ad := ad) (Hb := Hb) (tau := tau) (d := d) (Post := fun r => ∃ (z : Int) (Z' : xZ) (h' : mx_H), r = (some (xI z), h') ∧ XH n s S Z' h' ∧ GI n S Z' ∧ fr' [(12, 2), (14, (-1)), (16, (-1)), (17, (-1)), (18, (-1)), (19, (-1)), (36, 0), (36, 1), (36, 2), (36, 3), (36, 4), (38, 0), (38, 1), (38, 2), (38, 3), (38, 4), (40, 1), (41, (-1))] Z Z' ∧ ((-12) ≤ z ∧ z ≤ 18 ∧ (Z' 36 1 = Z 36 1))) hx hG p0 (fun z Z' h' q1 q2 q3 q4 => ⟨z, Z', h', rfl, q1, q2, q3, q4⟩))
  subst e; exact ⟨z, Z', h', hca, q⟩
set_option maxRecDepth 100000 in
theorem cw_96_1 {l : Launch} {D : va_G} {b0 : Nat} {ad : Nat → Nat} {Hb : Heap} {tau : Nat → Int64} {d n s : Nat} {S : Nat → xS} {Z : xZ} {h : mx_H} {Post : mx_R → Prop} (hx : XH n s S Z h) (hG : GI n S Z)  {x0 : Int} (p0 : (-2147483648) ≤ x0 ∧ x0 ≤ 2147483647) (hP : ∀ (z : Int) (Z' : xZ) (h' : mx_H), XH n s S Z' h' → GI n S Z' → fr' [(12, 2), (14, (-1)), (16, (-1)), (17, (-1)), (18, (-1)), (19, (-1)), (36, 0), (36, 1), (36, 2), (36, 3), (36, 4), (38, 0), (38, 1), (38, 2), (38, 3), (38, 4), (40, 1), (41, (-1))] Z Z' → (-12) ≤ z ∧ z ≤ 18 ∧ (Z' 36 1 = Z 36 1) → Post (some (xI z), h')) : mx_J (tB l D b0 ad Hb tau) mt_96 (d + 5) 0 [some (.ref 1), some (xI x0), none] [] h Post := by
    have a1 : 1 < n := lt83 (GI_n hG) rfl
    have s1 : S 1 = .inl (11, [2, 0, 0, 0, 2, 2, 2, 2, 2, 2, 2, 2, 2, 2, 2, 2, 2]) := GI_s hG 1 rfl
    have a38 : 38 < n := lt83 (GI_n hG) rfl
    have s38 : S 38 = .inl (5, [2, 0, 0, 0, 0, 0]) := GI_s hG 38 rfl
    refine mx_J.step (sn_96 0) (fun _ _ => rfl) ?_
    refine JcI (z := 1) (show mx_Sn _ _ 1 (mx_const (.int 1) 2) from sn_96 1) rfl ?_
    have c11 : mx_J (tB l D b0 ad Hb tau) mt_96 (d + 5) 11 [some (.ref 1), some (xI x0), none] [] h Post := by
      refine JcI (z := (-3)) (show mx_Sn _ _ 11 (mx_const (.int (-3)) 13) from sn_96 11) rfl ?_
      have b2 : 1 ≤ Z 36 1 ∧ Z 36 1 ≤ 18 := hG.pr 36 1
      exact mx_J.ret (sn_96 13) (fun _ _ => rfl) (hP (-3) Z h hx hG fr_rf (by omega))
    refine Jicmp_lt (show mx_Sn _ _ 2 (mx_icmp_lt 11 5) from sn_96 2) (by omega) (by omega) (fun q3 => ?_) (fun q3 => ?_)
    · skip
      exact c11 
    · skip
      refine mx_J.step (sn_96 5) (fun _ _ => rfl) ?_
      refine JcI (z := 99) (show mx_Sn _ _ 6 (mx_const (.int 99) 8) from sn_96 6) rfl ?_
      refine Jicmp_le (show mx_Sn _ _ 8 (mx_icmp_le 14 11) from sn_96 8) (by omega) (by omega) (fun q4 => ?_) (fun q4 => ?_)
      · skip
        refine mx_J.step (sn_96 14) (fun _ _ => rfl) ?_
        refine JgetR (g := 13) (b := 38) hx (show mx_Sn _ _ 15 (mx_getf 11 13 18) from sn_96 15) a1 s1 rfl rfl (hG.prr 1 13 rfl) ?_
        refine mx_J.step (sn_96 18) (fun _ _ => rfl) ?_
        refine JgetR (g := 12) (b := 36) hx (show mx_Sn _ _ 19 (mx_getf 11 12 22) from sn_96 19) a1 s1 rfl rfl (hG.prr 1 12 rfl) ?_
        have b8 : 1 ≤ Z 36 1 ∧ Z 36 1 ≤ 18 := hG.pr 36 1
        obtain ⟨Z7, h7, hc7, hx7, hG7, hf7, b7⟩ := ct_33_38_36 (d := d + 4) (l := l) (D := D) (b0 := b0) (ad := ad) (Hb := Hb) (tau := tau) hx hG 
        have b9 : 1 ≤ Z7 38 1 ∧ Z7 38 1 ≤ 18 := hG7.pr 38 1
        refine Jcv0 hx (show mx_Sn _ _ 22 (mx_callv 33 2 5 25) from sn_96 22) a38 s38 hc7 rfl rfl rfl ?_
        refine JcI (z := 0) (show mx_Sn _ _ 25 (mx_const (.int 0) 26) from sn_96 25) rfl ?_
        refine mx_J.step (ls2 := [some (.ref 1), some (xI x0), some (xI 0)]) (sn_96 26) (fun _ _ => rfl) ?_
        have c27 : ∀ (m10 : Nat) (w10_2 : Int) (Z11 : xZ) (h11 : mx_H), 99 - w10_2 < (m10 : Int) → 0 ≤ w10_2 ∧ w10_2 ≤ 99 → XH n s S Z11 h11 → GI n S Z11 → fr' [(12, 2), (14, (-1)), (16, (-1)), (17, (-1)), (18, (-1)), (19, (-1)), (38, 2), (38, 4)] Z7 Z11 → mx_J (tB l D b0 ad Hb tau) mt_96 (d + 5) 27 [some (.ref 1), some (xI x0), some (xI w10_2)] [] h11 Post := by
          intro m10
          induction m10 with
          | zero => intro w10_2 Z11 h11 q10 f10_0 hx11 hG11 hf11; exact absurd q10 (by omega)
          | succ m10 ih10 =>
            intro w10_2 Z11 h11 q10 f10_0 hx11 hG11 hf11
            refine mx_J.step (sn_96 27) (fun _ _ => rfl) ?_
            refine mx_J.step (sn_96 28) (fun _ _ => rfl) ?_
            refine Jicmp_ge (show mx_Sn _ _ 29 (mx_icmp_ge 48 32) from sn_96 29) (by omega) (by omega) (fun q12 => ?_) (fun q12 => ?_)
            · skip
              refine mx_J.step (sn_96 48) (fun _ _ => rfl) ?_
              refine JcI (z := 0) (show mx_Sn _ _ 49 (mx_const (.int 0) 50) from sn_96 49) rfl ?_
              have eq14 : Z11 38 1 = Z7 38 1 := (hf11 38 1 rfl)
              have eq15 : Z11 36 1 = Z 36 1 := ((hf11 36 1 rfl).trans (hf7 36 1 rfl))
              obtain ⟨z13, Z13, h13, hc13, hx13, hG13, hf13, b13⟩ := ct_136_1 (d := d + 1) (l := l) (D := D) (b0 := b0) (ad := ad) (Hb := Hb) (tau := tau) hx11 hG11 (show 0 ≤ 0 ∧ 0 ≤ 2 by omega)
              try rw [eq14] at b13
              try rw [eq15] at b13
              have b16 : 1 ≤ Z13 36 1 ∧ Z13 36 1 ≤ 18 := hG13.pr 36 1
              refine Jcv hx11 (show mx_Sn _ _ 50 (mx_callv 136 2 11 53) from sn_96 50) a1 s1 hc13 rfl rfl rfl ?_
              exact mx_J.ret (sn_96 53) (fun _ _ => rfl) (hP z13 Z13 h13 hx13 hG13 (fr_tr (M := [(12, 2), (14, (-1)), (16, (-1)), (17, (-1)), (18, (-1)), (19, (-1)), (36, 0), (36, 1), (36, 2), (36, 3), (36, 4), (38, 0), (38, 1), (38, 2), (38, 3), (38, 4), (40, 1), (41, (-1))]) (fr_tr (M := [(12, 2), (14, (-1)), (16, (-1)), (17, (-1)), (18, (-1)), (19, (-1)), (36, 0), (36, 1), (36, 2), (36, 3), (36, 4), (38, 0), (38, 1), (38, 2), (38, 3), (38, 4), (40, 1), (41, (-1))]) (fr_tr (M := [(12, 2), (14, (-1)), (16, (-1)), (17, (-1)), (18, (-1)), (19, (-1)), (36, 0), (36, 1), (36, 2), (36, 3), (36, 4), (38, 0), (38, 1), (38, 2), (38, 3), (38, 4), (40, 1), (41, (-1))]) fr_rf (hf7) (M1 := []) rfl rfl) (hf11) rfl rfl) (hf13) rfl rfl) (by omega))
            · skip
              refine mx_J.step (sn_96 32) (fun _ _ => rfl) ?_
              refine mx_J.step (sn_96 33) (fun _ _ => rfl) ?_
              refine JgetR (g := 13) (b := 38) hx11 (show mx_Sn _ _ 34 (mx_getf 11 13 37) from sn_96 34) a1 s1 rfl rfl (hG11.prr 1 13 rfl) ?_
              refine JcI (z := 0) (show mx_Sn _ _ 37 (mx_const (.int 0) 38) from sn_96 37) rfl ?_
              obtain ⟨z18, Z18, h18, hc18, hx18, hG18, hf18, b18⟩ := ct_140_1_38 (d := d + 0) (l := l) (D := D) (b0 := b0) (ad := ad) (Hb := Hb) (tau := tau) hx11 hG11 (show (-2147483648) ≤ 0 ∧ 0 ≤ 2147483647 by omega)
              refine Jcv hx11 (show mx_Sn _ _ 38 (mx_callv 140 3 11 41) from sn_96 38) a1 s1 hc18 rfl rfl rfl ?_
              refine mx_J.step (sn_96 41) (fun _ _ => rfl) ?_
              refine Jiinc (z := w10_2) (cz := 1) (ls2 := [some (.ref 1), some (xI x0), some (xI (w10_2 + 1))]) (show mx_Sn _ _ 42 (mx_iinc 2 1 45) from sn_96 42) rfl rfl rfl rfl ?_
              refine mx_J.step (sn_96 45) (fun _ _ => rfl) ?_
              exact ih10 (w10_2 + 1) Z18 h18 (by omega) (by omega) hx18 hG18 (fr_tr (M := [(12, 2), (14, (-1)), (16, (-1)), (17, (-1)), (18, (-1)), (19, (-1)), (38, 2), (38, 4)]) (fr_tr (M := [(12, 2), (14, (-1)), (16, (-1)), (17, (-1)), (18, (-1)), (19, (-1)), (38, 2), (38, 4)]) fr_rf (hf11) (M1 := []) rfl rfl) (hf18) rfl rfl)
        exact c27 (Int.toNat (99 - 0) + 1) 0 Z7 h7 (by omega) (by omega) hx7 hG7 fr_rf
      · skip
        exact c11 
theorem ct_96_1 {l : Launch} {D : va_G} {b0 : Nat} {ad : Nat → Nat} {Hb : Heap} {tau : Nat → Int64} {d n s : Nat} {S : Nat → xS} {Z : xZ} {h : mx_H} (hx : XH n s S Z h) (hG : GI n S Z)  {x0 : Int} (p0 : (-2147483648) ≤ x0 ∧ x0 ≤ 2147483647) : ∃ (z : Int) (Z' : xZ) (h' : mx_H), mx_Ca (tB l D b0 ad Hb tau) (d + 6) 96 [.ref 1, xI x0] h (some (xI z), h') ∧ XH n s S Z' h' ∧ GI n S Z' ∧ fr' [(12, 2), (14, (-1)), (16, (-1)), (17, (-1)), (18, (-1)), (19, (-1)), (36, 0), (36, 1), (36, 2), (36, 3), (36, 4), (38, 0), (38, 1), (38, 2), (38, 3), (38, 4), (40, 1), (41, (-1))] Z Z' ∧ ((-12) ≤ z ∧ z ≤ 18 ∧ (Z' 36 1 = Z 36 1)) := by
  obtain ⟨r, hca, z, Z', h', e, q⟩ := Jmt (B := tB l D b0 ad Hb tau) (M := mt_96) (mi := 96) (as := [.ref 1, xI x0]) (d := d + 5) (ls := [some (.ref 1), some (xI x0), none]) rfl rfl rfl rfl rfl rfl (cw_96_1 (l := l) (D := D) (b0 := b0) (ad := ad) (Hb := Hb) (tau := tau) (d := d) (Post := fun r => ∃ (z : Int) (Z' : xZ) (h' : mx_H), r = (some (xI z), h') ∧ XH n s S Z' h' ∧ GI n S Z' ∧ fr' [(12, 2), (14, (-1)), (16, (-1)), (17, (-1)), (18, (-1)), (19, (-1)), (36, 0), (36, 1), (36, 2), (36, 3), (36, 4), (38, 0), (38, 1), (38, 2), (38, 3), (38, 4), (40, 1), (41, (-1))] Z Z' ∧ ((-12) ≤ z ∧ z ≤ 18 ∧ (Z' 36 1 = Z 36 1))) hx hG p0 (fun z Z' h' q1 q2 q3 q4 => ⟨z, Z', h', rfl, q1, q2, q3, q4⟩))
  subst e; exact ⟨z, Z', h', hca, q⟩
set_option maxRecDepth 100000 in
theorem cw_97_1 {l : Launch} {D : va_G} {b0 : Nat} {ad : Nat → Nat} {Hb : Heap} {tau : Nat → Int64} {d n s : Nat} {S : Nat → xS} {Z : xZ} {h : mx_H} {Post : mx_R → Prop} (hx : XH n s S Z h) (hG : GI n S Z)  {x0 x1 : Int} (p0 : (-2147483648) ≤ x0 ∧ x0 ≤ 2147483647) (p1 : (-2147483648) ≤ x1 ∧ x1 ≤ 2147483647) (hP : ∀ (z : Int) (Z' : xZ) (h' : mx_H), XH n s S Z' h' → GI n S Z' → fr' [(12, 2), (17, (-1)), (36, 0), (36, 1), (36, 2), (36, 3), (36, 4), (38, 0), (38, 1), (38, 2), (38, 3), (38, 4), (40, 1), (41, (-1)), (42, (-1))] Z Z' → (-12) ≤ z ∧ z ≤ 18 ∧ (Z' 36 1 = Z 36 1) → Post (some (xI z), h')) : mx_J (tB l D b0 ad Hb tau) mt_97 (d + 4) 0 [some (.ref 1), some (xI x0), some (xI x1)] [] h Post := by
    have a1 : 1 < n := lt83 (GI_n hG) rfl
    have s1 : S 1 = .inl (11, [2, 0, 0, 0, 2, 2, 2, 2, 2, 2, 2, 2, 2, 2, 2, 2, 2]) := GI_s hG 1 rfl
    have a38 : 38 < n := lt83 (GI_n hG) rfl
    have s38 : S 38 = .inl (5, [2, 0, 0, 0, 0, 0]) := GI_s hG 38 rfl
    refine mx_J.step (sn_97 0) (fun _ _ => rfl) ?_
    refine JgetR (g := 13) (b := 38) hx (show mx_Sn _ _ 1 (mx_getf 11 13 4) from sn_97 1) a1 s1 rfl rfl (hG.prr 1 13 rfl) ?_
    refine mx_J.step (sn_97 4) (fun _ _ => rfl) ?_
    refine JgetR (g := 12) (b := 36) hx (show mx_Sn _ _ 5 (mx_getf 11 12 8) from sn_97 5) a1 s1 rfl rfl (hG.prr 1 12 rfl) ?_
    have b4 : 1 ≤ Z 36 1 ∧ Z 36 1 ≤ 18 := hG.pr 36 1
    obtain ⟨Z3, h3, hc3, hx3, hG3, hf3, b3⟩ := ct_33_38_36 (d := d + 3) (l := l) (D := D) (b0 := b0) (ad := ad) (Hb := Hb) (tau := tau) hx hG 
    have b5 : 1 ≤ Z3 38 1 ∧ Z3 38 1 ≤ 18 := hG3.pr 38 1
    refine Jcv0 hx (show mx_Sn _ _ 8 (mx_callv 33 2 5 11) from sn_97 8) a38 s38 hc3 rfl rfl rfl ?_
    refine mx_J.step (sn_97 11) (fun _ _ => rfl) ?_
    refine mx_J.step (sn_97 12) (fun _ _ => rfl) ?_
    refine mx_J.step (sn_97 13) (fun _ _ => rfl) ?_
    refine JgetR (g := 13) (b := 38) hx3 (show mx_Sn _ _ 14 (mx_getf 11 13 17) from sn_97 14) a1 s1 rfl rfl (hG3.prr 1 13 rfl) ?_
    refine mx_J.step (sn_97 17) (fun _ _ => rfl) ?_
    refine mx_J.step (sn_97 18) (fun _ _ => rfl) ?_
    obtain ⟨z7, Z7, h7, hc7, hx7, hG7, hf7, b7⟩ := ct_141_1_38 (d := d + 1) (l := l) (D := D) (b0 := b0) (ad := ad) (Hb := Hb) (tau := tau) hx3 hG3 (show (-2147483648) ≤ x0 ∧ x0 ≤ 2147483647 by omega) (show (-2147483648) ≤ x1 ∧ x1 ≤ 2147483647 by omega)
    refine Jcv hx3 (show mx_Sn _ _ 19 (mx_callv 141 4 11 22) from sn_97 19) a1 s1 hc7 rfl rfl rfl ?_
    have eq9 : Z7 38 1 = Z3 38 1 := (hf7 38 1 rfl)
    have eq10 : Z7 36 1 = Z 36 1 := ((hf7 36 1 rfl).trans (hf3 36 1 rfl))
    obtain ⟨z8, Z8, h8, hc8, hx8, hG8, hf8, b8⟩ := ct_136_1 (d := d + 0) (l := l) (D := D) (b0 := b0) (ad := ad) (Hb := Hb) (tau := tau) hx7 hG7 (show 0 ≤ z7 ∧ z7 ≤ 2 by omega)
    try rw [eq9] at b8
    try rw [eq10] at b8
    have b11 : 1 ≤ Z8 36 1 ∧ Z8 36 1 ≤ 18 := hG8.pr 36 1
    refine Jcv hx7 (show mx_Sn _ _ 22 (mx_callv 136 2 11 25) from sn_97 22) a1 s1 hc8 rfl rfl rfl ?_
    exact mx_J.ret (sn_97 25) (fun _ _ => rfl) (hP z8 Z8 h8 hx8 hG8 (fr_tr (M := [(12, 2), (17, (-1)), (36, 0), (36, 1), (36, 2), (36, 3), (36, 4), (38, 0), (38, 1), (38, 2), (38, 3), (38, 4), (40, 1), (41, (-1)), (42, (-1))]) (fr_tr (M := [(12, 2), (17, (-1)), (36, 0), (36, 1), (36, 2), (36, 3), (36, 4), (38, 0), (38, 1), (38, 2), (38, 3), (38, 4), (40, 1), (41, (-1)), (42, (-1))]) (fr_tr (M := [(12, 2), (17, (-1)), (36, 0), (36, 1), (36, 2), (36, 3), (36, 4), (38, 0), (38, 1), (38, 2), (38, 3), (38, 4), (40, 1), (41, (-1)), (42, (-1))]) fr_rf (hf3) (M1 := []) rfl rfl) (hf7) rfl rfl) (hf8) rfl rfl) (by omega))
theorem ct_97_1 {l : Launch} {D : va_G} {b0 : Nat} {ad : Nat → Nat} {Hb : Heap} {tau : Nat → Int64} {d n s : Nat} {S : Nat → xS} {Z : xZ} {h : mx_H} (hx : XH n s S Z h) (hG : GI n S Z)  {x0 x1 : Int} (p0 : (-2147483648) ≤ x0 ∧ x0 ≤ 2147483647) (p1 : (-2147483648) ≤ x1 ∧ x1 ≤ 2147483647) : ∃ (z : Int) (Z' : xZ) (h' : mx_H), mx_Ca (tB l D b0 ad Hb tau) (d + 5) 97 [.ref 1, xI x0, xI x1] h (some (xI z), h') ∧ XH n s S Z' h' ∧ GI n S Z' ∧ fr' [(12, 2), (17, (-1)), (36, 0), (36, 1), (36, 2), (36, 3), (36, 4), (38, 0), (38, 1), (38, 2), (38, 3), (38, 4), (40, 1), (41, (-1)), (42, (-1))] Z Z' ∧ ((-12) ≤ z ∧ z ≤ 18 ∧ (Z' 36 1 = Z 36 1)) := by
  obtain ⟨r, hca, z, Z', h', e, q⟩ := Jmt (B := tB l D b0 ad Hb tau) (M := mt_97) (mi := 97) (as := [.ref 1, xI x0, xI x1]) (d := d + 4) (ls := [some (.ref 1), some (xI x0), some (xI x1)]) rfl rfl rfl rfl rfl rfl (cw_97_1 (l := l) (D := D) (b0 := b0) (ad := ad) (Hb := Hb) (tau := tau) (d := d) (Post := fun r => ∃ (z : Int) (Z' : xZ) (h' : mx_H), r = (some (xI z), h') ∧ XH n s S Z' h' ∧ GI n S Z' ∧ fr' [(12, 2), (17, (-1)), (36, 0), (36, 1), (36, 2), (36, 3), (36, 4), (38, 0), (38, 1), (38, 2), (38, 3), (38, 4), (40, 1), (41, (-1)), (42, (-1))] Z Z' ∧ ((-12) ≤ z ∧ z ≤ 18 ∧ (Z' 36 1 = Z 36 1))) hx hG p0 p1 (fun z Z' h' q1 q2 q3 q4 => ⟨z, Z', h', rfl, q1, q2, q3, q4⟩))
  subst e; exact ⟨z, Z', h', hca, q⟩
set_option maxRecDepth 100000 in
theorem cw_98_1 {l : Launch} {D : va_G} {b0 : Nat} {ad : Nat → Nat} {Hb : Heap} {tau : Nat → Int64} {d n s : Nat} {S : Nat → xS} {Z : xZ} {h : mx_H} {Post : mx_R → Prop} (hx : XH n s S Z h) (hG : GI n S Z)  {x0 x1 : Int} (p0 : (-2147483648) ≤ x0 ∧ x0 ≤ 2147483647) (p1 : (-2147483648) ≤ x1 ∧ x1 ≤ 2147483647) (hP : ∀ (z : Int) (Z' : xZ) (h' : mx_H), XH n s S Z' h' → GI n S Z' → fr' [(12, 2), (17, (-1)), (36, 0), (36, 1), (36, 2), (36, 3), (36, 4), (38, 0), (38, 1), (38, 2), (38, 3), (38, 4), (40, 1), (41, (-1)), (42, (-1))] Z Z' → (-12) ≤ z ∧ z ≤ 18 ∧ (Z' 36 1 = Z 36 1) → Post (some (xI z), h')) : mx_J (tB l D b0 ad Hb tau) mt_98 (d + 4) 0 [some (.ref 1), some (xI x0), some (xI x1)] [] h Post := by
    have a1 : 1 < n := lt83 (GI_n hG) rfl
    have s1 : S 1 = .inl (11, [2, 0, 0, 0, 2, 2, 2, 2, 2, 2, 2, 2, 2, 2, 2, 2, 2]) := GI_s hG 1 rfl
    have a38 : 38 < n := lt83 (GI_n hG) rfl
    have s38 : S 38 = .inl (5, [2, 0, 0, 0, 0, 0]) := GI_s hG 38 rfl
    refine mx_J.step (sn_98 0) (fun _ _ => rfl) ?_
    refine JgetR (g := 13) (b := 38) hx (show mx_Sn _ _ 1 (mx_getf 11 13 4) from sn_98 1) a1 s1 rfl rfl (hG.prr 1 13 rfl) ?_
    refine mx_J.step (sn_98 4) (fun _ _ => rfl) ?_
    refine JgetR (g := 12) (b := 36) hx (show mx_Sn _ _ 5 (mx_getf 11 12 8) from sn_98 5) a1 s1 rfl rfl (hG.prr 1 12 rfl) ?_
    have b4 : 1 ≤ Z 36 1 ∧ Z 36 1 ≤ 18 := hG.pr 36 1
    obtain ⟨Z3, h3, hc3, hx3, hG3, hf3, b3⟩ := ct_33_38_36 (d := d + 3) (l := l) (D := D) (b0 := b0) (ad := ad) (Hb := Hb) (tau := tau) hx hG 
    have b5 : 1 ≤ Z3 38 1 ∧ Z3 38 1 ≤ 18 := hG3.pr 38 1
    refine Jcv0 hx (show mx_Sn _ _ 8 (mx_callv 33 2 5 11) from sn_98 8) a38 s38 hc3 rfl rfl rfl ?_
    refine mx_J.step (sn_98 11) (fun _ _ => rfl) ?_
    refine mx_J.step (sn_98 12) (fun _ _ => rfl) ?_
    refine mx_J.step (sn_98 13) (fun _ _ => rfl) ?_
    refine JgetR (g := 13) (b := 38) hx3 (show mx_Sn _ _ 14 (mx_getf 11 13 17) from sn_98 14) a1 s1 rfl rfl (hG3.prr 1 13 rfl) ?_
    refine mx_J.step (sn_98 17) (fun _ _ => rfl) ?_
    refine mx_J.step (sn_98 18) (fun _ _ => rfl) ?_
    obtain ⟨z7, Z7, h7, hc7, hx7, hG7, hf7, b7⟩ := ct_142_1_38 (d := d + 1) (l := l) (D := D) (b0 := b0) (ad := ad) (Hb := Hb) (tau := tau) hx3 hG3 (show (-2147483648) ≤ x0 ∧ x0 ≤ 2147483647 by omega) (show (-2147483648) ≤ x1 ∧ x1 ≤ 2147483647 by omega)
    refine Jcv hx3 (show mx_Sn _ _ 19 (mx_callv 142 4 11 22) from sn_98 19) a1 s1 hc7 rfl rfl rfl ?_
    have eq9 : Z7 38 1 = Z3 38 1 := (hf7 38 1 rfl)
    have eq10 : Z7 36 1 = Z 36 1 := ((hf7 36 1 rfl).trans (hf3 36 1 rfl))
    obtain ⟨z8, Z8, h8, hc8, hx8, hG8, hf8, b8⟩ := ct_136_1 (d := d + 0) (l := l) (D := D) (b0 := b0) (ad := ad) (Hb := Hb) (tau := tau) hx7 hG7 (show 0 ≤ z7 ∧ z7 ≤ 2 by omega)
    try rw [eq9] at b8
    try rw [eq10] at b8
    have b11 : 1 ≤ Z8 36 1 ∧ Z8 36 1 ≤ 18 := hG8.pr 36 1
    refine Jcv hx7 (show mx_Sn _ _ 22 (mx_callv 136 2 11 25) from sn_98 22) a1 s1 hc8 rfl rfl rfl ?_
    exact mx_J.ret (sn_98 25) (fun _ _ => rfl) (hP z8 Z8 h8 hx8 hG8 (fr_tr (M := [(12, 2), (17, (-1)), (36, 0), (36, 1), (36, 2), (36, 3), (36, 4), (38, 0), (38, 1), (38, 2), (38, 3), (38, 4), (40, 1), (41, (-1)), (42, (-1))]) (fr_tr (M := [(12, 2), (17, (-1)), (36, 0), (36, 1), (36, 2), (36, 3), (36, 4), (38, 0), (38, 1), (38, 2), (38, 3), (38, 4), (40, 1), (41, (-1)), (42, (-1))]) (fr_tr (M := [(12, 2), (17, (-1)), (36, 0), (36, 1), (36, 2), (36, 3), (36, 4), (38, 0), (38, 1), (38, 2), (38, 3), (38, 4), (40, 1), (41, (-1)), (42, (-1))]) fr_rf (hf3) (M1 := []) rfl rfl) (hf7) rfl rfl) (hf8) rfl rfl) (by omega))
theorem ct_98_1 {l : Launch} {D : va_G} {b0 : Nat} {ad : Nat → Nat} {Hb : Heap} {tau : Nat → Int64} {d n s : Nat} {S : Nat → xS} {Z : xZ} {h : mx_H} (hx : XH n s S Z h) (hG : GI n S Z)  {x0 x1 : Int} (p0 : (-2147483648) ≤ x0 ∧ x0 ≤ 2147483647) (p1 : (-2147483648) ≤ x1 ∧ x1 ≤ 2147483647) : ∃ (z : Int) (Z' : xZ) (h' : mx_H), mx_Ca (tB l D b0 ad Hb tau) (d + 5) 98 [.ref 1, xI x0, xI x1] h (some (xI z), h') ∧ XH n s S Z' h' ∧ GI n S Z' ∧ fr' [(12, 2), (17, (-1)), (36, 0), (36, 1), (36, 2), (36, 3), (36, 4), (38, 0), (38, 1), (38, 2), (38, 3), (38, 4), (40, 1), (41, (-1)), (42, (-1))] Z Z' ∧ ((-12) ≤ z ∧ z ≤ 18 ∧ (Z' 36 1 = Z 36 1)) := by
  obtain ⟨r, hca, z, Z', h', e, q⟩ := Jmt (B := tB l D b0 ad Hb tau) (M := mt_98) (mi := 98) (as := [.ref 1, xI x0, xI x1]) (d := d + 4) (ls := [some (.ref 1), some (xI x0), some (xI x1)]) rfl rfl rfl rfl rfl rfl (cw_98_1 (l := l) (D := D) (b0 := b0) (ad := ad) (Hb := Hb) (tau := tau) (d := d) (Post := fun r => ∃ (z : Int) (Z' : xZ) (h' : mx_H), r = (some (xI z), h') ∧ XH n s S Z' h' ∧ GI n S Z' ∧ fr' [(12, 2), (17, (-1)), (36, 0), (36, 1), (36, 2), (36, 3), (36, 4), (38, 0), (38, 1), (38, 2), (38, 3), (38, 4), (40, 1), (41, (-1)), (42, (-1))] Z Z' ∧ ((-12) ≤ z ∧ z ≤ 18 ∧ (Z' 36 1 = Z 36 1))) hx hG p0 p1 (fun z Z' h' q1 q2 q3 q4 => ⟨z, Z', h', rfl, q1, q2, q3, q4⟩))
  subst e; exact ⟨z, Z', h', hca, q⟩
set_option maxRecDepth 100000 in
theorem cw_99_1 {l : Launch} {D : va_G} {b0 : Nat} {ad : Nat → Nat} {Hb : Heap} {tau : Nat → Int64} {d n s : Nat} {S : Nat → xS} {Z : xZ} {h : mx_H} {Post : mx_R → Prop} (hx : XH n s S Z h) (hG : GI n S Z)  {x0 : Int} (p0 : (-2147483648) ≤ x0 ∧ x0 ≤ 2147483647) (hP : ∀ (z : Int) (Z' : xZ) (h' : mx_H), XH n s S Z' h' → GI n S Z' → fr' [(12, 2), (17, (-1)), (36, 0), (36, 1), (36, 2), (36, 3), (36, 4), (38, 0), (38, 1), (38, 2), (38, 3), (38, 4), (40, 1), (41, (-1))] Z Z' → (-12) ≤ z ∧ z ≤ 9 ∧ (Z' 36 1 = Z 36 1) → Post (some (xI z), h')) : mx_J (tB l D b0 ad Hb tau) mt_99 (d + 4) 0 [some (.ref 1), some (xI x0), none, none] [] h Post := by
    have a1 : 1 < n := lt83 (GI_n hG) rfl
    have s1 : S 1 = .inl (11, [2, 0, 0, 0, 2, 2, 2, 2, 2, 2, 2, 2, 2, 2, 2, 2, 2]) := GI_s hG 1 rfl
    have a36 : 36 < n := lt83 (GI_n hG) rfl
    have s36 : S 36 = .inl (5, [2, 0, 0, 0, 0, 0]) := GI_s hG 36 rfl
    have a38 : 38 < n := lt83 (GI_n hG) rfl
    have s38 : S 38 = .inl (5, [2, 0, 0, 0, 0, 0]) := GI_s hG 38 rfl
    refine mx_J.step (sn_99 0) (fun _ _ => rfl) ?_
    refine JgetR (g := 12) (b := 36) hx (show mx_Sn _ _ 1 (mx_getf 11 12 4) from sn_99 1) a1 s1 rfl rfl (hG.prr 1 12 rfl) ?_
    have b3 : 0 ≤ Z 36 3 ∧ Z 36 3 ≤ 9 := hG.pr 36 3
    refine JgetI (g := 3) (z := Z 36 3) hx (show mx_Sn _ _ 4 (mx_getf 5 3 7) from sn_99 4) a36 s36 rfl rfl rfl ?_
    refine mx_J.step (ls2 := [some (.ref 1), some (xI x0), some (xI (Z 36 3)), none]) (sn_99 7) (fun _ _ => rfl) ?_
    refine mx_J.step (sn_99 8) (fun _ _ => rfl) ?_
    refine JgetR (g := 13) (b := 38) hx (show mx_Sn _ _ 9 (mx_getf 11 13 12) from sn_99 9) a1 s1 rfl rfl (hG.prr 1 13 rfl) ?_
    refine mx_J.step (sn_99 12) (fun _ _ => rfl) ?_
    refine JgetR (g := 12) (b := 36) hx (show mx_Sn _ _ 13 (mx_getf 11 12 16) from sn_99 13) a1 s1 rfl rfl (hG.prr 1 12 rfl) ?_
    have b7 : 1 ≤ Z 36 1 ∧ Z 36 1 ≤ 18 := hG.pr 36 1
    obtain ⟨Z6, h6, hc6, hx6, hG6, hf6, b6⟩ := ct_33_38_36 (d := d + 3) (l := l) (D := D) (b0 := b0) (ad := ad) (Hb := Hb) (tau := tau) hx hG 
    have b8 : 1 ≤ Z6 38 1 ∧ Z6 38 1 ≤ 18 := hG6.pr 38 1
    refine Jcv0 hx (show mx_Sn _ _ 16 (mx_callv 33 2 5 19) from sn_99 16) a38 s38 hc6 rfl rfl rfl ?_
    refine mx_J.step (sn_99 19) (fun _ _ => rfl) ?_
    refine mx_J.step (sn_99 20) (fun _ _ => rfl) ?_
    refine mx_J.step (sn_99 21) (fun _ _ => rfl) ?_
    refine JgetR (g := 13) (b := 38) hx6 (show mx_Sn _ _ 22 (mx_getf 11 13 25) from sn_99 22) a1 s1 rfl rfl (hG6.prr 1 13 rfl) ?_
    refine mx_J.step (sn_99 25) (fun _ _ => rfl) ?_
    obtain ⟨z10, Z10, h10, hc10, hx10, hG10, hf10, b10⟩ := ct_143_1_38 (d := d + 3) (l := l) (D := D) (b0 := b0) (ad := ad) (Hb := Hb) (tau := tau) hx6 hG6 (show (-2147483648) ≤ x0 ∧ x0 ≤ 2147483647 by omega)
    refine Jcv hx6 (show mx_Sn _ _ 26 (mx_callv 143 3 11 29) from sn_99 26) a1 s1 hc10 rfl rfl rfl ?_
    have eq12 : Z10 38 1 = Z6 38 1 := (hf10 38 1 rfl)
    have eq13 : Z10 36 1 = Z 36 1 := ((hf10 36 1 rfl).trans (hf6 36 1 rfl))
    obtain ⟨z11, Z11, h11, hc11, hx11, hG11, hf11, b11⟩ := ct_136_1 (d := d + 0) (l := l) (D := D) (b0 := b0) (ad := ad) (Hb := Hb) (tau := tau) hx10 hG10 (show 0 ≤ z10 ∧ z10 ≤ 2 by omega)
    try rw [eq12] at b11
    try rw [eq13] at b11
    have b14 : 1 ≤ Z11 36 1 ∧ Z11 36 1 ≤ 18 := hG11.pr 36 1
    refine Jcv hx10 (show mx_Sn _ _ 29 (mx_callv 136 2 11 32) from sn_99 29) a1 s1 hc11 rfl rfl rfl ?_
    refine mx_J.step (ls2 := [some (.ref 1), some (xI x0), some (xI (Z 36 3)), some (xI z11)]) (sn_99 32) (fun _ _ => rfl) ?_
    refine mx_J.step (sn_99 33) (fun _ _ => rfl) ?_
    have c42 : ∀ (k15_0 : Int), (-12) ≤ k15_0 ∧ k15_0 ≤ 9 → mx_J (tB l D b0 ad Hb tau) mt_99 (d + 4) 42 [some (.ref 1), some (xI x0), some (xI (Z 36 3)), some (xI z11)] [xI k15_0] h11 Post := by
      intro k15_0 f15_0
      exact mx_J.ret (sn_99 42) (fun _ _ => rfl) (hP k15_0 Z11 h11 hx11 hG11 (fr_tr (M := [(12, 2), (17, (-1)), (36, 0), (36, 1), (36, 2), (36, 3), (36, 4), (38, 0), (38, 1), (38, 2), (38, 3), (38, 4), (40, 1), (41, (-1))]) (fr_tr (M := [(12, 2), (17, (-1)), (36, 0), (36, 1), (36, 2), (36, 3), (36, 4), (38, 0), (38, 1), (38, 2), (38, 3), (38, 4), (40, 1), (41, (-1))]) (fr_tr (M := [(12, 2), (17, (-1)), (36, 0), (36, 1), (36, 2), (36, 3), (36, 4), (38, 0), (38, 1), (38, 2), (38, 3), (38, 4), (40, 1), (41, (-1))]) fr_rf (hf6) (M1 := []) rfl rfl) (hf10) rfl rfl) (hf11) rfl rfl) (by omega))
    refine Jif_ge (show mx_Sn _ _ 34 (mx_if_ge 41 37) from sn_99 34) (by omega) (fun q16 => ?_) (fun q16 => ?_)
    · skip
      refine mx_J.step (sn_99 41) (fun _ _ => rfl) ?_
      exact c42 (Z 36 3) (by omega)
    · skip
      refine mx_J.step (sn_99 37) (fun _ _ => rfl) ?_
      refine mx_J.step (sn_99 38) (fun _ _ => rfl) ?_
      exact c42 z11 (by omega)
theorem ct_99_1 {l : Launch} {D : va_G} {b0 : Nat} {ad : Nat → Nat} {Hb : Heap} {tau : Nat → Int64} {d n s : Nat} {S : Nat → xS} {Z : xZ} {h : mx_H} (hx : XH n s S Z h) (hG : GI n S Z)  {x0 : Int} (p0 : (-2147483648) ≤ x0 ∧ x0 ≤ 2147483647) : ∃ (z : Int) (Z' : xZ) (h' : mx_H), mx_Ca (tB l D b0 ad Hb tau) (d + 5) 99 [.ref 1, xI x0] h (some (xI z), h') ∧ XH n s S Z' h' ∧ GI n S Z' ∧ fr' [(12, 2), (17, (-1)), (36, 0), (36, 1), (36, 2), (36, 3), (36, 4), (38, 0), (38, 1), (38, 2), (38, 3), (38, 4), (40, 1), (41, (-1))] Z Z' ∧ ((-12) ≤ z ∧ z ≤ 9 ∧ (Z' 36 1 = Z 36 1)) := by
  obtain ⟨r, hca, z, Z', h', e, q⟩ := Jmt (B := tB l D b0 ad Hb tau) (M := mt_99) (mi := 99) (as := [.ref 1, xI x0]) (d := d + 4) (ls := [some (.ref 1), some (xI x0), none, none]) rfl rfl rfl rfl rfl rfl (cw_99_1 (l := l) (D := D) (b0 := b0) (ad := ad) (Hb := Hb) (tau := tau) (d := d) (Post := fun r => ∃ (z : Int) (Z' : xZ) (h' : mx_H), r = (some (xI z), h') ∧ XH n s S Z' h' ∧ GI n S Z' ∧ fr' [(12, 2), (17, (-1)), (36, 0), (36, 1), (36, 2), (36, 3), (36, 4), (38, 0), (38, 1), (38, 2), (38, 3), (38, 4), (40, 1), (41, (-1))] Z Z' ∧ ((-12) ≤ z ∧ z ≤ 9 ∧ (Z' 36 1 = Z 36 1))) hx hG p0 (fun z Z' h' q1 q2 q3 q4 => ⟨z, Z', h', rfl, q1, q2, q3, q4⟩))
  subst e; exact ⟨z, Z', h', hca, q⟩
set_option maxRecDepth 100000 in
theorem cw_100_1 {l : Launch} {D : va_G} {b0 : Nat} {ad : Nat → Nat} {Hb : Heap} {tau : Nat → Int64} {d n s : Nat} {S : Nat → xS} {Z : xZ} {h : mx_H} {Post : mx_R → Prop} (hx : XH n s S Z h) (hG : GI n S Z)  {x0 : Int} (p0 : (-2147483648) ≤ x0 ∧ x0 ≤ 2147483647) (hP : ∀ (z : Int) (Z' : xZ) (h' : mx_H), XH n s S Z' h' → GI n S Z' → fr' [(12, 2), (17, (-1)), (36, 2), (36, 3), (36, 4), (40, 1)] Z Z' → (-3) ≤ z ∧ z ≤ 10 → Post (some (xI z), h')) : mx_J (tB l D b0 ad Hb tau) mt_100 (d + 1) 0 [some (.ref 1), some (xI x0)] [] h Post := by
    have a1 : 1 < n := lt83 (GI_n hG) rfl
    have s1 : S 1 = .inl (11, [2, 0, 0, 0, 2, 2, 2, 2, 2, 2, 2, 2, 2, 2, 2, 2, 2]) := GI_s hG 1 rfl
    have a12 : 12 < n := lt83 (GI_n hG) rfl
    have s12 : S 12 = .inl (4, [2, 2, 0, 2, 2, 2, 2, 2, 2]) := GI_s hG 12 rfl
    have a36 : 36 < n := lt83 (GI_n hG) rfl
    have s36 : S 36 = .inl (5, [2, 0, 0, 0, 0, 0]) := GI_s hG 36 rfl
    have a40 : 40 < n := lt83 (GI_n hG) rfl
    have s40 : S 40 = .inl (6, [2, 0]) := GI_s hG 40 rfl
    refine mx_J.step (sn_100 0) (fun _ _ => rfl) ?_
    refine JcI (z := 1) (show mx_Sn _ _ 1 (mx_const (.int 1) 2) from sn_100 1) rfl ?_
    have c22 : mx_J (tB l D b0 ad Hb tau) mt_100 (d + 1) 22 [some (.ref 1), some (xI x0)] [] h Post := by
      refine JcI (z := (-3)) (show mx_Sn _ _ 22 (mx_const (.int (-3)) 24) from sn_100 22) rfl ?_
      exact mx_J.ret (sn_100 24) (fun _ _ => rfl) (hP (-3) Z h hx hG fr_rf (by omega))
    refine Jicmp_lt (show mx_Sn _ _ 2 (mx_icmp_lt 22 5) from sn_100 2) (by omega) (by omega) (fun q2 => ?_) (fun q2 => ?_)
    · skip
      exact c22 
    · skip
      refine mx_J.step (sn_100 5) (fun _ _ => rfl) ?_
      refine JcI (z := 10) (show mx_Sn _ _ 6 (mx_const (.int 10) 8) from sn_100 6) rfl ?_
      refine Jicmp_gt (show mx_Sn _ _ 8 (mx_icmp_gt 22 11) from sn_100 8) (by omega) (by omega) (fun q3 => ?_) (fun q3 => ?_)
      · skip
        exact c22 
      · skip
        refine mx_J.step (sn_100 11) (fun _ _ => rfl) ?_
        refine mx_J.step (sn_100 12) (fun _ _ => rfl) ?_
        refine JgetR (g := 14) (b := 40) hx (show mx_Sn _ _ 13 (mx_getf 11 14 16) from sn_100 13) a1 s1 rfl rfl (hG.prr 1 14 rfl) ?_
        have b6 : 0 ≤ Z 40 1 ∧ Z 40 1 ≤ 10 := hG.pr 40 1
        refine JgetI (g := 1) (z := Z 40 1) hx (show mx_Sn _ _ 16 (mx_getf 6 1 19) from sn_100 16) a40 s40 rfl rfl rfl ?_
        refine Jicmp_le (show mx_Sn _ _ 19 (mx_icmp_le 25 22) from sn_100 19) (by omega) (by omega) (fun q7 => ?_) (fun q7 => ?_)
        · skip
          refine mx_J.step (sn_100 25) (fun _ _ => rfl) ?_
          refine JgetR (g := 14) (b := 40) hx (show mx_Sn _ _ 26 (mx_getf 11 14 29) from sn_100 26) a1 s1 rfl rfl (hG.prr 1 14 rfl) ?_
          refine mx_J.step (sn_100 29) (fun _ _ => rfl) ?_
          refine JgetR (g := 12) (b := 36) hx (show mx_Sn _ _ 30 (mx_getf 11 12 33) from sn_100 30) a1 s1 rfl rfl (hG.prr 1 12 rfl) ?_
          refine mx_J.step (sn_100 33) (fun _ _ => rfl) ?_
          obtain ⟨Z10, h10, hc10, hx10, hG10, hf10⟩ := ct_36_40_36 (d := d + 0) (l := l) (D := D) (b0 := b0) (ad := ad) (Hb := Hb) (tau := tau) hx hG (show (-2147483648) ≤ x0 ∧ x0 ≤ 2147483647 by omega)
          refine Jcv0 hx (show mx_Sn _ _ 34 (mx_callv 36 3 6 37) from sn_100 34) a40 s40 hc10 rfl rfl rfl ?_
          refine mx_J.step (sn_100 37) (fun _ _ => rfl) ?_
          refine JgetR (g := 6) (b := 12) hx10 (show mx_Sn _ _ 38 (mx_getf 11 6 41) from sn_100 38) a1 s1 rfl rfl (hG10.prr 1 6 rfl) ?_
          refine mx_J.step (sn_100 41) (fun _ _ => rfl) ?_
          refine JgetR (g := 12) (b := 36) hx10 (show mx_Sn _ _ 42 (mx_getf 11 12 45) from sn_100 42) a1 s1 rfl rfl (hG10.prr 1 12 rfl) ?_
          have b14 : 0 ≤ Z10 36 3 ∧ Z10 36 3 ≤ 9 := hG10.pr 36 3
          refine JgetI (g := 3) (z := Z10 36 3) hx10 (show mx_Sn _ _ 45 (mx_getf 5 3 48) from sn_100 45) a36 s36 rfl rfl rfl ?_
          obtain ⟨Z15, h15, hc15, hx15, hG15, hf15⟩ := ct_25_12 (d := d + 0) (l := l) (D := D) (b0 := b0) (ad := ad) (Hb := Hb) (tau := tau) hx10 hG10 (show 0 ≤ Z10 36 3 ∧ Z10 36 3 ≤ 9 by omega)
          refine Jcv0 hx10 (show mx_Sn _ _ 48 (mx_callv 25 2 4 51) from sn_100 48) a12 s12 hc15 rfl rfl rfl ?_
          refine mx_J.step (sn_100 51) (fun _ _ => rfl) ?_
          refine JgetR (g := 14) (b := 40) hx15 (show mx_Sn _ _ 52 (mx_getf 11 14 55) from sn_100 52) a1 s1 rfl rfl (hG15.prr 1 14 rfl) ?_
          have b18 : 0 ≤ Z10 40 1 ∧ Z10 40 1 ≤ 10 := hG10.pr 40 1
          refine JgetI (g := 1) (z := Z10 40 1) hx15 (show mx_Sn _ _ 55 (mx_getf 6 1 58) from sn_100 55) a40 s40 rfl rfl (hf15 40 1 rfl) ?_
          exact mx_J.ret (sn_100 58) (fun _ _ => rfl) (hP (Z10 40 1) Z15 h15 hx15 hG15 (fr_tr (M := [(12, 2), (17, (-1)), (36, 2), (36, 3), (36, 4), (40, 1)]) (fr_tr (M := [(12, 2), (17, (-1)), (36, 2), (36, 3), (36, 4), (40, 1)]) fr_rf (hf10) (M1 := []) rfl rfl) (hf15) rfl rfl) (by omega))
        · skip
          exact c22 
theorem ct_100_1 {l : Launch} {D : va_G} {b0 : Nat} {ad : Nat → Nat} {Hb : Heap} {tau : Nat → Int64} {d n s : Nat} {S : Nat → xS} {Z : xZ} {h : mx_H} (hx : XH n s S Z h) (hG : GI n S Z)  {x0 : Int} (p0 : (-2147483648) ≤ x0 ∧ x0 ≤ 2147483647) : ∃ (z : Int) (Z' : xZ) (h' : mx_H), mx_Ca (tB l D b0 ad Hb tau) (d + 2) 100 [.ref 1, xI x0] h (some (xI z), h') ∧ XH n s S Z' h' ∧ GI n S Z' ∧ fr' [(12, 2), (17, (-1)), (36, 2), (36, 3), (36, 4), (40, 1)] Z Z' ∧ ((-3) ≤ z ∧ z ≤ 10) := by
  obtain ⟨r, hca, z, Z', h', e, q⟩ := Jmt (B := tB l D b0 ad Hb tau) (M := mt_100) (mi := 100) (as := [.ref 1, xI x0]) (d := d + 1) (ls := [some (.ref 1), some (xI x0)]) rfl rfl rfl rfl rfl rfl (cw_100_1 (l := l) (D := D) (b0 := b0) (ad := ad) (Hb := Hb) (tau := tau) (d := d) (Post := fun r => ∃ (z : Int) (Z' : xZ) (h' : mx_H), r = (some (xI z), h') ∧ XH n s S Z' h' ∧ GI n S Z' ∧ fr' [(12, 2), (17, (-1)), (36, 2), (36, 3), (36, 4), (40, 1)] Z Z' ∧ ((-3) ≤ z ∧ z ≤ 10)) hx hG p0 (fun z Z' h' q1 q2 q3 q4 => ⟨z, Z', h', rfl, q1, q2, q3, q4⟩))
  subst e; exact ⟨z, Z', h', hca, q⟩
set_option maxRecDepth 100000 in
theorem cw_133_1 {l : Launch} {D : va_G} {b0 : Nat} {ad : Nat → Nat} {Hb : Heap} {tau : Nat → Int64} {d n s : Nat} {S : Nat → xS} {Z : xZ} {h : mx_H} {Post : mx_R → Prop} (hx : XH n s S Z h) (hG : GI n S Z)  {x0 : Int} (p0 : (-2147483648) ≤ x0 ∧ x0 ≤ 2147483647) (hP : ∀ z : Int, (-2147483648) ≤ z ∧ z ≤ 2147483647 → Post (some (xI z), h)) : mx_J (tB l D b0 ad Hb tau) mt_133 (d + 1) 0 [some (.ref 1), some (xI x0)] [] h Post := by
    have a1 : 1 < n := lt83 (GI_n hG) rfl
    have s1 : S 1 = .inl (11, [2, 0, 0, 0, 2, 2, 2, 2, 2, 2, 2, 2, 2, 2, 2, 2, 2]) := GI_s hG 1 rfl
    have a7 : 7 < n := lt83 (GI_n hG) rfl
    have s7 : S 7 = .inl (0, [2, 2, 2, 2, 0, 0]) := GI_s hG 7 rfl
    have a36 : 36 < n := lt83 (GI_n hG) rfl
    have s36 : S 36 = .inl (5, [2, 0, 0, 0, 0, 0]) := GI_s hG 36 rfl
    have a40 : 40 < n := lt83 (GI_n hG) rfl
    have s40 : S 40 = .inl (6, [2, 0]) := GI_s hG 40 rfl
    refine mx_J.step (sn_133 0) (fun _ _ => rfl) ?_
    refine Jtsw (z := x0) (show mx_Sn _ _ 1 (mx_tsw 0 7 [48, 56, 71, 79, 87, 95, 103, 108] 119) from sn_133 1) (by omega) (fun q1 => ?_) (fun q1 => ?_)
    · skip
      refine JcI (z := (-1)) (show mx_Sn _ _ 119 (mx_const (.int (-1)) 120) from sn_133 119) rfl ?_
      exact mx_J.ret (sn_133 120) (fun _ _ => rfl) (hP (-1) (by omega))
    · skip
      have e1 : x0 = 0 ∨ x0 = 1 ∨ x0 = 2 ∨ x0 = 3 ∨ x0 = 4 ∨ x0 = 5 ∨ x0 = 6 ∨ x0 = 7 := by omega
      rcases e1 with e1 | e1 | e1 | e1 | e1 | e1 | e1 | e1
      · refine ⟨48, by rw [e1]; rfl, ?_⟩
        refine mx_J.step (sn_133 48) (fun _ _ => rfl) ?_
        refine JgetR (g := 12) (b := 36) hx (show mx_Sn _ _ 49 (mx_getf 11 12 52) from sn_133 49) a1 s1 rfl rfl (hG.prr 1 12 rfl) ?_
        have b4 : 1 ≤ Z 36 1 ∧ Z 36 1 ≤ 18 := hG.pr 36 1
        refine JgetI (g := 1) (z := Z 36 1) hx (show mx_Sn _ _ 52 (mx_getf 5 1 55) from sn_133 52) a36 s36 rfl rfl rfl ?_
        exact mx_J.ret (sn_133 55) (fun _ _ => rfl) (hP (Z 36 1) (by omega))
      · refine ⟨56, by rw [e1]; rfl, ?_⟩
        refine mx_J.step (sn_133 56) (fun _ _ => rfl) ?_
        refine JgetR (g := 5) (b := 7) hx (show mx_Sn _ _ 57 (mx_getf 11 5 60) from sn_133 57) a1 s1 rfl rfl (hG.prr 1 5 rfl) ?_
        refine mx_J.step (sn_133 60) (fun _ _ => rfl) ?_
        refine JgetR (g := 12) (b := 36) hx (show mx_Sn _ _ 61 (mx_getf 11 12 64) from sn_133 61) a1 s1 rfl rfl (hG.prr 1 12 rfl) ?_
        have b8 : 0 ≤ Z 36 2 ∧ Z 36 2 ≤ 384 := hG.pr 36 2
        refine JgetI (g := 2) (z := Z 36 2) hx (show mx_Sn _ _ 64 (mx_getf 5 2 67) from sn_133 64) a36 s36 rfl rfl rfl ?_
        have b10 : 0 ≤ Z 7 5 ∧ Z 7 5 ≤ 385 := hG.pr 7 5
        have b11 : 0 ≤ Z 10 (Z 36 2) ∧ Z 10 (Z 36 2) ≤ 18 := hG.pr 10 (Z 36 2)
        obtain ⟨z9, hc9, b9⟩ := ct_5_7 (d := d + 0) (l := l) (D := D) (b0 := b0) (ad := ad) (Hb := Hb) (tau := tau) hx hG (show (-2147483648) ≤ Z 36 2 ∧ Z 36 2 ≤ 2147483647 by omega)
        refine Jcv hx (show mx_Sn _ _ 67 (mx_callv 5 2 0 70) from sn_133 67) a7 s7 hc9 rfl rfl rfl ?_
        exact mx_J.ret (sn_133 70) (fun _ _ => rfl) (hP z9 (by omega))
      · refine ⟨71, by rw [e1]; rfl, ?_⟩
        refine mx_J.step (sn_133 71) (fun _ _ => rfl) ?_
        refine JgetR (g := 12) (b := 36) hx (show mx_Sn _ _ 72 (mx_getf 11 12 75) from sn_133 72) a1 s1 rfl rfl (hG.prr 1 12 rfl) ?_
        have b14 : 0 ≤ Z 36 2 ∧ Z 36 2 ≤ 384 := hG.pr 36 2
        refine JgetI (g := 2) (z := Z 36 2) hx (show mx_Sn _ _ 75 (mx_getf 5 2 78) from sn_133 75) a36 s36 rfl rfl rfl ?_
        exact mx_J.ret (sn_133 78) (fun _ _ => rfl) (hP (Z 36 2) (by omega))
      · refine ⟨79, by rw [e1]; rfl, ?_⟩
        refine mx_J.step (sn_133 79) (fun _ _ => rfl) ?_
        refine JgetR (g := 12) (b := 36) hx (show mx_Sn _ _ 80 (mx_getf 11 12 83) from sn_133 80) a1 s1 rfl rfl (hG.prr 1 12 rfl) ?_
        have b17 : 0 ≤ Z 36 3 ∧ Z 36 3 ≤ 9 := hG.pr 36 3
        refine JgetI (g := 3) (z := Z 36 3) hx (show mx_Sn _ _ 83 (mx_getf 5 3 86) from sn_133 83) a36 s36 rfl rfl rfl ?_
        exact mx_J.ret (sn_133 86) (fun _ _ => rfl) (hP (Z 36 3) (by omega))
      · refine ⟨87, by rw [e1]; rfl, ?_⟩
        refine mx_J.step (sn_133 87) (fun _ _ => rfl) ?_
        refine JgetR (g := 12) (b := 36) hx (show mx_Sn _ _ 88 (mx_getf 11 12 91) from sn_133 88) a1 s1 rfl rfl (hG.prr 1 12 rfl) ?_
        have b20 : (-2147483648) ≤ Z 36 4 ∧ Z 36 4 ≤ 2147483647 := hG.pr 36 4
        refine JgetI (g := 4) (z := Z 36 4) hx (show mx_Sn _ _ 91 (mx_getf 5 4 94) from sn_133 91) a36 s36 rfl rfl rfl ?_
        exact mx_J.ret (sn_133 94) (fun _ _ => rfl) (hP (Z 36 4) (by omega))
      · refine ⟨95, by rw [e1]; rfl, ?_⟩
        refine mx_J.step (sn_133 95) (fun _ _ => rfl) ?_
        refine JgetR (g := 14) (b := 40) hx (show mx_Sn _ _ 96 (mx_getf 11 14 99) from sn_133 96) a1 s1 rfl rfl (hG.prr 1 14 rfl) ?_
        have b23 : 0 ≤ Z 40 1 ∧ Z 40 1 ≤ 10 := hG.pr 40 1
        refine JgetI (g := 1) (z := Z 40 1) hx (show mx_Sn _ _ 99 (mx_getf 6 1 102) from sn_133 99) a40 s40 rfl rfl rfl ?_
        exact mx_J.ret (sn_133 102) (fun _ _ => rfl) (hP (Z 40 1) (by omega))
      · refine ⟨103, by rw [e1]; rfl, ?_⟩
        refine mx_J.step (sn_133 103) (fun _ _ => rfl) ?_
        have b25 : 0 ≤ Z 1 1 ∧ Z 1 1 ≤ 900 := hG.pr 1 1
        refine JgetI (g := 1) (z := Z 1 1) hx (show mx_Sn _ _ 104 (mx_getf 11 1 107) from sn_133 104) a1 s1 rfl rfl rfl ?_
        exact mx_J.ret (sn_133 107) (fun _ _ => rfl) (hP (Z 1 1) (by omega))
      · refine ⟨108, by rw [e1]; rfl, ?_⟩
        refine mx_J.step (sn_133 108) (fun _ _ => rfl) ?_
        refine JgetR (g := 12) (b := 36) hx (show mx_Sn _ _ 109 (mx_getf 11 12 112) from sn_133 109) a1 s1 rfl rfl (hG.prr 1 12 rfl) ?_
        obtain ⟨r27, er27, or27, ar27, sr27⟩ := GI_l36 hG
        refine JgetR (g := 0) (b := r27) hx (show mx_Sn _ _ 112 (mx_getf 5 0 115) from sn_133 112) a36 s36 rfl rfl er27 ?_
        have b28 : -2147483648 ≤ Z r27 2 ∧ Z r27 2 ≤ 2147483647 := (GI_rc hG or27 ar27 sr27).2.2
        refine JgetI (g := 2) (z := Z r27 2) hx (show mx_Sn _ _ 115 (mx_getf 3 2 118) from sn_133 115) ar27 sr27 rfl rfl rfl ?_
        exact mx_J.ret (sn_133 118) (fun _ _ => rfl) (hP (Z r27 2) (by omega))
theorem ct_133_1 {l : Launch} {D : va_G} {b0 : Nat} {ad : Nat → Nat} {Hb : Heap} {tau : Nat → Int64} {d n s : Nat} {S : Nat → xS} {Z : xZ} {h : mx_H} (hx : XH n s S Z h) (hG : GI n S Z)  {x0 : Int} (p0 : (-2147483648) ≤ x0 ∧ x0 ≤ 2147483647) : ∃ z : Int, mx_Ca (tB l D b0 ad Hb tau) (d + 2) 133 [.ref 1, xI x0] h (some (xI z), h) ∧ ((-2147483648) ≤ z ∧ z ≤ 2147483647) := by
  obtain ⟨r, hca, z, e, hp⟩ := Jmt (B := tB l D b0 ad Hb tau) (M := mt_133) (mi := 133) (as := [.ref 1, xI x0]) (d := d + 1) (ls := [some (.ref 1), some (xI x0)]) rfl rfl rfl rfl rfl rfl (cw_133_1 (l := l) (D := D) (b0 := b0) (ad := ad) (Hb := Hb) (tau := tau) (d := d) (Post := fun r => ∃ z : Int, r = (some (xI z), h) ∧ ((-2147483648) ≤ z ∧ z ≤ 2147483647)) hx hG p0 (fun z hz => ⟨z, rfl, hz⟩))
  subst e; exact ⟨z, hca, hp⟩
set_option maxRecDepth 100000 in
theorem cw_153_ {l : Launch} {D : va_G} {b0 : Nat} {ad : Nat → Nat} {Hb : Heap} {tau : Nat → Int64} {d n s : Nat} {S : Nat → xS} {Z : xZ} {h : mx_H} {Post : mx_R → Prop} (hx : XH n s S Z h) (hG : GI n S Z)  {x0 x1 x2 : Int} (p0 : (-9223372036854775808) ≤ x0 ∧ x0 ≤ 9223372036854775807) (p1 : 0 ≤ x1 ∧ x1 ≤ 7) (p2 : 0 ≤ x2 ∧ x2 ≤ 1) (hP : ∀ z : Int, (-2147483648) ≤ z ∧ z ≤ 2147483647 → Post (some (xI z), h)) : mx_J (tB l D b0 ad Hb tau) mt_153 (d + 0) 0 [some (xL x0), none, some (xI x1), some (xI x2), none, none, none, none, none, none, none, none, none] [] h Post := by
    refine JcL (z := 1) (show mx_Sn _ _ 0 (mx_const (.long 1) 1) from sn_153 0) rfl ?_
    refine mx_J.step (ls2 := [some (xL x0), none, some (xI x1), some (xI x2), some (xL 1), none, none, none, none, none, none, none, none]) (sn_153 1) (fun _ _ => rfl) ?_
    refine JcI (z := 0) (show mx_Sn _ _ 3 (mx_const (.int 0) 4) from sn_153 3) rfl ?_
    refine mx_J.step (ls2 := [some (xL x0), none, some (xI x1), some (xI x2), some (xL 1), none, some (xI 0), none, none, none, none, none, none]) (sn_153 4) (fun _ _ => rfl) ?_
    have c6 : ∀ (m1 : Nat) (w1_4 : Int) (w1_6 : Int), 7 - w1_6 < (m1 : Int) → (-9223372036854775808) ≤ w1_4 ∧ w1_4 ≤ 9223372036854775807 → 0 ≤ w1_6 ∧ w1_6 ≤ 7 → mx_J (tB l D b0 ad Hb tau) mt_153 (d + 0) 6 [some (xL x0), none, some (xI x1), some (xI x2), some (xL w1_4), none, some (xI w1_6), none, none, none, none, none, none] [] h Post := by
      intro m1
      induction m1 with
      | zero => intro w1_4 w1_6 q1 f1_0 f1_1; exact absurd q1 (by omega)
      | succ m1 ih1 =>
        intro w1_4 w1_6 q1 f1_0 f1_1
        refine mx_J.step (sn_153 6) (fun _ _ => rfl) ?_
        refine mx_J.step (sn_153 8) (fun _ _ => rfl) ?_
        refine Jicmp_ge (show mx_Sn _ _ 9 (mx_icmp_ge 26 12) from sn_153 9) (by omega) (by omega) (fun q2 => ?_) (fun q2 => ?_)
        · skip
          refine mx_J.step (sn_153 26) (fun _ _ => rfl) ?_
          refine mx_J.step (ls2 := [some (xL x0), none, some (xI x1), some (xI x2), some (xL w1_4), none, some (xL w1_4), none, none, none, none, none, none]) (sn_153 28) (fun _ _ => rfl) ?_
          refine mx_J.step (sn_153 30) (fun _ _ => rfl) ?_
          refine mx_J.step (ls2 := [some (xL x0), none, some (xI x1), some (xI x2), some (xL w1_4), none, some (xL w1_4), none, some (xL x0), none, none, none, none]) (sn_153 31) (fun _ _ => rfl) ?_
          refine JcI (z := 0) (show mx_Sn _ _ 33 (mx_const (.int 0) 34) from sn_153 33) rfl ?_
          refine mx_J.step (ls2 := [some (xL x0), none, some (xI x1), some (xI x2), some (xL w1_4), none, some (xL w1_4), none, some (xL x0), none, some (xI 0), none, none]) (sn_153 34) (fun _ _ => rfl) ?_
          have c36 : ∀ (m3 : Nat) (w3_6 : Int) (w3_8 : Int) (w3_10 : Int) (u3_11 : Option Value) (u3_12 : Option Value), 100 - w3_10 < (m3 : Int) → (-9223372036854775808) ≤ w3_6 ∧ w3_6 ≤ 9223372036854775807 → (-9223372036854775808) ≤ w3_8 ∧ w3_8 ≤ 9223372036854775807 → 0 ≤ w3_10 ∧ w3_10 ≤ 100 → mx_J (tB l D b0 ad Hb tau) mt_153 (d + 0) 36 [some (xL x0), none, some (xI x1), some (xI x2), some (xL w1_4), none, some (xL w3_6), none, some (xL w3_8), none, some (xI w3_10), u3_11, u3_12] [] h Post := by
            intro m3
            induction m3 with
            | zero => intro w3_6 w3_8 w3_10 u3_11 u3_12 q3 f3_0 f3_1 f3_2; exact absurd q3 (by omega)
            | succ m3 ih3 =>
              intro w3_6 w3_8 w3_10 u3_11 u3_12 q3 f3_0 f3_1 f3_2
              refine mx_J.step (sn_153 36) (fun _ _ => rfl) ?_
              refine JcI (z := 100) (show mx_Sn _ _ 38 (mx_const (.int 100) 40) from sn_153 38) rfl ?_
              have c71 : mx_J (tB l D b0 ad Hb tau) mt_153 (d + 0) 71 [some (xL x0), none, some (xI x1), some (xI x2), some (xL w1_4), none, some (xL w3_6), none, some (xL w3_8), none, some (xI w3_10), u3_11, u3_12] [] h Post := by
                refine mx_J.step (sn_153 71) (fun _ _ => rfl) ?_
                refine JcL (z := 1) (show mx_Sn _ _ 73 (mx_const (.long 1) 74) from sn_153 73) rfl ?_
                refine Jlif_ge (show mx_Sn _ _ 74 (mx_lif_ge 80 78) from sn_153 74) (by omega) (by omega) (fun q5 => ?_) (fun q5 => ?_)
                · skip
                  refine mx_J.step (sn_153 80) (fun _ _ => rfl) ?_
                  have c90 : ∀ (k6_0 : Int), (-9223372036854775808) ≤ k6_0 ∧ k6_0 ≤ 9223372036854775807 → mx_J (tB l D b0 ad Hb tau) mt_153 (d + 0) 90 [some (xL x0), none, some (xI x1), some (xI x2), some (xL w1_4), none, some (xL w3_6), none, some (xL w3_8), none, some (xI w3_10), u3_11, u3_12] [xL k6_0] h Post := by
                    intro k6_0 f6_0
                    refine mx_J.step (sn_153 90) (fun _ _ => rfl) ?_
                    refine JldivX (show mx_Sn _ _ 92 (mx_ldiv 93) from sn_153 92) (by omega) (by omega) (fun y7 hy7 => ?_)
                    refine Jl2i (show mx_Sn _ _ 93 (mx_l2i 94) from sn_153 93) (Jnorm fun y8 hy8 hq8 => ?_)
                    exact mx_J.ret (sn_153 94) (fun _ _ => rfl) (hP y8 (by omega))
                  refine Jif_ne (show mx_Sn _ _ 81 (mx_if_ne 88 84) from sn_153 81) (by omega) (fun q9 => ?_) (fun q9 => ?_)
                  · skip
                    refine mx_J.step (sn_153 88) (fun _ _ => rfl) ?_
                    exact c90 w1_4 (by omega)
                  · skip
                    refine mx_J.step (sn_153 84) (fun _ _ => rfl) ?_
                    refine mx_J.step (sn_153 85) (fun _ _ => rfl) ?_
                    exact c90 x0 (by omega)
                · skip
                  refine JcI (z := 0) (show mx_Sn _ _ 78 (mx_const (.int 0) 79) from sn_153 78) rfl ?_
                  exact mx_J.ret (sn_153 79) (fun _ _ => rfl) (hP 0 (by omega))
              refine Jicmp_ge (show mx_Sn _ _ 40 (mx_icmp_ge 71 43) from sn_153 40) (by omega) (by omega) (fun q10 => ?_) (fun q10 => ?_)
              · skip
                exact c71 
              · skip
                refine mx_J.step (sn_153 43) (fun _ _ => rfl) ?_
                refine JcL (z := 0) (show mx_Sn _ _ 45 (mx_const (.long 0) 46) from sn_153 45) rfl ?_
                refine Jlif_eq (show mx_Sn _ _ 46 (mx_lif_eq 71 50) from sn_153 46) (by omega) (by omega) (fun q11 => ?_) (fun q11 => ?_)
                · skip
                  exact c71 
                · skip
                  refine mx_J.step (sn_153 50) (fun _ _ => rfl) ?_
                  refine mx_J.step (sn_153 52) (fun _ _ => rfl) ?_
                  refine JlremX (show mx_Sn _ _ 54 (mx_lrem 55) from sn_153 54) (by omega) (by omega) (by omega) (fun y12 hy12 => ?_)
                  refine mx_J.step (ls2 := [some (xL x0), none, some (xI x1), some (xI x2), some (xL w1_4), none, some (xL w3_6), none, some (xL w3_8), none, some (xI w3_10), some (xL y12), none]) (sn_153 55) (fun _ _ => rfl) ?_
                  refine mx_J.step (sn_153 57) (fun _ _ => rfl) ?_
                  refine mx_J.step (ls2 := [some (xL x0), none, some (xI x1), some (xI x2), some (xL w1_4), none, some (xL w3_8), none, some (xL w3_8), none, some (xI w3_10), some (xL y12), none]) (sn_153 59) (fun _ _ => rfl) ?_
                  refine mx_J.step (sn_153 61) (fun _ _ => rfl) ?_
                  refine mx_J.step (ls2 := [some (xL x0), none, some (xI x1), some (xI x2), some (xL w1_4), none, some (xL w3_8), none, some (xL y12), none, some (xI w3_10), some (xL y12), none]) (sn_153 63) (fun _ _ => rfl) ?_
                  refine Jiinc (z := w3_10) (cz := 1) (ls2 := [some (xL x0), none, some (xI x1), some (xI x2), some (xL w1_4), none, some (xL w3_8), none, some (xL y12), none, some (xI (w3_10 + 1)), some (xL y12), none]) (show mx_Sn _ _ 65 (mx_iinc 10 1 68) from sn_153 65) rfl rfl rfl rfl ?_
                  refine mx_J.step (sn_153 68) (fun _ _ => rfl) ?_
                  exact ih3 w3_8 y12 (w3_10 + 1) (some (xL y12)) none (by omega) (by omega) (by omega) (by omega)
          exact c36 (Int.toNat (100 - 0) + 1) w1_4 x0 0 none none (by omega) (by omega) (by omega) (by omega)
        · skip
          refine mx_J.step (sn_153 12) (fun _ _ => rfl) ?_
          refine JcL (z := 10) (show mx_Sn _ _ 14 (mx_const (.long 10) 17) from sn_153 14) rfl ?_
          refine JlmulN (show mx_Sn _ _ 17 (mx_lmul 18) from sn_153 17) (fun y13 hy13 hq13 => ?_)
          refine mx_J.step (ls2 := [some (xL x0), none, some (xI x1), some (xI x2), some (xL y13), none, some (xI w1_6), none, none, none, none, none, none]) (sn_153 18) (fun _ _ => rfl) ?_
          refine Jiinc (z := w1_6) (cz := 1) (ls2 := [some (xL x0), none, some (xI x1), some (xI x2), some (xL y13), none, some (xI (w1_6 + 1)), none, none, none, none, none, none]) (show mx_Sn _ _ 20 (mx_iinc 6 1 23) from sn_153 20) rfl rfl rfl rfl ?_
          refine mx_J.step (sn_153 23) (fun _ _ => rfl) ?_
          exact ih1 y13 (w1_6 + 1) (by omega) (by omega) (by omega)
    exact c6 (Int.toNat (7 - 0) + 1) 1 0 (by omega) (by omega) (by omega)
theorem ct_153_ {l : Launch} {D : va_G} {b0 : Nat} {ad : Nat → Nat} {Hb : Heap} {tau : Nat → Int64} {d n s : Nat} {S : Nat → xS} {Z : xZ} {h : mx_H} (hx : XH n s S Z h) (hG : GI n S Z)  {x0 x1 x2 : Int} (p0 : (-9223372036854775808) ≤ x0 ∧ x0 ≤ 9223372036854775807) (p1 : 0 ≤ x1 ∧ x1 ≤ 7) (p2 : 0 ≤ x2 ∧ x2 ≤ 1) : ∃ z : Int, mx_Ca (tB l D b0 ad Hb tau) (d + 1) 153 [xL x0, xI x1, xI x2] h (some (xI z), h) ∧ ((-2147483648) ≤ z ∧ z ≤ 2147483647) := by
  obtain ⟨r, hca, z, e, hp⟩ := Jmt (B := tB l D b0 ad Hb tau) (M := mt_153) (mi := 153) (as := [xL x0, xI x1, xI x2]) (d := d + 0) (ls := [some (xL x0), none, some (xI x1), some (xI x2), none, none, none, none, none, none, none, none, none]) rfl rfl rfl rfl rfl rfl (cw_153_ (l := l) (D := D) (b0 := b0) (ad := ad) (Hb := Hb) (tau := tau) (d := d) (Post := fun r => ∃ z : Int, r = (some (xI z), h) ∧ ((-2147483648) ≤ z ∧ z ≤ 2147483647)) hx hG p0 p1 p2 (fun z hz => ⟨z, rfl, hz⟩))
  subst e; exact ⟨z, hca, hp⟩
set_option maxRecDepth 100000 in
theorem cw_104_1 {l : Launch} {D : va_G} {b0 : Nat} {ad : Nat → Nat} {Hb : Heap} {tau : Nat → Int64} {d n s : Nat} {S : Nat → xS} {Z : xZ} {h : mx_H} {Post : mx_R → Prop} (hx : XH n s S Z h) (hG : GI n S Z)  {x0 : Int} (p0 : (-9223372036854775808) ≤ x0 ∧ x0 ≤ 9223372036854775807) (hP : ∀ (z : Int) (Z' : xZ) (h' : mx_H), XH n s S Z' h' → GI n S Z' → fr' [(14, (-1)), (16, (-1)), (17, (-1)), (18, (-1)), (19, (-1)), (20, 6), (20, 7), (21, (-1)), (22, (-1))] Z Z' → (-3) ≤ z ∧ z ≤ 384 → Post (some (xI z), h')) : mx_J (tB l D b0 ad Hb tau) mt_104 (d + 6) 0 [some (.ref 1), some (xL x0), none] [] h Post := by
    have a1 : 1 < n := lt83 (GI_n hG) rfl
    have s1 : S 1 = .inl (11, [2, 0, 0, 0, 2, 2, 2, 2, 2, 2, 2, 2, 2, 2, 2, 2, 2]) := GI_s hG 1 rfl
    have a20 : 20 < n := lt83 (GI_n hG) rfl
    have s20 : S 20 = .inl (2, [2, 2, 2, 2, 2, 2, 0, 0, 0, 0, 0, 0]) := GI_s hG 20 rfl
    have a36 : 36 < n := lt83 (GI_n hG) rfl
    have s36 : S 36 = .inl (5, [2, 0, 0, 0, 0, 0]) := GI_s hG 36 rfl
    refine mx_J.step (sn_104 0) (fun _ _ => rfl) ?_
    refine JcL (z := 0) (show mx_Sn _ _ 1 (mx_const (.long 0) 2) from sn_104 1) rfl ?_
    have c14 : mx_J (tB l D b0 ad Hb tau) mt_104 (d + 6) 14 [some (.ref 1), some (xL x0), none] [] h Post := by
      refine JcI (z := (-3)) (show mx_Sn _ _ 14 (mx_const (.int (-3)) 16) from sn_104 14) rfl ?_
      exact mx_J.ret (sn_104 16) (fun _ _ => rfl) (hP (-3) Z h hx hG fr_rf (by omega))
    refine Jlif_lt (show mx_Sn _ _ 2 (mx_lif_lt 14 6) from sn_104 2) (by omega) (by omega) (fun q2 => ?_) (fun q2 => ?_)
    · skip
      exact c14 
    · skip
      refine mx_J.step (sn_104 6) (fun _ _ => rfl) ?_
      refine JcL (z := 1000000000000000) (show mx_Sn _ _ 7 (mx_const (.long 1000000000000000) 10) from sn_104 7) rfl ?_
      refine Jlif_le (show mx_Sn _ _ 10 (mx_lif_le 17 14) from sn_104 10) (by omega) (by omega) (fun q3 => ?_) (fun q3 => ?_)
      · skip
        refine mx_J.step (sn_104 17) (fun _ _ => rfl) ?_
        refine JgetR (g := 7) (b := 20) hx (show mx_Sn _ _ 18 (mx_getf 11 7 21) from sn_104 18) a1 s1 rfl rfl (hG.prr 1 7 rfl) ?_
        refine mx_J.step (sn_104 21) (fun _ _ => rfl) ?_
        refine JgetR (g := 12) (b := 36) hx (show mx_Sn _ _ 22 (mx_getf 11 12 25) from sn_104 22) a1 s1 rfl rfl (hG.prr 1 12 rfl) ?_
        have b7 : 0 ≤ Z 36 2 ∧ Z 36 2 ≤ 384 := hG.pr 36 2
        refine JgetI (g := 2) (z := Z 36 2) hx (show mx_Sn _ _ 25 (mx_getf 5 2 28) from sn_104 25) a36 s36 rfl rfl rfl ?_
        obtain ⟨Z8, h8, hc8, hx8, hG8, hf8⟩ := ct_15_20 (d := d + 0) (l := l) (D := D) (b0 := b0) (ad := ad) (Hb := Hb) (tau := tau) hx hG (show 0 ≤ Z 36 2 ∧ Z 36 2 ≤ 384 by omega)
        refine Jcv0 hx (show mx_Sn _ _ 28 (mx_callv 15 2 2 31) from sn_104 28) a20 s20 hc8 rfl rfl rfl ?_
        refine mx_J.step (sn_104 31) (fun _ _ => rfl) ?_
        refine JgetR (g := 7) (b := 20) hx8 (show mx_Sn _ _ 32 (mx_getf 11 7 35) from sn_104 32) a1 s1 rfl rfl (hG8.prr 1 7 rfl) ?_
        refine mx_J.step (sn_104 35) (fun _ _ => rfl) ?_
        obtain ⟨z10, hc10, b10⟩ := ct_16_20 (d := d + 5) (l := l) (D := D) (b0 := b0) (ad := ad) (Hb := Hb) (tau := tau) hx8 hG8 (show 0 ≤ x0 ∧ x0 ≤ 1000000000000000 by omega)
        refine Jcv hx8 (show mx_Sn _ _ 36 (mx_callv 16 2 2 39) from sn_104 36) a20 s20 hc10 rfl rfl rfl ?_
        exact mx_J.ret (sn_104 39) (fun _ _ => rfl) (hP z10 Z8 h8 hx8 hG8 (fr_tr (M := [(14, (-1)), (16, (-1)), (17, (-1)), (18, (-1)), (19, (-1)), (20, 6), (20, 7), (21, (-1)), (22, (-1))]) fr_rf (hf8) (M1 := []) rfl rfl) (by omega))
      · skip
        exact c14 
theorem ct_104_1 {l : Launch} {D : va_G} {b0 : Nat} {ad : Nat → Nat} {Hb : Heap} {tau : Nat → Int64} {d n s : Nat} {S : Nat → xS} {Z : xZ} {h : mx_H} (hx : XH n s S Z h) (hG : GI n S Z)  {x0 : Int} (p0 : (-9223372036854775808) ≤ x0 ∧ x0 ≤ 9223372036854775807) : ∃ (z : Int) (Z' : xZ) (h' : mx_H), mx_Ca (tB l D b0 ad Hb tau) (d + 7) 104 [.ref 1, xL x0] h (some (xI z), h') ∧ XH n s S Z' h' ∧ GI n S Z' ∧ fr' [(14, (-1)), (16, (-1)), (17, (-1)), (18, (-1)), (19, (-1)), (20, 6), (20, 7), (21, (-1)), (22, (-1))] Z Z' ∧ ((-3) ≤ z ∧ z ≤ 384) := by
  obtain ⟨r, hca, z, Z', h', e, q⟩ := Jmt (B := tB l D b0 ad Hb tau) (M := mt_104) (mi := 104) (as := [.ref 1, xL x0]) (d := d + 6) (ls := [some (.ref 1), some (xL x0), none]) rfl rfl rfl rfl rfl rfl (cw_104_1 (l := l) (D := D) (b0 := b0) (ad := ad) (Hb := Hb) (tau := tau) (d := d) (Post := fun r => ∃ (z : Int) (Z' : xZ) (h' : mx_H), r = (some (xI z), h') ∧ XH n s S Z' h' ∧ GI n S Z' ∧ fr' [(14, (-1)), (16, (-1)), (17, (-1)), (18, (-1)), (19, (-1)), (20, 6), (20, 7), (21, (-1)), (22, (-1))] Z Z' ∧ ((-3) ≤ z ∧ z ≤ 384)) hx hG p0 (fun z Z' h' q1 q2 q3 q4 => ⟨z, Z', h', rfl, q1, q2, q3, q4⟩))
  subst e; exact ⟨z, Z', h', hca, q⟩
set_option maxRecDepth 100000 in
theorem cw_105_1 {l : Launch} {D : va_G} {b0 : Nat} {ad : Nat → Nat} {Hb : Heap} {tau : Nat → Int64} {d n s : Nat} {S : Nat → xS} {Z : xZ} {h : mx_H} {Post : mx_R → Prop} (hx : XH n s S Z h) (hG : GI n S Z)  {x0 : Int} (p0 : (-2147483648) ≤ x0 ∧ x0 ≤ 2147483647) (hP : ∀ (z : Int) (Z' : xZ) (h' : mx_H), XH n s S Z' h' → GI n S Z' → fr' [(14, (-1)), (16, (-1)), (17, (-1)), (18, (-1)), (19, (-1)), (20, 6), (20, 7), (21, (-1)), (22, (-1))] Z Z' → (-2) ≤ z ∧ z ≤ 2147483647 → Post (some (xI z), h')) : mx_J (tB l D b0 ad Hb tau) mt_105 (d + 6) 0 [some (.ref 1), some (xI x0)] [] h Post := by
    have a1 : 1 < n := lt83 (GI_n hG) rfl
    have s1 : S 1 = .inl (11, [2, 0, 0, 0, 2, 2, 2, 2, 2, 2, 2, 2, 2, 2, 2, 2, 2]) := GI_s hG 1 rfl
    have a20 : 20 < n := lt83 (GI_n hG) rfl
    have s20 : S 20 = .inl (2, [2, 2, 2, 2, 2, 2, 0, 0, 0, 0, 0, 0]) := GI_s hG 20 rfl
    have a36 : 36 < n := lt83 (GI_n hG) rfl
    have s36 : S 36 = .inl (5, [2, 0, 0, 0, 0, 0]) := GI_s hG 36 rfl
    refine mx_J.step (sn_105 0) (fun _ _ => rfl) ?_
    have c9 : mx_J (tB l D b0 ad Hb tau) mt_105 (d + 6) 9 [some (.ref 1), some (xI x0)] [] h Post := by
      refine JcI (z := (-2)) (show mx_Sn _ _ 9 (mx_const (.int (-2)) 11) from sn_105 9) rfl ?_
      exact mx_J.ret (sn_105 11) (fun _ _ => rfl) (hP (-2) Z h hx hG fr_rf (by omega))
    refine Jif_lt (show mx_Sn _ _ 1 (mx_if_lt 9 4) from sn_105 1) (by omega) (fun q2 => ?_) (fun q2 => ?_)
    · skip
      exact c9 
    · skip
      refine mx_J.step (sn_105 4) (fun _ _ => rfl) ?_
      refine JcI (z := 1) (show mx_Sn _ _ 5 (mx_const (.int 1) 6) from sn_105 5) rfl ?_
      refine Jicmp_le (show mx_Sn _ _ 6 (mx_icmp_le 12 9) from sn_105 6) (by omega) (by omega) (fun q3 => ?_) (fun q3 => ?_)
      · skip
        refine mx_J.step (sn_105 12) (fun _ _ => rfl) ?_
        refine JgetR (g := 7) (b := 20) hx (show mx_Sn _ _ 13 (mx_getf 11 7 16) from sn_105 13) a1 s1 rfl rfl (hG.prr 1 7 rfl) ?_
        refine mx_J.step (sn_105 16) (fun _ _ => rfl) ?_
        refine JgetR (g := 12) (b := 36) hx (show mx_Sn _ _ 17 (mx_getf 11 12 20) from sn_105 17) a1 s1 rfl rfl (hG.prr 1 12 rfl) ?_
        have b7 : 0 ≤ Z 36 2 ∧ Z 36 2 ≤ 384 := hG.pr 36 2
        refine JgetI (g := 2) (z := Z 36 2) hx (show mx_Sn _ _ 20 (mx_getf 5 2 23) from sn_105 20) a36 s36 rfl rfl rfl ?_
        obtain ⟨Z8, h8, hc8, hx8, hG8, hf8⟩ := ct_15_20 (d := d + 0) (l := l) (D := D) (b0 := b0) (ad := ad) (Hb := Hb) (tau := tau) hx hG (show 0 ≤ Z 36 2 ∧ Z 36 2 ≤ 384 by omega)
        refine Jcv0 hx (show mx_Sn _ _ 23 (mx_callv 15 2 2 26) from sn_105 23) a20 s20 hc8 rfl rfl rfl ?_
        refine mx_J.step (sn_105 26) (fun _ _ => rfl) ?_
        have c47 : ∀ (k9_0 : Int), 0 ≤ k9_0 ∧ k9_0 ≤ 2147483647 → mx_J (tB l D b0 ad Hb tau) mt_105 (d + 6) 47 [some (.ref 1), some (xI x0)] [xI k9_0] h8 Post := by
          intro k9_0 f9_0
          exact mx_J.ret (sn_105 47) (fun _ _ => rfl) (hP k9_0 Z8 h8 hx8 hG8 (fr_tr (M := [(14, (-1)), (16, (-1)), (17, (-1)), (18, (-1)), (19, (-1)), (20, 6), (20, 7), (21, (-1)), (22, (-1))]) fr_rf (hf8) (M1 := []) rfl rfl) (by omega))
        refine Jif_ne (show mx_Sn _ _ 27 (mx_if_ne 40 30) from sn_105 27) (by omega) (fun q10 => ?_) (fun q10 => ?_)
        · skip
          refine mx_J.step (sn_105 40) (fun _ _ => rfl) ?_
          refine JgetR (g := 7) (b := 20) hx8 (show mx_Sn _ _ 41 (mx_getf 11 7 44) from sn_105 41) a1 s1 rfl rfl (hG8.prr 1 7 rfl) ?_
          have b13 : 1 ≤ Z8 20 7 ∧ Z8 20 7 ≤ 2147483647 := hG8.pr 20 7
          refine JgetI (g := 7) (z := Z8 20 7) hx8 (show mx_Sn _ _ 44 (mx_getf 2 7 47) from sn_105 44) a20 s20 rfl rfl rfl ?_
          exact c47 (Z8 20 7) (by omega)
        · skip
          refine mx_J.step (sn_105 30) (fun _ _ => rfl) ?_
          refine JgetR (g := 7) (b := 20) hx8 (show mx_Sn _ _ 31 (mx_getf 11 7 34) from sn_105 31) a1 s1 rfl rfl (hG8.prr 1 7 rfl) ?_
          have b16 : 0 ≤ Z8 20 6 ∧ Z8 20 6 ≤ 2147483647 := hG8.pr 20 6
          refine JgetI (g := 6) (z := Z8 20 6) hx8 (show mx_Sn _ _ 34 (mx_getf 2 6 37) from sn_105 34) a20 s20 rfl rfl rfl ?_
          refine mx_J.step (sn_105 37) (fun _ _ => rfl) ?_
          exact c47 (Z8 20 6) (by omega)
      · skip
        exact c9 
theorem ct_105_1 {l : Launch} {D : va_G} {b0 : Nat} {ad : Nat → Nat} {Hb : Heap} {tau : Nat → Int64} {d n s : Nat} {S : Nat → xS} {Z : xZ} {h : mx_H} (hx : XH n s S Z h) (hG : GI n S Z)  {x0 : Int} (p0 : (-2147483648) ≤ x0 ∧ x0 ≤ 2147483647) : ∃ (z : Int) (Z' : xZ) (h' : mx_H), mx_Ca (tB l D b0 ad Hb tau) (d + 7) 105 [.ref 1, xI x0] h (some (xI z), h') ∧ XH n s S Z' h' ∧ GI n S Z' ∧ fr' [(14, (-1)), (16, (-1)), (17, (-1)), (18, (-1)), (19, (-1)), (20, 6), (20, 7), (21, (-1)), (22, (-1))] Z Z' ∧ ((-2) ≤ z ∧ z ≤ 2147483647) := by
  obtain ⟨r, hca, z, Z', h', e, q⟩ := Jmt (B := tB l D b0 ad Hb tau) (M := mt_105) (mi := 105) (as := [.ref 1, xI x0]) (d := d + 6) (ls := [some (.ref 1), some (xI x0)]) rfl rfl rfl rfl rfl rfl (cw_105_1 (l := l) (D := D) (b0 := b0) (ad := ad) (Hb := Hb) (tau := tau) (d := d) (Post := fun r => ∃ (z : Int) (Z' : xZ) (h' : mx_H), r = (some (xI z), h') ∧ XH n s S Z' h' ∧ GI n S Z' ∧ fr' [(14, (-1)), (16, (-1)), (17, (-1)), (18, (-1)), (19, (-1)), (20, 6), (20, 7), (21, (-1)), (22, (-1))] Z Z' ∧ ((-2) ≤ z ∧ z ≤ 2147483647)) hx hG p0 (fun z Z' h' q1 q2 q3 q4 => ⟨z, Z', h', rfl, q1, q2, q3, q4⟩))
  subst e; exact ⟨z, Z', h', hca, q⟩
set_option maxRecDepth 100000 in
theorem cw_106_1 {l : Launch} {D : va_G} {b0 : Nat} {ad : Nat → Nat} {Hb : Heap} {tau : Nat → Int64} {d n s : Nat} {S : Nat → xS} {Z : xZ} {h : mx_H} {Post : mx_R → Prop} (hx : XH n s S Z h) (hG : GI n S Z)  {x0 : Int} (p0 : (-2147483648) ≤ x0 ∧ x0 ≤ 2147483647) (hP : ∀ (z : Int) (Z' : xZ) (h' : mx_H), XH n s S Z' h' → GI n S Z' → fr' [(14, (-1)), (16, (-1)), (17, (-1)), (18, (-1)), (19, (-1)), (20, 8), (20, 9), (20, 10), (20, 11), (21, (-1)), (22, (-1)), (23, (-1)), (24, (-1))] Z Z' → (-2147483648) ≤ z ∧ z ≤ 2147483647 → Post (some (xI z), h')) : mx_J (tB l D b0 ad Hb tau) mt_106 (d + 7) 0 [some (.ref 1), some (xI x0)] [] h Post := by
    have a1 : 1 < n := lt83 (GI_n hG) rfl
    have s1 : S 1 = .inl (11, [2, 0, 0, 0, 2, 2, 2, 2, 2, 2, 2, 2, 2, 2, 2, 2, 2]) := GI_s hG 1 rfl
    have a7 : 7 < n := lt83 (GI_n hG) rfl
    have s7 : S 7 = .inl (0, [2, 2, 2, 2, 0, 0]) := GI_s hG 7 rfl
    have a20 : 20 < n := lt83 (GI_n hG) rfl
    have s20 : S 20 = .inl (2, [2, 2, 2, 2, 2, 2, 0, 0, 0, 0, 0, 0]) := GI_s hG 20 rfl
    have a36 : 36 < n := lt83 (GI_n hG) rfl
    have s36 : S 36 = .inl (5, [2, 0, 0, 0, 0, 0]) := GI_s hG 36 rfl
    refine mx_J.step (sn_106 0) (fun _ _ => rfl) ?_
    have c9 : mx_J (tB l D b0 ad Hb tau) mt_106 (d + 7) 9 [some (.ref 1), some (xI x0)] [] h Post := by
      refine JcI (z := (-2)) (show mx_Sn _ _ 9 (mx_const (.int (-2)) 11) from sn_106 9) rfl ?_
      exact mx_J.ret (sn_106 11) (fun _ _ => rfl) (hP (-2) Z h hx hG fr_rf (by omega))
    refine Jif_lt (show mx_Sn _ _ 1 (mx_if_lt 9 4) from sn_106 1) (by omega) (fun q2 => ?_) (fun q2 => ?_)
    · skip
      exact c9 
    · skip
      refine mx_J.step (sn_106 4) (fun _ _ => rfl) ?_
      refine JcI (z := 5) (show mx_Sn _ _ 5 (mx_const (.int 5) 6) from sn_106 5) rfl ?_
      refine Jicmp_le (show mx_Sn _ _ 6 (mx_icmp_le 12 9) from sn_106 6) (by omega) (by omega) (fun q3 => ?_) (fun q3 => ?_)
      · skip
        refine mx_J.step (sn_106 12) (fun _ _ => rfl) ?_
        refine Jif_ne (show mx_Sn _ _ 13 (mx_if_ne 24 16) from sn_106 13) (by omega) (fun q4 => ?_) (fun q4 => ?_)
        · skip
          refine mx_J.step (sn_106 24) (fun _ _ => rfl) ?_
          refine JgetR (g := 7) (b := 20) hx (show mx_Sn _ _ 25 (mx_getf 11 7 28) from sn_106 25) a1 s1 rfl rfl (hG.prr 1 7 rfl) ?_
          obtain ⟨Z6, h6, hc6, hx6, hG6, hf6⟩ := ct_18_20 (d := d + 0) (l := l) (D := D) (b0 := b0) (ad := ad) (Hb := Hb) (tau := tau) hx hG 
          refine Jcv0 hx (show mx_Sn _ _ 28 (mx_callv 18 1 2 31) from sn_106 28) a20 s20 hc6 rfl rfl rfl ?_
          refine mx_J.step (sn_106 31) (fun _ _ => rfl) ?_
          refine Jtsw (z := x0) (show mx_Sn _ _ 32 (mx_tsw 1 4 [64, 72, 80, 88] 96) from sn_106 32) (by omega) (fun q7 => ?_) (fun q7 => ?_)
          · skip
            refine mx_J.step (sn_106 96) (fun _ _ => rfl) ?_
            refine JgetR (g := 7) (b := 20) hx6 (show mx_Sn _ _ 97 (mx_getf 11 7 100) from sn_106 97) a1 s1 rfl rfl (hG6.prr 1 7 rfl) ?_
            refine mx_J.step (sn_106 100) (fun _ _ => rfl) ?_
            refine JgetR (g := 12) (b := 36) hx6 (show mx_Sn _ _ 101 (mx_getf 11 12 104) from sn_106 101) a1 s1 rfl rfl (hG6.prr 1 12 rfl) ?_
            have b11 : 0 ≤ Z 36 2 ∧ Z 36 2 ≤ 384 := hG.pr 36 2
            refine JgetI (g := 2) (z := Z 36 2) hx6 (show mx_Sn _ _ 104 (mx_getf 5 2 107) from sn_106 104) a36 s36 rfl rfl (hf6 36 2 rfl) ?_
            obtain ⟨z12, hc12, b12⟩ := ct_21_20 (d := d + 6) (l := l) (D := D) (b0 := b0) (ad := ad) (Hb := Hb) (tau := tau) hx6 hG6 (show 0 ≤ Z 36 2 ∧ Z 36 2 ≤ 384 by omega)
            refine Jcv hx6 (show mx_Sn _ _ 107 (mx_callv 21 2 2 110) from sn_106 107) a20 s20 hc12 rfl rfl rfl ?_
            exact mx_J.ret (sn_106 110) (fun _ _ => rfl) (hP z12 Z6 h6 hx6 hG6 (fr_tr (M := [(14, (-1)), (16, (-1)), (17, (-1)), (18, (-1)), (19, (-1)), (20, 8), (20, 9), (20, 10), (20, 11), (21, (-1)), (22, (-1)), (23, (-1)), (24, (-1))]) fr_rf (hf6) (M1 := []) rfl rfl) (by omega))
          · skip
            have e7 : x0 = 1 ∨ x0 = 2 ∨ x0 = 3 ∨ x0 = 4 := by omega
            rcases e7 with e7 | e7 | e7 | e7
            · refine ⟨64, by rw [e7]; rfl, ?_⟩
              refine mx_J.step (sn_106 64) (fun _ _ => rfl) ?_
              refine JgetR (g := 7) (b := 20) hx6 (show mx_Sn _ _ 65 (mx_getf 11 7 68) from sn_106 65) a1 s1 rfl rfl (hG6.prr 1 7 rfl) ?_
              have b15 : (-2147483648) ≤ Z6 20 8 ∧ Z6 20 8 ≤ 2147483647 := hG6.pr 20 8
              refine JgetI (g := 8) (z := Z6 20 8) hx6 (show mx_Sn _ _ 68 (mx_getf 2 8 71) from sn_106 68) a20 s20 rfl rfl rfl ?_
              exact mx_J.ret (sn_106 71) (fun _ _ => rfl) (hP (Z6 20 8) Z6 h6 hx6 hG6 (fr_tr (M := [(14, (-1)), (16, (-1)), (17, (-1)), (18, (-1)), (19, (-1)), (20, 8), (20, 9), (20, 10), (20, 11), (21, (-1)), (22, (-1)), (23, (-1)), (24, (-1))]) fr_rf (hf6) (M1 := []) rfl rfl) (by omega))
            · refine ⟨72, by rw [e7]; rfl, ?_⟩
              refine mx_J.step (sn_106 72) (fun _ _ => rfl) ?_
              refine JgetR (g := 7) (b := 20) hx6 (show mx_Sn _ _ 73 (mx_getf 11 7 76) from sn_106 73) a1 s1 rfl rfl (hG6.prr 1 7 rfl) ?_
              have b18 : (-2147483648) ≤ Z6 20 9 ∧ Z6 20 9 ≤ 2147483647 := hG6.pr 20 9
              refine JgetI (g := 9) (z := Z6 20 9) hx6 (show mx_Sn _ _ 76 (mx_getf 2 9 79) from sn_106 76) a20 s20 rfl rfl rfl ?_
              exact mx_J.ret (sn_106 79) (fun _ _ => rfl) (hP (Z6 20 9) Z6 h6 hx6 hG6 (fr_tr (M := [(14, (-1)), (16, (-1)), (17, (-1)), (18, (-1)), (19, (-1)), (20, 8), (20, 9), (20, 10), (20, 11), (21, (-1)), (22, (-1)), (23, (-1)), (24, (-1))]) fr_rf (hf6) (M1 := []) rfl rfl) (by omega))
            · refine ⟨80, by rw [e7]; rfl, ?_⟩
              refine mx_J.step (sn_106 80) (fun _ _ => rfl) ?_
              refine JgetR (g := 7) (b := 20) hx6 (show mx_Sn _ _ 81 (mx_getf 11 7 84) from sn_106 81) a1 s1 rfl rfl (hG6.prr 1 7 rfl) ?_
              have b21 : (-2147483648) ≤ Z6 20 10 ∧ Z6 20 10 ≤ 2147483647 := hG6.pr 20 10
              refine JgetI (g := 10) (z := Z6 20 10) hx6 (show mx_Sn _ _ 84 (mx_getf 2 10 87) from sn_106 84) a20 s20 rfl rfl rfl ?_
              exact mx_J.ret (sn_106 87) (fun _ _ => rfl) (hP (Z6 20 10) Z6 h6 hx6 hG6 (fr_tr (M := [(14, (-1)), (16, (-1)), (17, (-1)), (18, (-1)), (19, (-1)), (20, 8), (20, 9), (20, 10), (20, 11), (21, (-1)), (22, (-1)), (23, (-1)), (24, (-1))]) fr_rf (hf6) (M1 := []) rfl rfl) (by omega))
            · refine ⟨88, by rw [e7]; rfl, ?_⟩
              refine mx_J.step (sn_106 88) (fun _ _ => rfl) ?_
              refine JgetR (g := 7) (b := 20) hx6 (show mx_Sn _ _ 89 (mx_getf 11 7 92) from sn_106 89) a1 s1 rfl rfl (hG6.prr 1 7 rfl) ?_
              have b24 : (-2147483648) ≤ Z6 20 11 ∧ Z6 20 11 ≤ 2147483647 := hG6.pr 20 11
              refine JgetI (g := 11) (z := Z6 20 11) hx6 (show mx_Sn _ _ 92 (mx_getf 2 11 95) from sn_106 92) a20 s20 rfl rfl rfl ?_
              exact mx_J.ret (sn_106 95) (fun _ _ => rfl) (hP (Z6 20 11) Z6 h6 hx6 hG6 (fr_tr (M := [(14, (-1)), (16, (-1)), (17, (-1)), (18, (-1)), (19, (-1)), (20, 8), (20, 9), (20, 10), (20, 11), (21, (-1)), (22, (-1)), (23, (-1)), (24, (-1))]) fr_rf (hf6) (M1 := []) rfl rfl) (by omega))
        · skip
          refine mx_J.step (sn_106 16) (fun _ _ => rfl) ?_
          refine JgetR (g := 5) (b := 7) hx (show mx_Sn _ _ 17 (mx_getf 11 5 20) from sn_106 17) a1 s1 rfl rfl (hG.prr 1 5 rfl) ?_
          have b27 : 0 ≤ Z 7 5 ∧ Z 7 5 ≤ 385 := hG.pr 7 5
          refine JgetI (g := 5) (z := Z 7 5) hx (show mx_Sn _ _ 20 (mx_getf 0 5 23) from sn_106 20) a7 s7 rfl rfl rfl ?_
          exact mx_J.ret (sn_106 23) (fun _ _ => rfl) (hP (Z 7 5) Z h hx hG fr_rf (by omega))
      · skip
        exact c9 
theorem ct_106_1 {l : Launch} {D : va_G} {b0 : Nat} {ad : Nat → Nat} {Hb : Heap} {tau : Nat → Int64} {d n s : Nat} {S : Nat → xS} {Z : xZ} {h : mx_H} (hx : XH n s S Z h) (hG : GI n S Z)  {x0 : Int} (p0 : (-2147483648) ≤ x0 ∧ x0 ≤ 2147483647) : ∃ (z : Int) (Z' : xZ) (h' : mx_H), mx_Ca (tB l D b0 ad Hb tau) (d + 8) 106 [.ref 1, xI x0] h (some (xI z), h') ∧ XH n s S Z' h' ∧ GI n S Z' ∧ fr' [(14, (-1)), (16, (-1)), (17, (-1)), (18, (-1)), (19, (-1)), (20, 8), (20, 9), (20, 10), (20, 11), (21, (-1)), (22, (-1)), (23, (-1)), (24, (-1))] Z Z' ∧ ((-2147483648) ≤ z ∧ z ≤ 2147483647) := by
  obtain ⟨r, hca, z, Z', h', e, q⟩ := Jmt (B := tB l D b0 ad Hb tau) (M := mt_106) (mi := 106) (as := [.ref 1, xI x0]) (d := d + 7) (ls := [some (.ref 1), some (xI x0)]) rfl rfl rfl rfl rfl rfl (cw_106_1 (l := l) (D := D) (b0 := b0) (ad := ad) (Hb := Hb) (tau := tau) (d := d) (Post := fun r => ∃ (z : Int) (Z' : xZ) (h' : mx_H), r = (some (xI z), h') ∧ XH n s S Z' h' ∧ GI n S Z' ∧ fr' [(14, (-1)), (16, (-1)), (17, (-1)), (18, (-1)), (19, (-1)), (20, 8), (20, 9), (20, 10), (20, 11), (21, (-1)), (22, (-1)), (23, (-1)), (24, (-1))] Z Z' ∧ ((-2147483648) ≤ z ∧ z ≤ 2147483647)) hx hG p0 (fun z Z' h' q1 q2 q3 q4 => ⟨z, Z', h', rfl, q1, q2, q3, q4⟩))
  subst e; exact ⟨z, Z', h', hca, q⟩
set_option maxRecDepth 100000 in
theorem cw_107_1 {l : Launch} {D : va_G} {b0 : Nat} {ad : Nat → Nat} {Hb : Heap} {tau : Nat → Int64} {d n s : Nat} {S : Nat → xS} {Z : xZ} {h : mx_H} {Post : mx_R → Prop} (hx : XH n s S Z h) (hG : GI n S Z)  {x0 : Int} (p0 : (-2147483648) ≤ x0 ∧ x0 ≤ 2147483647) (hP : ∀ (z : Int) (Z' : xZ) (h' : mx_H), XH n s S Z' h' → GI n S Z' → fr' [(14, (-1)), (16, (-1)), (17, (-1)), (18, (-1)), (19, (-1))] Z Z' → (-2147483648) ≤ z ∧ z ≤ 2147483647 → Post (some (xI z), h')) : mx_J (tB l D b0 ad Hb tau) mt_107 (d + 6) 0 [some (.ref 1), some (xI x0)] [] h Post := by
    have a1 : 1 < n := lt83 (GI_n hG) rfl
    have s1 : S 1 = .inl (11, [2, 0, 0, 0, 2, 2, 2, 2, 2, 2, 2, 2, 2, 2, 2, 2, 2]) := GI_s hG 1 rfl
    have a20 : 20 < n := lt83 (GI_n hG) rfl
    have s20 : S 20 = .inl (2, [2, 2, 2, 2, 2, 2, 0, 0, 0, 0, 0, 0]) := GI_s hG 20 rfl
    have a36 : 36 < n := lt83 (GI_n hG) rfl
    have s36 : S 36 = .inl (5, [2, 0, 0, 0, 0, 0]) := GI_s hG 36 rfl
    refine mx_J.step (sn_107 0) (fun _ _ => rfl) ?_
    have c10 : mx_J (tB l D b0 ad Hb tau) mt_107 (d + 6) 10 [some (.ref 1), some (xI x0)] [] h Post := by
      refine JcI (z := (-3)) (show mx_Sn _ _ 10 (mx_const (.int (-3)) 12) from sn_107 10) rfl ?_
      exact mx_J.ret (sn_107 12) (fun _ _ => rfl) (hP (-3) Z h hx hG fr_rf (by omega))
    refine Jif_lt (show mx_Sn _ _ 1 (mx_if_lt 10 4) from sn_107 1) (by omega) (fun q2 => ?_) (fun q2 => ?_)
    · skip
      exact c10 
    · skip
      refine mx_J.step (sn_107 4) (fun _ _ => rfl) ?_
      refine JcI (z := 9) (show mx_Sn _ _ 5 (mx_const (.int 9) 7) from sn_107 5) rfl ?_
      refine Jicmp_le (show mx_Sn _ _ 7 (mx_icmp_le 13 10) from sn_107 7) (by omega) (by omega) (fun q3 => ?_) (fun q3 => ?_)
      · skip
        refine mx_J.step (sn_107 13) (fun _ _ => rfl) ?_
        refine JgetR (g := 7) (b := 20) hx (show mx_Sn _ _ 14 (mx_getf 11 7 17) from sn_107 14) a1 s1 rfl rfl (hG.prr 1 7 rfl) ?_
        refine mx_J.step (sn_107 17) (fun _ _ => rfl) ?_
        refine JgetR (g := 12) (b := 36) hx (show mx_Sn _ _ 18 (mx_getf 11 12 21) from sn_107 18) a1 s1 rfl rfl (hG.prr 1 12 rfl) ?_
        have b7 : 0 ≤ Z 36 2 ∧ Z 36 2 ≤ 384 := hG.pr 36 2
        refine JgetI (g := 2) (z := Z 36 2) hx (show mx_Sn _ _ 21 (mx_getf 5 2 24) from sn_107 21) a36 s36 rfl rfl rfl ?_
        refine mx_J.step (sn_107 24) (fun _ _ => rfl) ?_
        obtain ⟨z8, Z8, h8, hc8, hx8, hG8, hf8, b8⟩ := ct_17_20 (d := d + 0) (l := l) (D := D) (b0 := b0) (ad := ad) (Hb := Hb) (tau := tau) hx hG (show (-2147483648) ≤ Z 36 2 ∧ Z 36 2 ≤ 2147483647 by omega) (show 0 ≤ x0 ∧ x0 ≤ 9 by omega)
        refine Jcv hx (show mx_Sn _ _ 25 (mx_callv 17 3 2 28) from sn_107 25) a20 s20 hc8 rfl rfl rfl ?_
        exact mx_J.ret (sn_107 28) (fun _ _ => rfl) (hP z8 Z8 h8 hx8 hG8 (fr_tr (M := [(14, (-1)), (16, (-1)), (17, (-1)), (18, (-1)), (19, (-1))]) fr_rf (hf8) (M1 := []) rfl rfl) (by omega))
      · skip
        exact c10 
theorem ct_107_1 {l : Launch} {D : va_G} {b0 : Nat} {ad : Nat → Nat} {Hb : Heap} {tau : Nat → Int64} {d n s : Nat} {S : Nat → xS} {Z : xZ} {h : mx_H} (hx : XH n s S Z h) (hG : GI n S Z)  {x0 : Int} (p0 : (-2147483648) ≤ x0 ∧ x0 ≤ 2147483647) : ∃ (z : Int) (Z' : xZ) (h' : mx_H), mx_Ca (tB l D b0 ad Hb tau) (d + 7) 107 [.ref 1, xI x0] h (some (xI z), h') ∧ XH n s S Z' h' ∧ GI n S Z' ∧ fr' [(14, (-1)), (16, (-1)), (17, (-1)), (18, (-1)), (19, (-1))] Z Z' ∧ ((-2147483648) ≤ z ∧ z ≤ 2147483647) := by
  obtain ⟨r, hca, z, Z', h', e, q⟩ := Jmt (B := tB l D b0 ad Hb tau) (M := mt_107) (mi := 107) (as := [.ref 1, xI x0]) (d := d + 6) (ls := [some (.ref 1), some (xI x0)]) rfl rfl rfl rfl rfl rfl (cw_107_1 (l := l) (D := D) (b0 := b0) (ad := ad) (Hb := Hb) (tau := tau) (d := d) (Post := fun r => ∃ (z : Int) (Z' : xZ) (h' : mx_H), r = (some (xI z), h') ∧ XH n s S Z' h' ∧ GI n S Z' ∧ fr' [(14, (-1)), (16, (-1)), (17, (-1)), (18, (-1)), (19, (-1))] Z Z' ∧ ((-2147483648) ≤ z ∧ z ≤ 2147483647)) hx hG p0 (fun z Z' h' q1 q2 q3 q4 => ⟨z, Z', h', rfl, q1, q2, q3, q4⟩))
  subst e; exact ⟨z, Z', h', hca, q⟩
set_option maxRecDepth 100000 in
theorem cw_110_1 {l : Launch} {D : va_G} {b0 : Nat} {ad : Nat → Nat} {Hb : Heap} {tau : Nat → Int64} {d n s : Nat} {S : Nat → xS} {Z : xZ} {h : mx_H} {Post : mx_R → Prop} (hx : XH n s S Z h) (hG : GI n S Z)  {x0 x1 : Int} (p0 : (-2147483648) ≤ x0 ∧ x0 ≤ 2147483647) (p1 : (-2147483648) ≤ x1 ∧ x1 ≤ 2147483647) (hP : ∀ (z : Int) (Z' : xZ) (h' : mx_H), XH n s S Z' h' → GI n S Z' → fr' [(14, (-1)), (16, (-1)), (17, (-1)), (18, (-1)), (19, (-1)), (33, (-1))] Z Z' → (-9223372036854775808) ≤ z ∧ z ≤ 9223372036854775807 → Post (some (xL z), h')) : mx_J (tB l D b0 ad Hb tau) mt_110 (d + 5) 0 [some (.ref 1), some (xI x0), some (xI x1), none] [] h Post := by
    have a1 : 1 < n := lt83 (GI_n hG) rfl
    have s1 : S 1 = .inl (11, [2, 0, 0, 0, 2, 2, 2, 2, 2, 2, 2, 2, 2, 2, 2, 2, 2]) := GI_s hG 1 rfl
    have a32 : 32 < n := lt83 (GI_n hG) rfl
    have s32 : S 32 = .inl (9, [2, 2, 2]) := GI_s hG 32 rfl
    have a36 : 36 < n := lt83 (GI_n hG) rfl
    have s36 : S 36 = .inl (5, [2, 0, 0, 0, 0, 0]) := GI_s hG 36 rfl
    refine mx_J.step (sn_110 0) (fun _ _ => rfl) ?_
    refine JcI (z := 1) (show mx_Sn _ _ 1 (mx_const (.int 1) 2) from sn_110 1) rfl ?_
    have c21 : mx_J (tB l D b0 ad Hb tau) mt_110 (d + 5) 21 [some (.ref 1), some (xI x0), some (xI x1), none] [] h Post := by
      refine JcL (z := (-3)) (show mx_Sn _ _ 21 (mx_const (.long (-3)) 24) from sn_110 21) rfl ?_
      exact mx_J.ret (sn_110 24) (fun _ _ => rfl) (hP (-3) Z h hx hG fr_rf (by omega))
    refine Jicmp_lt (show mx_Sn _ _ 2 (mx_icmp_lt 21 5) from sn_110 2) (by omega) (by omega) (fun q2 => ?_) (fun q2 => ?_)
    · skip
      exact c21 
    · skip
      refine mx_J.step (sn_110 5) (fun _ _ => rfl) ?_
      refine JcI (z := 18) (show mx_Sn _ _ 6 (mx_const (.int 18) 8) from sn_110 6) rfl ?_
      refine Jicmp_gt (show mx_Sn _ _ 8 (mx_icmp_gt 21 11) from sn_110 8) (by omega) (by omega) (fun q3 => ?_) (fun q3 => ?_)
      · skip
        exact c21 
      · skip
        refine mx_J.step (sn_110 11) (fun _ _ => rfl) ?_
        refine Jif_lt (show mx_Sn _ _ 12 (mx_if_lt 21 15) from sn_110 12) (by omega) (fun q4 => ?_) (fun q4 => ?_)
        · skip
          exact c21 
        · skip
          refine mx_J.step (sn_110 15) (fun _ _ => rfl) ?_
          refine JcI (z := 9) (show mx_Sn _ _ 16 (mx_const (.int 9) 18) from sn_110 16) rfl ?_
          refine Jicmp_le (show mx_Sn _ _ 18 (mx_icmp_le 25 21) from sn_110 18) (by omega) (by omega) (fun q5 => ?_) (fun q5 => ?_)
          · skip
            refine mx_J.step (sn_110 25) (fun _ _ => rfl) ?_
            refine JgetR (g := 9) (b := 32) hx (show mx_Sn _ _ 26 (mx_getf 11 9 29) from sn_110 26) a1 s1 rfl rfl (hG.prr 1 9 rfl) ?_
            refine mx_J.step (sn_110 29) (fun _ _ => rfl) ?_
            refine JgetR (g := 12) (b := 36) hx (show mx_Sn _ _ 30 (mx_getf 11 12 33) from sn_110 30) a1 s1 rfl rfl (hG.prr 1 12 rfl) ?_
            have b9 : 0 ≤ Z 36 2 ∧ Z 36 2 ≤ 384 := hG.pr 36 2
            refine JgetI (g := 2) (z := Z 36 2) hx (show mx_Sn _ _ 33 (mx_getf 5 2 36) from sn_110 33) a36 s36 rfl rfl rfl ?_
            obtain ⟨Z10, h10, hc10, hx10, hG10, hf10⟩ := ct_71_32 (d := d + 3) (l := l) (D := D) (b0 := b0) (ad := ad) (Hb := Hb) (tau := tau) hx hG (show (-2147483648) ≤ Z 36 2 ∧ Z 36 2 ≤ 2147483647 by omega)
            refine Jcv0 hx (show mx_Sn _ _ 36 (mx_callv 71 2 9 39) from sn_110 36) a32 s32 hc10 rfl rfl rfl ?_
            refine JcI (z := 0) (show mx_Sn _ _ 39 (mx_const (.int 0) 40) from sn_110 39) rfl ?_
            refine mx_J.step (ls2 := [some (.ref 1), some (xI x0), some (xI x1), some (xI 0)]) (sn_110 40) (fun _ _ => rfl) ?_
            have c41 : ∀ (m11 : Nat) (w11_3 : Int) (Z12 : xZ) (h12 : mx_H), 9 - w11_3 < (m11 : Int) → 0 ≤ w11_3 ∧ w11_3 ≤ 9 → XH n s S Z12 h12 → GI n S Z12 → fr' [(14, (-1)), (16, (-1)), (17, (-1)), (18, (-1)), (19, (-1)), (33, (-1))] Z10 Z12 → mx_J (tB l D b0 ad Hb tau) mt_110 (d + 5) 41 [some (.ref 1), some (xI x0), some (xI x1), some (xI w11_3)] [] h12 Post := by
              intro m11
              induction m11 with
              | zero => intro w11_3 Z12 h12 q11 f11_0 hx12 hG12 hf12; exact absurd q11 (by omega)
              | succ m11 ih11 =>
                intro w11_3 Z12 h12 q11 f11_0 hx12 hG12 hf12
                refine mx_J.step (sn_110 41) (fun _ _ => rfl) ?_
                refine mx_J.step (sn_110 42) (fun _ _ => rfl) ?_
                refine Jicmp_ge (show mx_Sn _ _ 43 (mx_icmp_ge 61 46) from sn_110 43) (by omega) (by omega) (fun q13 => ?_) (fun q13 => ?_)
                · skip
                  refine mx_J.step (sn_110 61) (fun _ _ => rfl) ?_
                  refine JgetR (g := 9) (b := 32) hx12 (show mx_Sn _ _ 62 (mx_getf 11 9 65) from sn_110 62) a1 s1 rfl rfl (hG12.prr 1 9 rfl) ?_
                  refine mx_J.step (sn_110 65) (fun _ _ => rfl) ?_
                  refine mx_J.step (sn_110 66) (fun _ _ => rfl) ?_
                  refine mx_J.step (sn_110 67) (fun _ _ => rfl) ?_
                  obtain ⟨z15, hc15, b15⟩ := ct_75_32 (d := d + 3) (l := l) (D := D) (b0 := b0) (ad := ad) (Hb := Hb) (tau := tau) hx12 hG12 (show 0 ≤ x1 ∧ x1 ≤ 9 by omega) (show 1 ≤ x0 ∧ x0 ≤ 18 by omega) (show 1 ≤ x0 ∧ x0 ≤ 18 by omega)
                  refine Jcv hx12 (show mx_Sn _ _ 68 (mx_callv 75 4 9 71) from sn_110 68) a32 s32 hc15 rfl rfl rfl ?_
                  exact mx_J.ret (sn_110 71) (fun _ _ => rfl) (hP z15 Z12 h12 hx12 hG12 (fr_tr (M := [(14, (-1)), (16, (-1)), (17, (-1)), (18, (-1)), (19, (-1)), (33, (-1))]) (fr_tr (M := [(14, (-1)), (16, (-1)), (17, (-1)), (18, (-1)), (19, (-1)), (33, (-1))]) fr_rf (hf10) (M1 := []) rfl rfl) (hf12) rfl rfl) (by omega))
                · skip
                  refine mx_J.step (sn_110 46) (fun _ _ => rfl) ?_
                  refine JgetR (g := 9) (b := 32) hx12 (show mx_Sn _ _ 47 (mx_getf 11 9 50) from sn_110 47) a1 s1 rfl rfl (hG12.prr 1 9 rfl) ?_
                  refine mx_J.step (sn_110 50) (fun _ _ => rfl) ?_
                  refine JcI (z := (-1)) (show mx_Sn _ _ 51 (mx_const (.int (-1)) 52) from sn_110 51) rfl ?_
                  obtain ⟨Z17, h17, hc17, hx17, hG17, hf17⟩ := ct_73_32 (d := d + 0) (l := l) (D := D) (b0 := b0) (ad := ad) (Hb := Hb) (tau := tau) hx12 hG12 (show 0 ≤ w11_3 ∧ w11_3 ≤ 39 by omega) (show (-2147483648) ≤ (-1) ∧ (-1) ≤ 2147483647 by omega)
                  refine Jcv0 hx12 (show mx_Sn _ _ 52 (mx_callv 73 3 9 55) from sn_110 52) a32 s32 hc17 rfl rfl rfl ?_
                  refine Jiinc (z := w11_3) (cz := 1) (ls2 := [some (.ref 1), some (xI x0), some (xI x1), some (xI (w11_3 + 1))]) (show mx_Sn _ _ 55 (mx_iinc 3 1 58) from sn_110 55) rfl rfl rfl rfl ?_
                  refine mx_J.step (sn_110 58) (fun _ _ => rfl) ?_
                  exact ih11 (w11_3 + 1) Z17 h17 (by omega) (by omega) hx17 hG17 (fr_tr (M := [(14, (-1)), (16, (-1)), (17, (-1)), (18, (-1)), (19, (-1)), (33, (-1))]) (fr_tr (M := [(14, (-1)), (16, (-1)), (17, (-1)), (18, (-1)), (19, (-1)), (33, (-1))]) fr_rf (hf12) (M1 := []) rfl rfl) (hf17) rfl rfl)
            exact c41 (Int.toNat (9 - 0) + 1) 0 Z10 h10 (by omega) (by omega) hx10 hG10 fr_rf
          · skip
            exact c21 
theorem ct_110_1 {l : Launch} {D : va_G} {b0 : Nat} {ad : Nat → Nat} {Hb : Heap} {tau : Nat → Int64} {d n s : Nat} {S : Nat → xS} {Z : xZ} {h : mx_H} (hx : XH n s S Z h) (hG : GI n S Z)  {x0 x1 : Int} (p0 : (-2147483648) ≤ x0 ∧ x0 ≤ 2147483647) (p1 : (-2147483648) ≤ x1 ∧ x1 ≤ 2147483647) : ∃ (z : Int) (Z' : xZ) (h' : mx_H), mx_Ca (tB l D b0 ad Hb tau) (d + 6) 110 [.ref 1, xI x0, xI x1] h (some (xL z), h') ∧ XH n s S Z' h' ∧ GI n S Z' ∧ fr' [(14, (-1)), (16, (-1)), (17, (-1)), (18, (-1)), (19, (-1)), (33, (-1))] Z Z' ∧ ((-9223372036854775808) ≤ z ∧ z ≤ 9223372036854775807) := by
  obtain ⟨r, hca, z, Z', h', e, q⟩ := Jmt (B := tB l D b0 ad Hb tau) (M := mt_110) (mi := 110) (as := [.ref 1, xI x0, xI x1]) (d := d + 5) (ls := [some (.ref 1), some (xI x0), some (xI x1), none]) rfl rfl rfl rfl rfl rfl (cw_110_1 (l := l) (D := D) (b0 := b0) (ad := ad) (Hb := Hb) (tau := tau) (d := d) (Post := fun r => ∃ (z : Int) (Z' : xZ) (h' : mx_H), r = (some (xL z), h') ∧ XH n s S Z' h' ∧ GI n S Z' ∧ fr' [(14, (-1)), (16, (-1)), (17, (-1)), (18, (-1)), (19, (-1)), (33, (-1))] Z Z' ∧ ((-9223372036854775808) ≤ z ∧ z ≤ 9223372036854775807)) hx hG p0 p1 (fun z Z' h' q1 q2 q3 q4 => ⟨z, Z', h', rfl, q1, q2, q3, q4⟩))
  subst e; exact ⟨z, Z', h', hca, q⟩
set_option maxRecDepth 100000 in
theorem cw_111_1 {l : Launch} {D : va_G} {b0 : Nat} {ad : Nat → Nat} {Hb : Heap} {tau : Nat → Int64} {d n s : Nat} {S : Nat → xS} {Z : xZ} {h : mx_H} {Post : mx_R → Prop} (hx : XH n s S Z h) (hG : GI n S Z)  {x0 : Int} (p0 : (-2147483648) ≤ x0 ∧ x0 ≤ 2147483647) (hP : ∀ (z : Int) (Z' : xZ) (h' : mx_H), XH n s S Z' h' → GI n S Z' → fr' [(14, (-1)), (16, (-1)), (17, (-1)), (18, (-1)), (19, (-1)), (29, (-1))] Z Z' → (-2147483648) ≤ z ∧ z ≤ 2147483647 → Post (some (xI z), h')) : mx_J (tB l D b0 ad Hb tau) mt_111 (d + 6) 0 [some (.ref 1), some (xI x0)] [] h Post := by
    have a1 : 1 < n := lt83 (GI_n hG) rfl
    have s1 : S 1 = .inl (11, [2, 0, 0, 0, 2, 2, 2, 2, 2, 2, 2, 2, 2, 2, 2, 2, 2]) := GI_s hG 1 rfl
    have a25 : 25 < n := lt83 (GI_n hG) rfl
    have s25 : S 25 = .inl (8, [2, 2, 2, 2, 2, 2, 2, 2, 0]) := GI_s hG 25 rfl
    have a36 : 36 < n := lt83 (GI_n hG) rfl
    have s36 : S 36 = .inl (5, [2, 0, 0, 0, 0, 0]) := GI_s hG 36 rfl
    refine mx_J.step (sn_111 0) (fun _ _ => rfl) ?_
    refine JcI (z := 1) (show mx_Sn _ _ 1 (mx_const (.int 1) 2) from sn_111 1) rfl ?_
    have c11 : mx_J (tB l D b0 ad Hb tau) mt_111 (d + 6) 11 [some (.ref 1), some (xI x0)] [] h Post := by
      refine JcI (z := (-3)) (show mx_Sn _ _ 11 (mx_const (.int (-3)) 13) from sn_111 11) rfl ?_
      exact mx_J.ret (sn_111 13) (fun _ _ => rfl) (hP (-3) Z h hx hG fr_rf (by omega))
    refine Jicmp_lt (show mx_Sn _ _ 2 (mx_icmp_lt 11 5) from sn_111 2) (by omega) (by omega) (fun q2 => ?_) (fun q2 => ?_)
    · skip
      exact c11 
    · skip
      refine mx_J.step (sn_111 5) (fun _ _ => rfl) ?_
      refine JcI (z := 18) (show mx_Sn _ _ 6 (mx_const (.int 18) 8) from sn_111 6) rfl ?_
      refine Jicmp_le (show mx_Sn _ _ 8 (mx_icmp_le 14 11) from sn_111 8) (by omega) (by omega) (fun q3 => ?_) (fun q3 => ?_)
      · skip
        refine mx_J.step (sn_111 14) (fun _ _ => rfl) ?_
        refine JgetR (g := 8) (b := 25) hx (show mx_Sn _ _ 15 (mx_getf 11 8 18) from sn_111 15) a1 s1 rfl rfl (hG.prr 1 8 rfl) ?_
        refine mx_J.step (sn_111 18) (fun _ _ => rfl) ?_
        refine JgetR (g := 12) (b := 36) hx (show mx_Sn _ _ 19 (mx_getf 11 12 22) from sn_111 19) a1 s1 rfl rfl (hG.prr 1 12 rfl) ?_
        have b7 : 0 ≤ Z 36 2 ∧ Z 36 2 ≤ 384 := hG.pr 36 2
        refine JgetI (g := 2) (z := Z 36 2) hx (show mx_Sn _ _ 22 (mx_getf 5 2 25) from sn_111 22) a36 s36 rfl rfl rfl ?_
        refine mx_J.step (sn_111 25) (fun _ _ => rfl) ?_
        obtain ⟨z8, Z8, h8, hc8, hx8, hG8, hf8, b8⟩ := ct_64_25 (d := d + 0) (l := l) (D := D) (b0 := b0) (ad := ad) (Hb := Hb) (tau := tau) hx hG (show 0 ≤ Z 36 2 ∧ Z 36 2 ≤ 384 by omega) (show 1 ≤ x0 ∧ x0 ≤ 18 by omega)
        refine Jcv hx (show mx_Sn _ _ 26 (mx_callv 64 3 8 29) from sn_111 26) a25 s25 hc8 rfl rfl rfl ?_
        exact mx_J.ret (sn_111 29) (fun _ _ => rfl) (hP z8 Z8 h8 hx8 hG8 (fr_tr (M := [(14, (-1)), (16, (-1)), (17, (-1)), (18, (-1)), (19, (-1)), (29, (-1))]) fr_rf (hf8) (M1 := []) rfl rfl) (by omega))
      · skip
        exact c11 
theorem ct_111_1 {l : Launch} {D : va_G} {b0 : Nat} {ad : Nat → Nat} {Hb : Heap} {tau : Nat → Int64} {d n s : Nat} {S : Nat → xS} {Z : xZ} {h : mx_H} (hx : XH n s S Z h) (hG : GI n S Z)  {x0 : Int} (p0 : (-2147483648) ≤ x0 ∧ x0 ≤ 2147483647) : ∃ (z : Int) (Z' : xZ) (h' : mx_H), mx_Ca (tB l D b0 ad Hb tau) (d + 7) 111 [.ref 1, xI x0] h (some (xI z), h') ∧ XH n s S Z' h' ∧ GI n S Z' ∧ fr' [(14, (-1)), (16, (-1)), (17, (-1)), (18, (-1)), (19, (-1)), (29, (-1))] Z Z' ∧ ((-2147483648) ≤ z ∧ z ≤ 2147483647) := by
  obtain ⟨r, hca, z, Z', h', e, q⟩ := Jmt (B := tB l D b0 ad Hb tau) (M := mt_111) (mi := 111) (as := [.ref 1, xI x0]) (d := d + 6) (ls := [some (.ref 1), some (xI x0)]) rfl rfl rfl rfl rfl rfl (cw_111_1 (l := l) (D := D) (b0 := b0) (ad := ad) (Hb := Hb) (tau := tau) (d := d) (Post := fun r => ∃ (z : Int) (Z' : xZ) (h' : mx_H), r = (some (xI z), h') ∧ XH n s S Z' h' ∧ GI n S Z' ∧ fr' [(14, (-1)), (16, (-1)), (17, (-1)), (18, (-1)), (19, (-1)), (29, (-1))] Z Z' ∧ ((-2147483648) ≤ z ∧ z ≤ 2147483647)) hx hG p0 (fun z Z' h' q1 q2 q3 q4 => ⟨z, Z', h', rfl, q1, q2, q3, q4⟩))
  subst e; exact ⟨z, Z', h', hca, q⟩
set_option maxRecDepth 100000 in
theorem cw_112_1 {l : Launch} {D : va_G} {b0 : Nat} {ad : Nat → Nat} {Hb : Heap} {tau : Nat → Int64} {d n s : Nat} {S : Nat → xS} {Z : xZ} {h : mx_H} {Post : mx_R → Prop} (hx : XH n s S Z h) (hG : GI n S Z)   (hP : ∀ (z : Int) (Z' : xZ) (h' : mx_H), XH n s S Z' h' → GI n S Z' → fr' [(14, (-1)), (16, (-1)), (17, (-1)), (18, (-1)), (19, (-1)), (25, 8), (26, (-1)), (27, (-1)), (28, (-1)), (29, (-1))] Z Z' → 0 ≤ z ∧ z ≤ 385 → Post (some (xI z), h')) : mx_J (tB l D b0 ad Hb tau) mt_112 (d + 6) 0 [some (.ref 1)] [] h Post := by
    have a1 : 1 < n := lt83 (GI_n hG) rfl
    have s1 : S 1 = .inl (11, [2, 0, 0, 0, 2, 2, 2, 2, 2, 2, 2, 2, 2, 2, 2, 2, 2]) := GI_s hG 1 rfl
    have a25 : 25 < n := lt83 (GI_n hG) rfl
    have s25 : S 25 = .inl (8, [2, 2, 2, 2, 2, 2, 2, 2, 0]) := GI_s hG 25 rfl
    have a36 : 36 < n := lt83 (GI_n hG) rfl
    have s36 : S 36 = .inl (5, [2, 0, 0, 0, 0, 0]) := GI_s hG 36 rfl
    refine mx_J.step (sn_112 0) (fun _ _ => rfl) ?_
    refine JgetR (g := 8) (b := 25) hx (show mx_Sn _ _ 1 (mx_getf 11 8 4) from sn_112 1) a1 s1 rfl rfl (hG.prr 1 8 rfl) ?_
    refine mx_J.step (sn_112 4) (fun _ _ => rfl) ?_
    refine JgetR (g := 12) (b := 36) hx (show mx_Sn _ _ 5 (mx_getf 11 12 8) from sn_112 5) a1 s1 rfl rfl (hG.prr 1 12 rfl) ?_
    have b4 : 0 ≤ Z 36 2 ∧ Z 36 2 ≤ 384 := hG.pr 36 2
    refine JgetI (g := 2) (z := Z 36 2) hx (show mx_Sn _ _ 8 (mx_getf 5 2 11) from sn_112 8) a36 s36 rfl rfl rfl ?_
    refine JcI (z := (-1)) (show mx_Sn _ _ 11 (mx_const (.int (-1)) 12) from sn_112 11) rfl ?_
    obtain ⟨z5, Z5, h5, hc5, hx5, hG5, hf5, b5⟩ := ct_61_25 (d := d + 0) (l := l) (D := D) (b0 := b0) (ad := ad) (Hb := Hb) (tau := tau) hx hG (show 0 ≤ Z 36 2 ∧ Z 36 2 ≤ 384 by omega) (show (-1) ≤ (-1) ∧ (-1) ≤ 384 by omega)
    refine Jcv hx (show mx_Sn _ _ 12 (mx_callv 61 3 8 15) from sn_112 12) a25 s25 hc5 rfl rfl rfl ?_
    refine mx_J.step (sn_112 15) (fun _ _ => rfl) ?_
    refine mx_J.step (sn_112 16) (fun _ _ => rfl) ?_
    refine JgetR (g := 8) (b := 25) hx5 (show mx_Sn _ _ 17 (mx_getf 11 8 20) from sn_112 17) a1 s1 rfl rfl (hG5.prr 1 8 rfl) ?_
    have b8 : 0 ≤ Z5 25 8 ∧ Z5 25 8 ≤ 385 := hG5.pr 25 8
    refine JgetI (g := 8) (z := Z5 25 8) hx5 (show mx_Sn _ _ 20 (mx_getf 8 8 23) from sn_112 20) a25 s25 rfl rfl rfl ?_
    exact mx_J.ret (sn_112 23) (fun _ _ => rfl) (hP (Z5 25 8) Z5 h5 hx5 hG5 (fr_tr (M := [(14, (-1)), (16, (-1)), (17, (-1)), (18, (-1)), (19, (-1)), (25, 8), (26, (-1)), (27, (-1)), (28, (-1)), (29, (-1))]) fr_rf (hf5) (M1 := []) rfl rfl) (by omega))
theorem ct_112_1 {l : Launch} {D : va_G} {b0 : Nat} {ad : Nat → Nat} {Hb : Heap} {tau : Nat → Int64} {d n s : Nat} {S : Nat → xS} {Z : xZ} {h : mx_H} (hx : XH n s S Z h) (hG : GI n S Z)   : ∃ (z : Int) (Z' : xZ) (h' : mx_H), mx_Ca (tB l D b0 ad Hb tau) (d + 7) 112 [.ref 1] h (some (xI z), h') ∧ XH n s S Z' h' ∧ GI n S Z' ∧ fr' [(14, (-1)), (16, (-1)), (17, (-1)), (18, (-1)), (19, (-1)), (25, 8), (26, (-1)), (27, (-1)), (28, (-1)), (29, (-1))] Z Z' ∧ (0 ≤ z ∧ z ≤ 385) := by
  obtain ⟨r, hca, z, Z', h', e, q⟩ := Jmt (B := tB l D b0 ad Hb tau) (M := mt_112) (mi := 112) (as := [.ref 1]) (d := d + 6) (ls := [some (.ref 1)]) rfl rfl rfl rfl rfl rfl (cw_112_1 (l := l) (D := D) (b0 := b0) (ad := ad) (Hb := Hb) (tau := tau) (d := d) (Post := fun r => ∃ (z : Int) (Z' : xZ) (h' : mx_H), r = (some (xI z), h') ∧ XH n s S Z' h' ∧ GI n S Z' ∧ fr' [(14, (-1)), (16, (-1)), (17, (-1)), (18, (-1)), (19, (-1)), (25, 8), (26, (-1)), (27, (-1)), (28, (-1)), (29, (-1))] Z Z' ∧ (0 ≤ z ∧ z ≤ 385)) hx hG  (fun z Z' h' q1 q2 q3 q4 => ⟨z, Z', h', rfl, q1, q2, q3, q4⟩))
  subst e; exact ⟨z, Z', h', hca, q⟩
