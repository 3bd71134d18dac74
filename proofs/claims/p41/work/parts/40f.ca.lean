set_option maxRecDepth 100000 in
theorem cw_101_1_i3 {l : Launch} {D : va_G} {b0 : Nat} {ad : Nat → Nat} {Hb : Heap} {tau : Nat → Int64} {d n s : Nat} {S : Nat → xS} {Z : xZ} {h : mx_H} {Post : mx_R → Prop} (hx : XH n s S Z h) (hG : GI n S Z)  {x1 : Int} (p1 : (-2147483648) ≤ x1 ∧ x1 ≤ 2147483647) (hP : ∀ (z : Int) (Z' : xZ) (h' : mx_H), XH n s S Z' h' → GI n S Z' → fr' [(12, 2), (14, (-1)), (16, (-1)), (17, (-1)), (18, (-1)), (19, (-1)), (38, 0), (38, 1), (38, 2), (38, 3), (38, 4), (42, (-1))] Z Z' → (-6) ≤ z ∧ z ≤ 384 → Post (some (xI z), h')) : mx_J (tB l D b0 ad Hb tau) mt_101 (d + 7) 0 [some (.ref 1), some (xI 3), some (xI x1), none, none] [] h Post := by
    have a1 : 1 < n := lt83 (GI_n hG) rfl
    have s1 : S 1 = .inl (11, [2, 0, 0, 0, 2, 2, 2, 2, 2, 2, 2, 2, 2, 2, 2, 2, 2]) := GI_s hG 1 rfl
    have a7 : 7 < n := lt83 (GI_n hG) rfl
    have s7 : S 7 = .inl (0, [2, 2, 2, 2, 0, 0]) := GI_s hG 7 rfl
    have a12 : 12 < n := lt83 (GI_n hG) rfl
    have s12 : S 12 = .inl (4, [2, 2, 0, 2, 2, 2, 2, 2, 2]) := GI_s hG 12 rfl
    have a34 : 34 < n := lt83 (GI_n hG) rfl
    have s34 : S 34 = .inr ((.object "TitheHeap$Tray"), 4, 2) := GI_s hG 34 rfl
    have a36 : 36 < n := lt83 (GI_n hG) rfl
    have s36 : S 36 = .inl (5, [2, 0, 0, 0, 0, 0]) := GI_s hG 36 rfl
    have a38 : 38 < n := lt83 (GI_n hG) rfl
    have s38 : S 38 = .inl (5, [2, 0, 0, 0, 0, 0]) := GI_s hG 38 rfl
    have a50 : 50 < n := lt83 (GI_n hG) rfl
    have s50 : S 50 = .inl (10, [2, 0, 0, 0]) := GI_s hG 50 rfl
    refine mx_J.step (sn_101 0) (fun _ _ => rfl) ?_
    refine mx_J.step (sn_101 1) (fun _ _ => rfl) ?_
    obtain ⟨z1, hc1, b1⟩ := ct_144_1_y (d := d + 6) (l := l) (D := D) (b0 := b0) (ad := ad) (Hb := Hb) (tau := tau) hx hG (show 0 ≤ 3 ∧ 3 ≤ 3 by omega)
    refine Jcv hx (show mx_Sn _ _ 2 (mx_callv 144 2 11 5) from sn_101 2) a1 s1 hc1 rfl rfl rfl ?_
    have c17 : mx_J (tB l D b0 ad Hb tau) mt_101 (d + 7) 17 [some (.ref 1), some (xI 3), some (xI x1), none, none] [] h Post := by
      refine JcI (z := (-2)) (show mx_Sn _ _ 17 (mx_const (.int (-2)) 19) from sn_101 17) rfl ?_
      exact mx_J.ret (sn_101 19) (fun _ _ => rfl) (hP (-2) Z h hx hG fr_rf (by omega))
    refine Jif_ne (show mx_Sn _ _ 5 (mx_if_ne 17 8) from sn_101 5) (by omega) (fun q3 => ?_) (fun q3 => ?_)
    · skip
      exact c17 
    · skip
      refine mx_J.step (sn_101 8) (fun _ _ => rfl) ?_
      refine Jif_lt (show mx_Sn _ _ 9 (mx_if_lt 17 12) from sn_101 9) (by omega) (fun q4 => ?_) (fun q4 => ?_)
      · skip
        exact c17 
      · skip
        refine mx_J.step (sn_101 12) (fun _ _ => rfl) ?_
        refine JcI (z := 3) (show mx_Sn _ _ 13 (mx_const (.int 3) 14) from sn_101 13) rfl ?_
        refine Jicmp_le (show mx_Sn _ _ 14 (mx_icmp_le 20 17) from sn_101 14) (by omega) (by omega) (fun q5 => ?_) (fun q5 => ?_)
        · skip
          refine mx_J.step (sn_101 20) (fun _ _ => rfl) ?_
          refine JgetR (g := 10) (b := 34) hx (show mx_Sn _ _ 21 (mx_getf 11 10 24) from sn_101 21) a1 s1 rfl rfl (hG.prr 1 10 rfl) ?_
          refine mx_J.step (sn_101 24) (fun _ _ => rfl) ?_
          refine JaaldR (i := 3) (b := 50) hx (show mx_Sn _ _ 25 (mx_aald 26) from sn_101 25) a34 s34 (by omega) (show Z 34 3 = 50 by have hq := GI_ex hG 34 3; replace hq : ((0 : Int) ≤ 3 → (3 : Int) ≤ 3 → (Z 34 3) = 44 + 2 * 3) := hq; omega) ?_
          have b8 : 0 ≤ Z 50 3 ∧ Z 50 3 ≤ 1 := hG.pr 50 3
          refine JgetI (g := 3) (z := Z 50 3) hx (show mx_Sn _ _ 26 (mx_getf 10 3 29) from sn_101 26) a50 s50 rfl rfl rfl ?_
          refine Jif_eq (show mx_Sn _ _ 29 (mx_if_eq 35 32) from sn_101 29) (by omega) (fun q9 => ?_) (fun q9 => ?_)
          · skip
            refine mx_J.step (sn_101 35) (fun _ _ => rfl) ?_
            refine JgetR (g := 13) (b := 38) hx (show mx_Sn _ _ 36 (mx_getf 11 13 39) from sn_101 36) a1 s1 rfl rfl (hG.prr 1 13 rfl) ?_
            refine mx_J.step (sn_101 39) (fun _ _ => rfl) ?_
            refine JgetR (g := 12) (b := 36) hx (show mx_Sn _ _ 40 (mx_getf 11 12 43) from sn_101 40) a1 s1 rfl rfl (hG.prr 1 12 rfl) ?_
            obtain ⟨Z12, h12, hc12, hx12, hG12, hf12⟩ := ct_33_38_36 (d := d + 6) (l := l) (D := D) (b0 := b0) (ad := ad) (Hb := Hb) (tau := tau) hx hG 
            refine Jcv0 hx (show mx_Sn _ _ 43 (mx_callv 33 2 5 46) from sn_101 43) a38 s38 hc12 rfl rfl rfl ?_
            refine mx_J.step (sn_101 46) (fun _ _ => rfl) ?_
            refine mx_J.step (sn_101 47) (fun _ _ => rfl) ?_
            refine JgetR (g := 10) (b := 34) hx12 (show mx_Sn _ _ 48 (mx_getf 11 10 51) from sn_101 48) a1 s1 rfl rfl (hG12.prr 1 10 rfl) ?_
            refine mx_J.step (sn_101 51) (fun _ _ => rfl) ?_
            refine JaaldR (i := 3) (b := 50) hx12 (show mx_Sn _ _ 52 (mx_aald 53) from sn_101 52) a34 s34 (by omega) (show Z12 34 3 = 50 by have hq := GI_ex hG12 34 3; replace hq : ((0 : Int) ≤ 3 → (3 : Int) ≤ 3 → (Z12 34 3) = 44 + 2 * 3) := hq; omega) ?_
            obtain ⟨z14, Z14, h14, hc14, hx14, hG14, hf14, b14⟩ := ct_138_1_50 (d := d + 0) (l := l) (D := D) (b0 := b0) (ad := ad) (Hb := Hb) (tau := tau) hx12 hG12 
            refine Jcv hx12 (show mx_Sn _ _ 53 (mx_callv 138 2 11 56) from sn_101 53) a1 s1 hc14 rfl rfl rfl ?_
            refine mx_J.step (ls2 := [some (.ref 1), some (xI 3), some (xI x1), some (xI z14), none]) (sn_101 56) (fun _ _ => rfl) ?_
            refine mx_J.step (sn_101 57) (fun _ _ => rfl) ?_
            refine mx_J.step (sn_101 58) (fun _ _ => rfl) ?_
            refine JgetR (g := 10) (b := 34) hx14 (show mx_Sn _ _ 59 (mx_getf 11 10 62) from sn_101 59) a1 s1 rfl rfl (hG14.prr 1 10 rfl) ?_
            refine mx_J.step (sn_101 62) (fun _ _ => rfl) ?_
            refine JaaldR (i := 3) (b := 50) hx14 (show mx_Sn _ _ 63 (mx_aald 64) from sn_101 63) a34 s34 (by omega) (show Z14 34 3 = 50 by have hq := GI_ex hG14 34 3; replace hq : ((0 : Int) ≤ 3 → (3 : Int) ≤ 3 → (Z14 34 3) = 44 + 2 * 3) := hq; omega) ?_
            have b17 : 0 ≤ Z 50 2 ∧ Z 50 2 ≤ 40 := hG.pr 50 2
            refine JgetI (g := 2) (z := Z 50 2) hx14 (show mx_Sn _ _ 64 (mx_getf 10 2 67) from sn_101 64) a50 s50 rfl rfl ((hf14 50 2 rfl).trans (hf12 50 2 rfl)) ?_
            have c92 : ∀ (k18_0 : Int) (Z19 : xZ) (h19 : mx_H), 0 ≤ k18_0 ∧ k18_0 ≤ 2 → XH n s S Z19 h19 → GI n S Z19 → fr' [(12, 2), (14, (-1)), (16, (-1)), (17, (-1)), (18, (-1)), (19, (-1)), (38, 2), (38, 3), (38, 4), (42, (-1))] Z14 Z19 → mx_J (tB l D b0 ad Hb tau) mt_101 (d + 7) 92 [some (.ref 1), some (xI 3), some (xI x1), some (xI z14), none] [xI k18_0] h19 Post := by
              intro k18_0 Z19 h19 f18_0 hx19 hG19 hf19
              refine mx_J.step (ls2 := [some (.ref 1), some (xI 3), some (xI x1), some (xI z14), some (xI k18_0)]) (sn_101 92) (fun _ _ => rfl) ?_
              refine mx_J.step (sn_101 94) (fun _ _ => rfl) ?_
              refine JgetR (g := 6) (b := 12) hx19 (show mx_Sn _ _ 95 (mx_getf 11 6 98) from sn_101 95) a1 s1 rfl rfl (hG19.prr 1 6 rfl) ?_
              refine mx_J.step (sn_101 98) (fun _ _ => rfl) ?_
              refine JgetR (g := 12) (b := 36) hx19 (show mx_Sn _ _ 99 (mx_getf 11 12 102) from sn_101 99) a1 s1 rfl rfl (hG19.prr 1 12 rfl) ?_
              have b23 : 0 ≤ Z 36 3 ∧ Z 36 3 ≤ 9 := hG.pr 36 3
              refine JgetI (g := 3) (z := Z 36 3) hx19 (show mx_Sn _ _ 102 (mx_getf 5 3 105) from sn_101 102) a36 s36 rfl rfl ((hf19 36 3 rfl).trans ((hf14 36 3 rfl).trans (hf12 36 3 rfl))) ?_
              obtain ⟨Z24, h24, hc24, hx24, hG24, hf24⟩ := ct_25_12 (d := d + 6) (l := l) (D := D) (b0 := b0) (ad := ad) (Hb := Hb) (tau := tau) hx19 hG19 (show 0 ≤ Z 36 3 ∧ Z 36 3 ≤ 9 by omega)
              refine Jcv0 hx19 (show mx_Sn _ _ 105 (mx_callv 25 2 4 108) from sn_101 105) a12 s12 hc24 rfl rfl rfl ?_
              refine mx_J.step (sn_101 108) (fun _ _ => rfl) ?_
              refine Jtsw (z := x1) (show mx_Sn _ _ 109 (mx_tsw 0 2 [136, 147, 150] 165) from sn_101 109) (by omega) (fun q25 => ?_) (fun q25 => ?_)
              · skip
                refine mx_J.step (sn_101 165) (fun _ _ => rfl) ?_
                refine JgetR (g := 13) (b := 38) hx24 (show mx_Sn _ _ 166 (mx_getf 11 13 169) from sn_101 166) a1 s1 rfl rfl (hG24.prr 1 13 rfl) ?_
                have b28 : 0 ≤ Z19 38 2 ∧ Z19 38 2 ≤ 384 := hG19.pr 38 2
                refine JgetI (g := 2) (z := Z19 38 2) hx24 (show mx_Sn _ _ 169 (mx_getf 5 2 172) from sn_101 169) a38 s38 rfl rfl (hf24 38 2 rfl) ?_
                exact mx_J.ret (sn_101 172) (fun _ _ => rfl) (hP (Z19 38 2) Z24 h24 hx24 hG24 (fr_tr (M := [(12, 2), (14, (-1)), (16, (-1)), (17, (-1)), (18, (-1)), (19, (-1)), (38, 0), (38, 1), (38, 2), (38, 3), (38, 4), (42, (-1))]) (fr_tr (M := [(12, 2), (14, (-1)), (16, (-1)), (17, (-1)), (18, (-1)), (19, (-1)), (38, 0), (38, 1), (38, 2), (38, 3), (38, 4), (42, (-1))]) (fr_tr (M := [(12, 2), (14, (-1)), (16, (-1)), (17, (-1)), (18, (-1)), (19, (-1)), (38, 0), (38, 1), (38, 2), (38, 3), (38, 4), (42, (-1))]) (fr_tr (M := [(12, 2), (14, (-1)), (16, (-1)), (17, (-1)), (18, (-1)), (19, (-1)), (38, 0), (38, 1), (38, 2), (38, 3), (38, 4), (42, (-1))]) fr_rf (hf12) (M1 := []) rfl rfl) (hf14) rfl rfl) (hf19) rfl rfl) (hf24) rfl rfl) (by omega))
              · skip
                have e25 : x1 = 0 ∨ x1 = 1 ∨ x1 = 2 := by omega
                rcases e25 with e25 | e25 | e25
                · refine ⟨136, by rw [e25]; rfl, ?_⟩
                  refine mx_J.step (sn_101 136) (fun _ _ => rfl) ?_
                  have c146 : ∀ (k29_0 : Int), (-1) ≤ k29_0 ∧ k29_0 ≤ 40 → mx_J (tB l D b0 ad Hb tau) mt_101 (d + 7) 146 [some (.ref 1), some (xI 3), some (xI x1), some (xI z14), some (xI k18_0)] [xI k29_0] h24 Post := by
                    intro k29_0 f29_0
                    exact mx_J.ret (sn_101 146) (fun _ _ => rfl) (hP k29_0 Z24 h24 hx24 hG24 (fr_tr (M := [(12, 2), (14, (-1)), (16, (-1)), (17, (-1)), (18, (-1)), (19, (-1)), (38, 0), (38, 1), (38, 2), (38, 3), (38, 4), (42, (-1))]) (fr_tr (M := [(12, 2), (14, (-1)), (16, (-1)), (17, (-1)), (18, (-1)), (19, (-1)), (38, 0), (38, 1), (38, 2), (38, 3), (38, 4), (42, (-1))]) (fr_tr (M := [(12, 2), (14, (-1)), (16, (-1)), (17, (-1)), (18, (-1)), (19, (-1)), (38, 0), (38, 1), (38, 2), (38, 3), (38, 4), (42, (-1))]) (fr_tr (M := [(12, 2), (14, (-1)), (16, (-1)), (17, (-1)), (18, (-1)), (19, (-1)), (38, 0), (38, 1), (38, 2), (38, 3), (38, 4), (42, (-1))]) fr_rf (hf12) (M1 := []) rfl rfl) (hf14) rfl rfl) (hf19) rfl rfl) (hf24) rfl rfl) (by omega))
                  refine Jif_ne (show mx_Sn _ _ 138 (mx_if_ne 145 141) from sn_101 138) (by omega) (fun q30 => ?_) (fun q30 => ?_)
                  · skip
                    refine mx_J.step (sn_101 145) (fun _ _ => rfl) ?_
                    exact c146 z14 (by omega)
                  · skip
                    refine JcI (z := (-1)) (show mx_Sn _ _ 141 (mx_const (.int (-1)) 142) from sn_101 141) rfl ?_
                    refine mx_J.step (sn_101 142) (fun _ _ => rfl) ?_
                    exact c146 (-1) (by omega)
                · refine ⟨147, by rw [e25]; rfl, ?_⟩
                  refine mx_J.step (sn_101 147) (fun _ _ => rfl) ?_
                  exact mx_J.ret (sn_101 149) (fun _ _ => rfl) (hP k18_0 Z24 h24 hx24 hG24 (fr_tr (M := [(12, 2), (14, (-1)), (16, (-1)), (17, (-1)), (18, (-1)), (19, (-1)), (38, 0), (38, 1), (38, 2), (38, 3), (38, 4), (42, (-1))]) (fr_tr (M := [(12, 2), (14, (-1)), (16, (-1)), (17, (-1)), (18, (-1)), (19, (-1)), (38, 0), (38, 1), (38, 2), (38, 3), (38, 4), (42, (-1))]) (fr_tr (M := [(12, 2), (14, (-1)), (16, (-1)), (17, (-1)), (18, (-1)), (19, (-1)), (38, 0), (38, 1), (38, 2), (38, 3), (38, 4), (42, (-1))]) (fr_tr (M := [(12, 2), (14, (-1)), (16, (-1)), (17, (-1)), (18, (-1)), (19, (-1)), (38, 0), (38, 1), (38, 2), (38, 3), (38, 4), (42, (-1))]) fr_rf (hf12) (M1 := []) rfl rfl) (hf14) rfl rfl) (hf19) rfl rfl) (hf24) rfl rfl) (by omega))
                · refine ⟨150, by rw [e25]; rfl, ?_⟩
                  refine mx_J.step (sn_101 150) (fun _ _ => rfl) ?_
                  refine JgetR (g := 5) (b := 7) hx24 (show mx_Sn _ _ 151 (mx_getf 11 5 154) from sn_101 151) a1 s1 rfl rfl (hG24.prr 1 5 rfl) ?_
                  refine mx_J.step (sn_101 154) (fun _ _ => rfl) ?_
                  refine JgetR (g := 13) (b := 38) hx24 (show mx_Sn _ _ 155 (mx_getf 11 13 158) from sn_101 155) a1 s1 rfl rfl (hG24.prr 1 13 rfl) ?_
                  have b34 : 0 ≤ Z19 38 2 ∧ Z19 38 2 ≤ 384 := hG19.pr 38 2
                  refine JgetI (g := 2) (z := Z19 38 2) hx24 (show mx_Sn _ _ 158 (mx_getf 5 2 161) from sn_101 158) a38 s38 rfl rfl (hf24 38 2 rfl) ?_
                  have eq36 : Z24 7 5 = Z 7 5 := ((hf24 7 5 rfl).trans ((hf19 7 5 rfl).trans ((hf14 7 5 rfl).trans (hf12 7 5 rfl))))
                  have b37 : 0 ≤ Z 7 5 ∧ Z 7 5 ≤ 385 := hG.pr 7 5
                  have eq38 : Z24 10 (Z19 38 2) = Z 10 (Z19 38 2) := ((hf24 10 (Z19 38 2) rfl).trans ((hf19 10 (Z19 38 2) rfl).trans ((hf14 10 (Z19 38 2) rfl).trans (hf12 10 (Z19 38 2) rfl))))
                  have b39 : 0 ≤ Z 10 (Z19 38 2) ∧ Z 10 (Z19 38 2) ≤ 18 := hG.pr 10 (Z19 38 2)
                  obtain ⟨z35, hc35, b35⟩ := ct_5_7 (d := d + 6) (l := l) (D := D) (b0 := b0) (ad := ad) (Hb := Hb) (tau := tau) hx24 hG24 (show (-2147483648) ≤ Z19 38 2 ∧ Z19 38 2 ≤ 2147483647 by omega)
                  try rw [eq36] at b35
                  try rw [eq38] at b35
                  refine Jcv hx24 (show mx_Sn _ _ 161 (mx_callv 5 2 0 164) from sn_101 161) a7 s7 hc35 rfl rfl rfl ?_
                  exact mx_J.ret (sn_101 164) (fun _ _ => rfl) (hP z35 Z24 h24 hx24 hG24 (fr_tr (M := [(12, 2), (14, (-1)), (16, (-1)), (17, (-1)), (18, (-1)), (19, (-1)), (38, 0), (38, 1), (38, 2), (38, 3), (38, 4), (42, (-1))]) (fr_tr (M := [(12, 2), (14, (-1)), (16, (-1)), (17, (-1)), (18, (-1)), (19, (-1)), (38, 0), (38, 1), (38, 2), (38, 3), (38, 4), (42, (-1))]) (fr_tr (M := [(12, 2), (14, (-1)), (16, (-1)), (17, (-1)), (18, (-1)), (19, (-1)), (38, 0), (38, 1), (38, 2), (38, 3), (38, 4), (42, (-1))]) (fr_tr (M := [(12, 2), (14, (-1)), (16, (-1)), (17, (-1)), (18, (-1)), (19, (-1)), (38, 0), (38, 1), (38, 2), (38, 3), (38, 4), (42, (-1))]) fr_rf (hf12) (M1 := []) rfl rfl) (hf14) rfl rfl) (hf19) rfl rfl) (hf24) rfl rfl) (by omega))
            refine Jicmp_ge (show mx_Sn _ _ 67 (mx_icmp_ge 91 70) from sn_101 67) (by omega) (by omega) (fun q40 => ?_) (fun q40 => ?_)
            · skip
              refine JcI (z := 0) (show mx_Sn _ _ 91 (mx_const (.int 0) 92) from sn_101 91) rfl ?_
              exact c92 0 Z14 h14 (by omega) hx14 hG14 fr_rf
            · skip
              refine mx_J.step (sn_101 70) (fun _ _ => rfl) ?_
              refine mx_J.step (sn_101 71) (fun _ _ => rfl) ?_
              refine JgetR (g := 13) (b := 38) hx14 (show mx_Sn _ _ 72 (mx_getf 11 13 75) from sn_101 72) a1 s1 rfl rfl (hG14.prr 1 13 rfl) ?_
              refine mx_J.step (sn_101 75) (fun _ _ => rfl) ?_
              refine JgetR (g := 10) (b := 34) hx14 (show mx_Sn _ _ 76 (mx_getf 11 10 79) from sn_101 76) a1 s1 rfl rfl (hG14.prr 1 10 rfl) ?_
              refine mx_J.step (sn_101 79) (fun _ _ => rfl) ?_
              refine JaaldR (i := 3) (b := 50) hx14 (show mx_Sn _ _ 80 (mx_aald 81) from sn_101 80) a34 s34 (by omega) (show Z14 34 3 = 50 by have hq := GI_ex hG14 34 3; replace hq : ((0 : Int) ≤ 3 → (3 : Int) ≤ 3 → (Z14 34 3) = 44 + 2 * 3) := hq; omega) ?_
              refine mx_J.step (sn_101 81) (fun _ _ => rfl) ?_
              have eq44 : Z14 51 z14 = Z 51 z14 := ((hf14 51 z14 rfl).trans (hf12 51 z14 rfl))
              have b45 : (-9223372036854775808) ≤ Z 51 z14 ∧ Z 51 z14 ≤ 9223372036854775807 := hG.pr 51 z14
              obtain ⟨z43, hc43, b43⟩ := ct_85_50 (d := d + 6) (l := l) (D := D) (b0 := b0) (ad := ad) (Hb := Hb) (tau := tau) hx14 hG14 (show (-2147483648) ≤ z14 ∧ z14 ≤ 2147483647 by omega)
              try rw [eq44] at b43
              refine Jcv hx14 (show mx_Sn _ _ 82 (mx_callv 85 2 10 85) from sn_101 82) a50 s50 hc43 rfl rfl rfl ?_
              obtain ⟨z46, Z46, h46, hc46, hx46, hG46, hf46, b46⟩ := ct_139_1_38 (d := d + 1) (l := l) (D := D) (b0 := b0) (ad := ad) (Hb := Hb) (tau := tau) hx14 hG14 (show (-9223372036854775808) ≤ z43 ∧ z43 ≤ 9223372036854775807 by omega)
              refine Jcv hx14 (show mx_Sn _ _ 85 (mx_callv 139 3 11 88) from sn_101 85) a1 s1 hc46 rfl rfl rfl ?_
              refine mx_J.step (sn_101 88) (fun _ _ => rfl) ?_
              exact c92 z46 Z46 h46 (by omega) hx46 hG46 (fr_tr (M := [(12, 2), (14, (-1)), (16, (-1)), (17, (-1)), (18, (-1)), (19, (-1)), (38, 2), (38, 3), (38, 4), (42, (-1))]) fr_rf (hf46) (M1 := []) rfl rfl)
          · skip
            refine JcI (z := (-6)) (show mx_Sn _ _ 32 (mx_const (.int (-6)) 34) from sn_101 32) rfl ?_
            exact mx_J.ret (sn_101 34) (fun _ _ => rfl) (hP (-6) Z h hx hG fr_rf (by omega))
        · skip
          exact c17 
theorem ct_101_1_i3 {l : Launch} {D : va_G} {b0 : Nat} {ad : Nat → Nat} {Hb : Heap} {tau : Nat → Int64} {d n s : Nat} {S : Nat → xS} {Z : xZ} {h : mx_H} (hx : XH n s S Z h) (hG : GI n S Z)  {x1 : Int} (p1 : (-2147483648) ≤ x1 ∧ x1 ≤ 2147483647) : ∃ (z : Int) (Z' : xZ) (h' : mx_H), mx_Ca (tB l D b0 ad Hb tau) (d + 8) 101 [.ref 1, xI 3, xI x1] h (some (xI z), h') ∧ XH n s S Z' h' ∧ GI n S Z' ∧ fr' [(12, 2), (14, (-1)), (16, (-1)), (17, (-1)), (18, (-1)), (19, (-1)), (38, 0), (38, 1), (38, 2), (38, 3), (38, 4), (42, (-1))] Z Z' ∧ ((-6) ≤ z ∧ z ≤ 384) := by
  obtain ⟨r, hca, z, Z', h', e, q⟩ := Jmt (B := tB l D b0 ad Hb tau) (M := mt_101) (mi := 101) (as := [.ref 1, xI 3, xI x1]) (d := d + 7) (ls := [some (.ref 1), some (xI 3), some (xI x1), none, none]) rfl rfl rfl rfl rfl rfl (cw_101_1_i3 (l := l) (D := D) (b0 := b0) (ad := ad) (Hb := Hb) (tau := tau) (d := d) (Post := fun r => ∃ (z : Int) (Z' : xZ) (h' : mx_H), r = (some (xI z), h') ∧ XH n s S Z' h' ∧ GI n S Z' ∧ fr' [(12, 2), (14, (-1)), (16, (-1)), (17, (-1)), (18, (-1)), (19, (-1)), (38, 0), (38, 1), (38, 2), (38, 3), (38, 4), (42, (-1))] Z Z' ∧ ((-6) ≤ z ∧ z ≤ 384)) hx hG p1 (fun z Z' h' q1 q2 q3 q4 => ⟨z, Z', h', rfl, q1, q2, q3, q4⟩))
  subst e; exact ⟨z, Z', h', hca, q⟩
set_option maxRecDepth 100000 in
theorem cw_101_1_n {l : Launch} {D : va_G} {b0 : Nat} {ad : Nat → Nat} {Hb : Heap} {tau : Nat → Int64} {d n s : Nat} {S : Nat → xS} {Z : xZ} {h : mx_H} {Post : mx_R → Prop} (hx : XH n s S Z h) (hG : GI n S Z)  {x0 x1 : Int} (p0 : (-2147483648) ≤ x0 ∧ x0 ≤ (-1)) (p1 : (-2147483648) ≤ x1 ∧ x1 ≤ 2147483647) (hP : ∀ z : Int, (-2) ≤ z ∧ z ≤ (-2) → Post (some (xI z), h)) : mx_J (tB l D b0 ad Hb tau) mt_101 (d + 1) 0 [some (.ref 1), some (xI x0), some (xI x1), none, none] [] h Post := by
    have a1 : 1 < n := lt83 (GI_n hG) rfl
    have s1 : S 1 = .inl (11, [2, 0, 0, 0, 2, 2, 2, 2, 2, 2, 2, 2, 2, 2, 2, 2, 2]) := GI_s hG 1 rfl
    refine mx_J.step (sn_101 0) (fun _ _ => rfl) ?_
    refine mx_J.step (sn_101 1) (fun _ _ => rfl) ?_
    obtain ⟨z1, hc1, b1⟩ := ct_144_1_n (d := d + 0) (l := l) (D := D) (b0 := b0) (ad := ad) (Hb := Hb) (tau := tau) hx hG (show (-2147483648) ≤ x0 ∧ x0 ≤ (-1) by omega)
    refine Jcv hx (show mx_Sn _ _ 2 (mx_callv 144 2 11 5) from sn_101 2) a1 s1 hc1 rfl rfl rfl ?_
    refine Jif_ne (show mx_Sn _ _ 5 (mx_if_ne 17 8) from sn_101 5) (by omega) (fun q2 => ?_) (fun q2 => ?_)
    · skip
      refine JcI (z := (-2)) (show mx_Sn _ _ 17 (mx_const (.int (-2)) 19) from sn_101 17) rfl ?_
      exact mx_J.ret (sn_101 19) (fun _ _ => rfl) (hP (-2) (by omega))
    · skip
      exfalso; omega
theorem ct_101_1_n {l : Launch} {D : va_G} {b0 : Nat} {ad : Nat → Nat} {Hb : Heap} {tau : Nat → Int64} {d n s : Nat} {S : Nat → xS} {Z : xZ} {h : mx_H} (hx : XH n s S Z h) (hG : GI n S Z)  {x0 x1 : Int} (p0 : (-2147483648) ≤ x0 ∧ x0 ≤ (-1)) (p1 : (-2147483648) ≤ x1 ∧ x1 ≤ 2147483647) : ∃ z : Int, mx_Ca (tB l D b0 ad Hb tau) (d + 2) 101 [.ref 1, xI x0, xI x1] h (some (xI z), h) ∧ ((-2) ≤ z ∧ z ≤ (-2)) := by
  obtain ⟨r, hca, z, e, hp⟩ := Jmt (B := tB l D b0 ad Hb tau) (M := mt_101) (mi := 101) (as := [.ref 1, xI x0, xI x1]) (d := d + 1) (ls := [some (.ref 1), some (xI x0), some (xI x1), none, none]) rfl rfl rfl rfl rfl rfl (cw_101_1_n (l := l) (D := D) (b0 := b0) (ad := ad) (Hb := Hb) (tau := tau) (d := d) (Post := fun r => ∃ z : Int, r = (some (xI z), h) ∧ ((-2) ≤ z ∧ z ≤ (-2))) hx hG p0 p1 (fun z hz => ⟨z, rfl, hz⟩))
  subst e; exact ⟨z, hca, hp⟩
set_option maxRecDepth 100000 in
theorem cw_101_1_p {l : Launch} {D : va_G} {b0 : Nat} {ad : Nat → Nat} {Hb : Heap} {tau : Nat → Int64} {d n s : Nat} {S : Nat → xS} {Z : xZ} {h : mx_H} {Post : mx_R → Prop} (hx : XH n s S Z h) (hG : GI n S Z)  {x0 x1 : Int} (p0 : 4 ≤ x0 ∧ x0 ≤ 2147483647) (p1 : (-2147483648) ≤ x1 ∧ x1 ≤ 2147483647) (hP : ∀ z : Int, (-2) ≤ z ∧ z ≤ (-2) → Post (some (xI z), h)) : mx_J (tB l D b0 ad Hb tau) mt_101 (d + 1) 0 [some (.ref 1), some (xI x0), some (xI x1), none, none] [] h Post := by
    have a1 : 1 < n := lt83 (GI_n hG) rfl
    have s1 : S 1 = .inl (11, [2, 0, 0, 0, 2, 2, 2, 2, 2, 2, 2, 2, 2, 2, 2, 2, 2]) := GI_s hG 1 rfl
    refine mx_J.step (sn_101 0) (fun _ _ => rfl) ?_
    refine mx_J.step (sn_101 1) (fun _ _ => rfl) ?_
    obtain ⟨z1, hc1, b1⟩ := ct_144_1_p (d := d + 0) (l := l) (D := D) (b0 := b0) (ad := ad) (Hb := Hb) (tau := tau) hx hG (show 4 ≤ x0 ∧ x0 ≤ 2147483647 by omega)
    refine Jcv hx (show mx_Sn _ _ 2 (mx_callv 144 2 11 5) from sn_101 2) a1 s1 hc1 rfl rfl rfl ?_
    refine Jif_ne (show mx_Sn _ _ 5 (mx_if_ne 17 8) from sn_101 5) (by omega) (fun q2 => ?_) (fun q2 => ?_)
    · skip
      refine JcI (z := (-2)) (show mx_Sn _ _ 17 (mx_const (.int (-2)) 19) from sn_101 17) rfl ?_
      exact mx_J.ret (sn_101 19) (fun _ _ => rfl) (hP (-2) (by omega))
    · skip
      exfalso; omega
theorem ct_101_1_p {l : Launch} {D : va_G} {b0 : Nat} {ad : Nat → Nat} {Hb : Heap} {tau : Nat → Int64} {d n s : Nat} {S : Nat → xS} {Z : xZ} {h : mx_H} (hx : XH n s S Z h) (hG : GI n S Z)  {x0 x1 : Int} (p0 : 4 ≤ x0 ∧ x0 ≤ 2147483647) (p1 : (-2147483648) ≤ x1 ∧ x1 ≤ 2147483647) : ∃ z : Int, mx_Ca (tB l D b0 ad Hb tau) (d + 2) 101 [.ref 1, xI x0, xI x1] h (some (xI z), h) ∧ ((-2) ≤ z ∧ z ≤ (-2)) := by
  obtain ⟨r, hca, z, e, hp⟩ := Jmt (B := tB l D b0 ad Hb tau) (M := mt_101) (mi := 101) (as := [.ref 1, xI x0, xI x1]) (d := d + 1) (ls := [some (.ref 1), some (xI x0), some (xI x1), none, none]) rfl rfl rfl rfl rfl rfl (cw_101_1_p (l := l) (D := D) (b0 := b0) (ad := ad) (Hb := Hb) (tau := tau) (d := d) (Post := fun r => ∃ z : Int, r = (some (xI z), h) ∧ ((-2) ≤ z ∧ z ≤ (-2))) hx hG p0 p1 (fun z hz => ⟨z, rfl, hz⟩))
  subst e; exact ⟨z, hca, hp⟩
theorem ct_101_1 {l : Launch} {D : va_G} {b0 : Nat} {ad : Nat → Nat} {Hb : Heap} {tau : Nat → Int64} {d n s : Nat} {S : Nat → xS} {Z : xZ} {h : mx_H} (hx : XH n s S Z h) (hG : GI n S Z) {x0 x1 : Int} (p0 : (-2147483648) ≤ x0 ∧ x0 ≤ 2147483647) (p1 : (-2147483648) ≤ x1 ∧ x1 ≤ 2147483647) : ∃ (z : Int) (Z' : xZ) (h' : mx_H), mx_Ca (tB l D b0 ad Hb tau) (d + 8) 101 [.ref 1, xI x0, xI x1] h (some (xI z), h') ∧ XH n s S Z' h' ∧ GI n S Z' ∧ fr' [(12, 2), (14, (-1)), (16, (-1)), (17, (-1)), (18, (-1)), (19, (-1)), (38, 0), (38, 1), (38, 2), (38, 3), (38, 4), (42, (-1))] Z Z' ∧ ((-6) ≤ z ∧ z ≤ 384) := by
  have hc : x0 = 0 ∨ x0 = 1 ∨ x0 = 2 ∨ x0 = 3 ∨ ((-2147483648) ≤ x0 ∧ x0 ≤ (-1)) ∨ (4 ≤ x0 ∧ x0 ≤ 2147483647) := by omega
  rcases hc with hc | hc | hc | hc | hc | hc
  · subst hc
    obtain ⟨z, Z', h', hca, q1, q2, q3, b⟩ := ct_101_1_i0 (d := d + 0) (l := l) (D := D) (b0 := b0) (ad := ad) (Hb := Hb) (tau := tau) hx hG p1
    exact ⟨z, Z', h', hca, q1, q2, fr_tr (M1 := []) fr_rf q3 rfl rfl, by omega⟩
  · subst hc
    obtain ⟨z, Z', h', hca, q1, q2, q3, b⟩ := ct_101_1_i1 (d := d + 0) (l := l) (D := D) (b0 := b0) (ad := ad) (Hb := Hb) (tau := tau) hx hG p1
    exact ⟨z, Z', h', hca, q1, q2, fr_tr (M1 := []) fr_rf q3 rfl rfl, by omega⟩
  · subst hc
    obtain ⟨z, Z', h', hca, q1, q2, q3, b⟩ := ct_101_1_i2 (d := d + 0) (l := l) (D := D) (b0 := b0) (ad := ad) (Hb := Hb) (tau := tau) hx hG p1
    exact ⟨z, Z', h', hca, q1, q2, fr_tr (M1 := []) fr_rf q3 rfl rfl, by omega⟩
  · subst hc
    obtain ⟨z, Z', h', hca, q1, q2, q3, b⟩ := ct_101_1_i3 (d := d + 0) (l := l) (D := D) (b0 := b0) (ad := ad) (Hb := Hb) (tau := tau) hx hG p1
    exact ⟨z, Z', h', hca, q1, q2, fr_tr (M1 := []) fr_rf q3 rfl rfl, by omega⟩
  · skip
    obtain ⟨z, hca, b⟩ := ct_101_1_n (d := d + 6) (l := l) (D := D) (b0 := b0) (ad := ad) (Hb := Hb) (tau := tau) hx hG hc p1
    exact ⟨z, Z, h, hca, hx, hG, fr_rf, by omega⟩
  · skip
    obtain ⟨z, hca, b⟩ := ct_101_1_p (d := d + 6) (l := l) (D := D) (b0 := b0) (ad := ad) (Hb := Hb) (tau := tau) hx hG hc p1
    exact ⟨z, Z, h, hca, hx, hG, fr_rf, by omega⟩
set_option maxRecDepth 100000 in
theorem cw_131_1_i0 {l : Launch} {D : va_G} {b0 : Nat} {ad : Nat → Nat} {Hb : Heap} {tau : Nat → Int64} {d n s : Nat} {S : Nat → xS} {Z : xZ} {h : mx_H} {Post : mx_R → Prop} (hx : XH n s S Z h) (hG : GI n S Z)   (hP : ∀ (z : Int) (Z' : xZ) (h' : mx_H), XH n s S Z' h' → GI n S Z' → fr' [(52, 0), (52, 1), (52, 2), (52, 3), (52, 4), (52, 5)] Z Z' → 0 ≤ z ∧ z ≤ 0 → Post (some (xI z), h')) : mx_J (tB l D b0 ad Hb tau) mt_131 (d + 1) 0 [some (.ref 1), some (xI 0)] [] h Post := by
    have a1 : 1 < n := lt83 (GI_n hG) rfl
    have s1 : S 1 = .inl (11, [2, 0, 0, 0, 2, 2, 2, 2, 2, 2, 2, 2, 2, 2, 2, 2, 2]) := GI_s hG 1 rfl
    have a35 : 35 < n := lt83 (GI_n hG) rfl
    have s35 : S 35 = .inr ((.object "TitheHeap$Moment"), 2, 2) := GI_s hG 35 rfl
    have a52 : 52 < n := lt83 (GI_n hG) rfl
    have s52 : S 52 = .inl (5, [2, 0, 0, 0, 0, 0]) := GI_s hG 52 rfl
    refine mx_J.step (sn_131 0) (fun _ _ => rfl) ?_
    refine Jif_lt (show mx_Sn _ _ 1 (mx_if_lt 9 4) from sn_131 1) (by omega) (fun q1 => ?_) (fun q1 => ?_)
    · skip
      exfalso; omega
    · skip
      refine mx_J.step (sn_131 4) (fun _ _ => rfl) ?_
      refine JcI (z := 2) (show mx_Sn _ _ 5 (mx_const (.int 2) 6) from sn_131 5) rfl ?_
      refine Jicmp_lt (show mx_Sn _ _ 6 (mx_icmp_lt 12 9) from sn_131 6) (by omega) (by omega) (fun q2 => ?_) (fun q2 => ?_)
      · skip
        refine mx_J.step (sn_131 12) (fun _ _ => rfl) ?_
        refine JgetR (g := 11) (b := 35) hx (show mx_Sn _ _ 13 (mx_getf 11 11 16) from sn_131 13) a1 s1 rfl rfl (hG.prr 1 11 rfl) ?_
        refine mx_J.step (sn_131 16) (fun _ _ => rfl) ?_
        refine JaaldR (i := 0) (b := 52) hx (show mx_Sn _ _ 17 (mx_aald 18) from sn_131 17) a35 s35 (by omega) (show Z 35 0 = 52 by have hq := GI_ex hG 35 0; replace hq : ((0 : Int) ≤ 0 → (0 : Int) ≤ 1 → (Z 35 0) = 52 + 2 * 0) := hq; omega) ?_
        refine mx_J.step (sn_131 18) (fun _ _ => rfl) ?_
        refine JgetR (g := 12) (b := 36) hx (show mx_Sn _ _ 19 (mx_getf 11 12 22) from sn_131 19) a1 s1 rfl rfl (hG.prr 1 12 rfl) ?_
        obtain ⟨Z5, h5, hc5, hx5, hG5, hf5⟩ := ct_33_52_36 (d := d + 0) (l := l) (D := D) (b0 := b0) (ad := ad) (Hb := Hb) (tau := tau) hx hG 
        refine Jcv0 hx (show mx_Sn _ _ 22 (mx_callv 33 2 5 25) from sn_131 22) a52 s52 hc5 rfl rfl rfl ?_
        refine mx_J.step (sn_131 25) (fun _ _ => rfl) ?_
        refine JgetR (g := 11) (b := 35) hx5 (show mx_Sn _ _ 26 (mx_getf 11 11 29) from sn_131 26) a1 s1 rfl rfl (hG5.prr 1 11 rfl) ?_
        refine mx_J.step (sn_131 29) (fun _ _ => rfl) ?_
        refine JaaldR (i := 0) (b := 52) hx5 (show mx_Sn _ _ 30 (mx_aald 31) from sn_131 30) a35 s35 (by omega) (show Z5 35 0 = 52 by have hq := GI_ex hG5 35 0; replace hq : ((0 : Int) ≤ 0 → (0 : Int) ≤ 1 → (Z5 35 0) = 52 + 2 * 0) := hq; omega) ?_
        refine JcI (z := 1) (show mx_Sn _ _ 31 (mx_const (.int 1) 32) from sn_131 31) rfl ?_
        refine JputI (g := 5) hx5 (show mx_Sn _ _ 32 (mx_putf 1 5 5 (.boolean) 35) from sn_131 32) a52 s52 rfl rfl (fit_z (by omega)) rfl (fun Z7 h7 hx7 hE7 => ?_)
        have hG7 := GI_up hG5 hE7 (show 0 ≤ 1 ∧ 1 ≤ 1 by omega) trivial rfl
        refine JcI (z := 0) (show mx_Sn _ _ 35 (mx_const (.int 0) 36) from sn_131 35) rfl ?_
        exact mx_J.ret (sn_131 36) (fun _ _ => rfl) (hP 0 Z7 h7 hx7 hG7 (fr_tr (M := [(52, 0), (52, 1), (52, 2), (52, 3), (52, 4), (52, 5)]) (fr_tr (M := [(52, 0), (52, 1), (52, 2), (52, 3), (52, 4), (52, 5)]) fr_rf (hf5) (M1 := []) rfl rfl) (fr_up hE7) rfl rfl) (by omega))
      · skip
        exfalso; omega
theorem ct_131_1_i0 {l : Launch} {D : va_G} {b0 : Nat} {ad : Nat → Nat} {Hb : Heap} {tau : Nat → Int64} {d n s : Nat} {S : Nat → xS} {Z : xZ} {h : mx_H} (hx : XH n s S Z h) (hG : GI n S Z)   : ∃ (z : Int) (Z' : xZ) (h' : mx_H), mx_Ca (tB l D b0 ad Hb tau) (d + 2) 131 [.ref 1, xI 0] h (some (xI z), h') ∧ XH n s S Z' h' ∧ GI n S Z' ∧ fr' [(52, 0), (52, 1), (52, 2), (52, 3), (52, 4), (52, 5)] Z Z' ∧ (0 ≤ z ∧ z ≤ 0) := by
  obtain ⟨r, hca, z, Z', h', e, q⟩ := Jmt (B := tB l D b0 ad Hb tau) (M := mt_131) (mi := 131) (as := [.ref 1, xI 0]) (d := d + 1) (ls := [some (.ref 1), some (xI 0)]) rfl rfl rfl rfl rfl rfl (cw_131_1_i0 (l := l) (D := D) (b0 := b0) (ad := ad) (Hb := Hb) (tau := tau) (d := d) (Post := fun r => ∃ (z : Int) (Z' : xZ) (h' : mx_H), r = (some (xI z), h') ∧ XH n s S Z' h' ∧ GI n S Z' ∧ fr' [(52, 0), (52, 1), (52, 2), (52, 3), (52, 4), (52, 5)] Z Z' ∧ (0 ≤ z ∧ z ≤ 0)) hx hG  (fun z Z' h' q1 q2 q3 q4 => ⟨z, Z', h', rfl, q1, q2, q3, q4⟩))
  subst e; exact ⟨z, Z', h', hca, q⟩
set_option maxRecDepth 100000 in
theorem cw_131_1_i1 {l : Launch} {D : va_G} {b0 : Nat} {ad : Nat → Nat} {Hb : Heap} {tau : Nat → Int64} {d n s : Nat} {S : Nat → xS} {Z : xZ} {h : mx_H} {Post : mx_R → Prop} (hx : XH n s S Z h) (hG : GI n S Z)   (hP : ∀ (z : Int) (Z' : xZ) (h' : mx_H), XH n s S Z' h' → GI n S Z' → fr' [(54, 0), (54, 1), (54, 2), (54, 3), (54, 4), (54, 5)] Z Z' → 0 ≤ z ∧ z ≤ 0 → Post (some (xI z), h')) : mx_J (tB l D b0 ad Hb tau) mt_131 (d + 1) 0 [some (.ref 1), some (xI 1)] [] h Post := by
    have a1 : 1 < n := lt83 (GI_n hG) rfl
    have s1 : S 1 = .inl (11, [2, 0, 0, 0, 2, 2, 2, 2, 2, 2, 2, 2, 2, 2, 2, 2, 2]) := GI_s hG 1 rfl
    have a35 : 35 < n := lt83 (GI_n hG) rfl
    have s35 : S 35 = .inr ((.object "TitheHeap$Moment"), 2, 2) := GI_s hG 35 rfl
    have a54 : 54 < n := lt83 (GI_n hG) rfl
    have s54 : S 54 = .inl (5, [2, 0, 0, 0, 0, 0]) := GI_s hG 54 rfl
    refine mx_J.step (sn_131 0) (fun _ _ => rfl) ?_
    refine Jif_lt (show mx_Sn _ _ 1 (mx_if_lt 9 4) from sn_131 1) (by omega) (fun q1 => ?_) (fun q1 => ?_)
    · skip
      exfalso; omega
    · skip
      refine mx_J.step (sn_131 4) (fun _ _ => rfl) ?_
      refine JcI (z := 2) (show mx_Sn _ _ 5 (mx_const (.int 2) 6) from sn_131 5) rfl ?_
      refine Jicmp_lt (show mx_Sn _ _ 6 (mx_icmp_lt 12 9) from sn_131 6) (by omega) (by omega) (fun q2 => ?_) (fun q2 => ?_)
      · skip
        refine mx_J.step (sn_131 12) (fun _ _ => rfl) ?_
        refine JgetR (g := 11) (b := 35) hx (show mx_Sn _ _ 13 (mx_getf 11 11 16) from sn_131 13) a1 s1 rfl rfl (hG.prr 1 11 rfl) ?_
        refine mx_J.step (sn_131 16) (fun _ _ => rfl) ?_
        refine JaaldR (i := 1) (b := 54) hx (show mx_Sn _ _ 17 (mx_aald 18) from sn_131 17) a35 s35 (by omega) (show Z 35 1 = 54 by have hq := GI_ex hG 35 1; replace hq : ((0 : Int) ≤ 1 → (1 : Int) ≤ 1 → (Z 35 1) = 52 + 2 * 1) := hq; omega) ?_
        refine mx_J.step (sn_131 18) (fun _ _ => rfl) ?_
        refine JgetR (g := 12) (b := 36) hx (show mx_Sn _ _ 19 (mx_getf 11 12 22) from sn_131 19) a1 s1 rfl rfl (hG.prr 1 12 rfl) ?_
        obtain ⟨Z5, h5, hc5, hx5, hG5, hf5⟩ := ct_33_54_36 (d := d + 0) (l := l) (D := D) (b0 := b0) (ad := ad) (Hb := Hb) (tau := tau) hx hG 
        refine Jcv0 hx (show mx_Sn _ _ 22 (mx_callv 33 2 5 25) from sn_131 22) a54 s54 hc5 rfl rfl rfl ?_
        refine mx_J.step (sn_131 25) (fun _ _ => rfl) ?_
        refine JgetR (g := 11) (b := 35) hx5 (show mx_Sn _ _ 26 (mx_getf 11 11 29) from sn_131 26) a1 s1 rfl rfl (hG5.prr 1 11 rfl) ?_
        refine mx_J.step (sn_131 29) (fun _ _ => rfl) ?_
        refine JaaldR (i := 1) (b := 54) hx5 (show mx_Sn _ _ 30 (mx_aald 31) from sn_131 30) a35 s35 (by omega) (show Z5 35 1 = 54 by have hq := GI_ex hG5 35 1; replace hq : ((0 : Int) ≤ 1 → (1 : Int) ≤ 1 → (Z5 35 1) = 52 + 2 * 1) := hq; omega) ?_
        refine JcI (z := 1) (show mx_Sn _ _ 31 (mx_const (.int 1) 32) from sn_131 31) rfl ?_
        refine JputI (g := 5) hx5 (show mx_Sn _ _ 32 (mx_putf 1 5 5 (.boolean) 35) from sn_131 32) a54 s54 rfl rfl (fit_z (by omega)) rfl (fun Z7 h7 hx7 hE7 => ?_)
        have hG7 := GI_up hG5 hE7 (show 0 ≤ 1 ∧ 1 ≤ 1 by omega) trivial rfl
        refine JcI (z := 0) (show mx_Sn _ _ 35 (mx_const (.int 0) 36) from sn_131 35) rfl ?_
        exact mx_J.ret (sn_131 36) (fun _ _ => rfl) (hP 0 Z7 h7 hx7 hG7 (fr_tr (M := [(54, 0), (54, 1), (54, 2), (54, 3), (54, 4), (54, 5)]) (fr_tr (M := [(54, 0), (54, 1), (54, 2), (54, 3), (54, 4), (54, 5)]) fr_rf (hf5) (M1 := []) rfl rfl) (fr_up hE7) rfl rfl) (by omega))
      · skip
        exfalso; omega
theorem ct_131_1_i1 {l : Launch} {D : va_G} {b0 : Nat} {ad : Nat → Nat} {Hb : Heap} {tau : Nat → Int64} {d n s : Nat} {S : Nat → xS} {Z : xZ} {h : mx_H} (hx : XH n s S Z h) (hG : GI n S Z)   : ∃ (z : Int) (Z' : xZ) (h' : mx_H), mx_Ca (tB l D b0 ad Hb tau) (d + 2) 131 [.ref 1, xI 1] h (some (xI z), h') ∧ XH n s S Z' h' ∧ GI n S Z' ∧ fr' [(54, 0), (54, 1), (54, 2), (54, 3), (54, 4), (54, 5)] Z Z' ∧ (0 ≤ z ∧ z ≤ 0) := by
  obtain ⟨r, hca, z, Z', h', e, q⟩ := Jmt (B := tB l D b0 ad Hb tau) (M := mt_131) (mi := 131) (as := [.ref 1, xI 1]) (d := d + 1) (ls := [some (.ref 1), some (xI 1)]) rfl rfl rfl rfl rfl rfl (cw_131_1_i1 (l := l) (D := D) (b0 := b0) (ad := ad) (Hb := Hb) (tau := tau) (d := d) (Post := fun r => ∃ (z : Int) (Z' : xZ) (h' : mx_H), r = (some (xI z), h') ∧ XH n s S Z' h' ∧ GI n S Z' ∧ fr' [(54, 0), (54, 1), (54, 2), (54, 3), (54, 4), (54, 5)] Z Z' ∧ (0 ≤ z ∧ z ≤ 0)) hx hG  (fun z Z' h' q1 q2 q3 q4 => ⟨z, Z', h', rfl, q1, q2, q3, q4⟩))
  subst e; exact ⟨z, Z', h', hca, q⟩
set_option maxRecDepth 100000 in
theorem cw_131_1_n {l : Launch} {D : va_G} {b0 : Nat} {ad : Nat → Nat} {Hb : Heap} {tau : Nat → Int64} {d n s : Nat} {S : Nat → xS} {Z : xZ} {h : mx_H} {Post : mx_R → Prop} (hx : XH n s S Z h) (hG : GI n S Z)  {x0 : Int} (p0 : (-2147483648) ≤ x0 ∧ x0 ≤ (-1)) (hP : ∀ z : Int, (-2) ≤ z ∧ z ≤ (-2) → Post (some (xI z), h)) : mx_J (tB l D b0 ad Hb tau) mt_131 (d + 0) 0 [some (.ref 1), some (xI x0)] [] h Post := by
    refine mx_J.step (sn_131 0) (fun _ _ => rfl) ?_
    refine Jif_lt (show mx_Sn _ _ 1 (mx_if_lt 9 4) from sn_131 1) (by omega) (fun q1 => ?_) (fun q1 => ?_)
    · skip
      refine JcI (z := (-2)) (show mx_Sn _ _ 9 (mx_const (.int (-2)) 11) from sn_131 9) rfl ?_
      exact mx_J.ret (sn_131 11) (fun _ _ => rfl) (hP (-2) (by omega))
    · skip
      exfalso; omega
theorem ct_131_1_n {l : Launch} {D : va_G} {b0 : Nat} {ad : Nat → Nat} {Hb : Heap} {tau : Nat → Int64} {d n s : Nat} {S : Nat → xS} {Z : xZ} {h : mx_H} (hx : XH n s S Z h) (hG : GI n S Z)  {x0 : Int} (p0 : (-2147483648) ≤ x0 ∧ x0 ≤ (-1)) : ∃ z : Int, mx_Ca (tB l D b0 ad Hb tau) (d + 1) 131 [.ref 1, xI x0] h (some (xI z), h) ∧ ((-2) ≤ z ∧ z ≤ (-2)) := by
  obtain ⟨r, hca, z, e, hp⟩ := Jmt (B := tB l D b0 ad Hb tau) (M := mt_131) (mi := 131) (as := [.ref 1, xI x0]) (d := d + 0) (ls := [some (.ref 1), some (xI x0)]) rfl rfl rfl rfl rfl rfl (cw_131_1_n (l := l) (D := D) (b0 := b0) (ad := ad) (Hb := Hb) (tau := tau) (d := d) (Post := fun r => ∃ z : Int, r = (some (xI z), h) ∧ ((-2) ≤ z ∧ z ≤ (-2))) hx hG p0 (fun z hz => ⟨z, rfl, hz⟩))
  subst e; exact ⟨z, hca, hp⟩
set_option maxRecDepth 100000 in
theorem cw_131_1_p {l : Launch} {D : va_G} {b0 : Nat} {ad : Nat → Nat} {Hb : Heap} {tau : Nat → Int64} {d n s : Nat} {S : Nat → xS} {Z : xZ} {h : mx_H} {Post : mx_R → Prop} (hx : XH n s S Z h) (hG : GI n S Z)  {x0 : Int} (p0 : 2 ≤ x0 ∧ x0 ≤ 2147483647) (hP : ∀ z : Int, (-2) ≤ z ∧ z ≤ (-2) → Post (some (xI z), h)) : mx_J (tB l D b0 ad Hb tau) mt_131 (d + 0) 0 [some (.ref 1), some (xI x0)] [] h Post := by
    refine mx_J.step (sn_131 0) (fun _ _ => rfl) ?_
    have c9 : mx_J (tB l D b0 ad Hb tau) mt_131 (d + 0) 9 [some (.ref 1), some (xI x0)] [] h Post := by
      refine JcI (z := (-2)) (show mx_Sn _ _ 9 (mx_const (.int (-2)) 11) from sn_131 9) rfl ?_
      exact mx_J.ret (sn_131 11) (fun _ _ => rfl) (hP (-2) (by omega))
    refine Jif_lt (show mx_Sn _ _ 1 (mx_if_lt 9 4) from sn_131 1) (by omega) (fun q2 => ?_) (fun q2 => ?_)
    · skip
      exact c9 
    · skip
      refine mx_J.step (sn_131 4) (fun _ _ => rfl) ?_
      refine JcI (z := 2) (show mx_Sn _ _ 5 (mx_const (.int 2) 6) from sn_131 5) rfl ?_
      refine Jicmp_lt (show mx_Sn _ _ 6 (mx_icmp_lt 12 9) from sn_131 6) (by omega) (by omega) (fun q3 => ?_) (fun q3 => ?_)
      · skip
        exfalso; omega
      · skip
        exact c9 
theorem ct_131_1_p {l : Launch} {D : va_G} {b0 : Nat} {ad : Nat → Nat} {Hb : Heap} {tau : Nat → Int64} {d n s : Nat} {S : Nat → xS} {Z : xZ} {h : mx_H} (hx : XH n s S Z h) (hG : GI n S Z)  {x0 : Int} (p0 : 2 ≤ x0 ∧ x0 ≤ 2147483647) : ∃ z : Int, mx_Ca (tB l D b0 ad Hb tau) (d + 1) 131 [.ref 1, xI x0] h (some (xI z), h) ∧ ((-2) ≤ z ∧ z ≤ (-2)) := by
  obtain ⟨r, hca, z, e, hp⟩ := Jmt (B := tB l D b0 ad Hb tau) (M := mt_131) (mi := 131) (as := [.ref 1, xI x0]) (d := d + 0) (ls := [some (.ref 1), some (xI x0)]) rfl rfl rfl rfl rfl rfl (cw_131_1_p (l := l) (D := D) (b0 := b0) (ad := ad) (Hb := Hb) (tau := tau) (d := d) (Post := fun r => ∃ z : Int, r = (some (xI z), h) ∧ ((-2) ≤ z ∧ z ≤ (-2))) hx hG p0 (fun z hz => ⟨z, rfl, hz⟩))
  subst e; exact ⟨z, hca, hp⟩
theorem ct_131_1 {l : Launch} {D : va_G} {b0 : Nat} {ad : Nat → Nat} {Hb : Heap} {tau : Nat → Int64} {d n s : Nat} {S : Nat → xS} {Z : xZ} {h : mx_H} (hx : XH n s S Z h) (hG : GI n S Z) {x0 : Int} (p0 : (-2147483648) ≤ x0 ∧ x0 ≤ 2147483647) : ∃ (z : Int) (Z' : xZ) (h' : mx_H), mx_Ca (tB l D b0 ad Hb tau) (d + 2) 131 [.ref 1, xI x0] h (some (xI z), h') ∧ XH n s S Z' h' ∧ GI n S Z' ∧ fr' [(52, 0), (52, 1), (52, 2), (52, 3), (52, 4), (52, 5), (54, 0), (54, 1), (54, 2), (54, 3), (54, 4), (54, 5)] Z Z' ∧ ((-2) ≤ z ∧ z ≤ 0) := by
  have hc : x0 = 0 ∨ x0 = 1 ∨ ((-2147483648) ≤ x0 ∧ x0 ≤ (-1)) ∨ (2 ≤ x0 ∧ x0 ≤ 2147483647) := by omega
  rcases hc with hc | hc | hc | hc
  · subst hc
    obtain ⟨z, Z', h', hca, q1, q2, q3, b⟩ := ct_131_1_i0 (d := d + 0) (l := l) (D := D) (b0 := b0) (ad := ad) (Hb := Hb) (tau := tau) hx hG 
    exact ⟨z, Z', h', hca, q1, q2, fr_tr (M1 := []) fr_rf q3 rfl rfl, by omega⟩
  · subst hc
    obtain ⟨z, Z', h', hca, q1, q2, q3, b⟩ := ct_131_1_i1 (d := d + 0) (l := l) (D := D) (b0 := b0) (ad := ad) (Hb := Hb) (tau := tau) hx hG 
    exact ⟨z, Z', h', hca, q1, q2, fr_tr (M1 := []) fr_rf q3 rfl rfl, by omega⟩
  · skip
    obtain ⟨z, hca, b⟩ := ct_131_1_n (d := d + 1) (l := l) (D := D) (b0 := b0) (ad := ad) (Hb := Hb) (tau := tau) hx hG hc
    exact ⟨z, Z, h, hca, hx, hG, fr_rf, by omega⟩
  · skip
    obtain ⟨z, hca, b⟩ := ct_131_1_p (d := d + 1) (l := l) (D := D) (b0 := b0) (ad := ad) (Hb := Hb) (tau := tau) hx hG hc
    exact ⟨z, Z, h, hca, hx, hG, fr_rf, by omega⟩
set_option maxRecDepth 100000 in
theorem cw_132_1_i0 {l : Launch} {D : va_G} {b0 : Nat} {ad : Nat → Nat} {Hb : Heap} {tau : Nat → Int64} {d n s : Nat} {S : Nat → xS} {Z : xZ} {h : mx_H} {Post : mx_R → Prop} (hx : XH n s S Z h) (hG : GI n S Z)   (hP : ∀ (z : Int) (Z' : xZ) (h' : mx_H), XH n s S Z' h' → GI n S Z' → fr' [(7, 4), (7, 5), (9, (-1)), (10, (-1)), (11, (-1)), (12, 1), (12, 2), (17, (-1)), (36, 0), (36, 1), (36, 2), (36, 3), (36, 4), (40, 1)] Z Z' → (-5) ≤ z ∧ z ≤ 0 → Post (some (xI z), h')) : mx_J (tB l D b0 ad Hb tau) mt_132 (d + 4) 0 [some (.ref 1), some (xI 0)] [] h Post := by
    have a1 : 1 < n := lt83 (GI_n hG) rfl
    have s1 : S 1 = .inl (11, [2, 0, 0, 0, 2, 2, 2, 2, 2, 2, 2, 2, 2, 2, 2, 2, 2]) := GI_s hG 1 rfl
    have a35 : 35 < n := lt83 (GI_n hG) rfl
    have s35 : S 35 = .inr ((.object "TitheHeap$Moment"), 2, 2) := GI_s hG 35 rfl
    have a36 : 36 < n := lt83 (GI_n hG) rfl
    have s36 : S 36 = .inl (5, [2, 0, 0, 0, 0, 0]) := GI_s hG 36 rfl
    have a52 : 52 < n := lt83 (GI_n hG) rfl
    have s52 : S 52 = .inl (5, [2, 0, 0, 0, 0, 0]) := GI_s hG 52 rfl
    refine mx_J.step (sn_132 0) (fun _ _ => rfl) ?_
    refine Jif_lt (show mx_Sn _ _ 1 (mx_if_lt 9 4) from sn_132 1) (by omega) (fun q1 => ?_) (fun q1 => ?_)
    · skip
      exfalso; omega
    · skip
      refine mx_J.step (sn_132 4) (fun _ _ => rfl) ?_
      refine JcI (z := 2) (show mx_Sn _ _ 5 (mx_const (.int 2) 6) from sn_132 5) rfl ?_
      refine Jicmp_lt (show mx_Sn _ _ 6 (mx_icmp_lt 12 9) from sn_132 6) (by omega) (by omega) (fun q2 => ?_) (fun q2 => ?_)
      · skip
        refine mx_J.step (sn_132 12) (fun _ _ => rfl) ?_
        refine JgetR (g := 11) (b := 35) hx (show mx_Sn _ _ 13 (mx_getf 11 11 16) from sn_132 13) a1 s1 rfl rfl (hG.prr 1 11 rfl) ?_
        refine mx_J.step (sn_132 16) (fun _ _ => rfl) ?_
        refine JaaldR (i := 0) (b := 52) hx (show mx_Sn _ _ 17 (mx_aald 18) from sn_132 17) a35 s35 (by omega) (show Z 35 0 = 52 by have hq := GI_ex hG 35 0; replace hq : ((0 : Int) ≤ 0 → (0 : Int) ≤ 1 → (Z 35 0) = 52 + 2 * 0) := hq; omega) ?_
        have b5 : 0 ≤ Z 52 5 ∧ Z 52 5 ≤ 1 := hG.pr 52 5
        refine JgetI (g := 5) (z := Z 52 5) hx (show mx_Sn _ _ 18 (mx_getf 5 5 21) from sn_132 18) a52 s52 rfl rfl rfl ?_
        refine Jif_ne (show mx_Sn _ _ 21 (mx_if_ne 27 24) from sn_132 21) (by omega) (fun q6 => ?_) (fun q6 => ?_)
        · skip
          refine mx_J.step (sn_132 27) (fun _ _ => rfl) ?_
          refine JgetR (g := 12) (b := 36) hx (show mx_Sn _ _ 28 (mx_getf 11 12 31) from sn_132 28) a1 s1 rfl rfl (hG.prr 1 12 rfl) ?_
          refine mx_J.step (sn_132 31) (fun _ _ => rfl) ?_
          refine JgetR (g := 11) (b := 35) hx (show mx_Sn _ _ 32 (mx_getf 11 11 35) from sn_132 32) a1 s1 rfl rfl (hG.prr 1 11 rfl) ?_
          refine mx_J.step (sn_132 35) (fun _ _ => rfl) ?_
          refine JaaldR (i := 0) (b := 52) hx (show mx_Sn _ _ 36 (mx_aald 37) from sn_132 36) a35 s35 (by omega) (show Z 35 0 = 52 by have hq := GI_ex hG 35 0; replace hq : ((0 : Int) ≤ 0 → (0 : Int) ≤ 1 → (Z 35 0) = 52 + 2 * 0) := hq; omega) ?_
          obtain ⟨Z9, h9, hc9, hx9, hG9, hf9⟩ := ct_33_36_52 (d := d + 3) (l := l) (D := D) (b0 := b0) (ad := ad) (Hb := Hb) (tau := tau) hx hG 
          refine Jcv0 hx (show mx_Sn _ _ 37 (mx_callv 33 2 5 40) from sn_132 37) a36 s36 hc9 rfl rfl rfl ?_
          refine mx_J.step (sn_132 40) (fun _ _ => rfl) ?_
          obtain ⟨Z10, h10, hc10, hx10, hG10, hf10⟩ := ct_135_1 (d := d + 0) (l := l) (D := D) (b0 := b0) (ad := ad) (Hb := Hb) (tau := tau) hx9 hG9 
          refine Jcv0 hx9 (show mx_Sn _ _ 41 (mx_callv 135 1 11 44) from sn_132 41) a1 s1 hc10 rfl rfl rfl ?_
          refine JcI (z := 0) (show mx_Sn _ _ 44 (mx_const (.int 0) 45) from sn_132 44) rfl ?_
          exact mx_J.ret (sn_132 45) (fun _ _ => rfl) (hP 0 Z10 h10 hx10 hG10 (fr_tr (M := [(7, 4), (7, 5), (9, (-1)), (10, (-1)), (11, (-1)), (12, 1), (12, 2), (17, (-1)), (36, 0), (36, 1), (36, 2), (36, 3), (36, 4), (40, 1)]) (fr_tr (M := [(7, 4), (7, 5), (9, (-1)), (10, (-1)), (11, (-1)), (12, 1), (12, 2), (17, (-1)), (36, 0), (36, 1), (36, 2), (36, 3), (36, 4), (40, 1)]) fr_rf (hf9) (M1 := []) rfl rfl) (hf10) rfl rfl) (by omega))
        · skip
          refine JcI (z := (-5)) (show mx_Sn _ _ 24 (mx_const (.int (-5)) 26) from sn_132 24) rfl ?_
          exact mx_J.ret (sn_132 26) (fun _ _ => rfl) (hP (-5) Z h hx hG fr_rf (by omega))
      · skip
        exfalso; omega
theorem ct_132_1_i0 {l : Launch} {D : va_G} {b0 : Nat} {ad : Nat → Nat} {Hb : Heap} {tau : Nat → Int64} {d n s : Nat} {S : Nat → xS} {Z : xZ} {h : mx_H} (hx : XH n s S Z h) (hG : GI n S Z)   : ∃ (z : Int) (Z' : xZ) (h' : mx_H), mx_Ca (tB l D b0 ad Hb tau) (d + 5) 132 [.ref 1, xI 0] h (some (xI z), h') ∧ XH n s S Z' h' ∧ GI n S Z' ∧ fr' [(7, 4), (7, 5), (9, (-1)), (10, (-1)), (11, (-1)), (12, 1), (12, 2), (17, (-1)), (36, 0), (36, 1), (36, 2), (36, 3), (36, 4), (40, 1)] Z Z' ∧ ((-5) ≤ z ∧ z ≤ 0) := by
  obtain ⟨r, hca, z, Z', h', e, q⟩ := Jmt (B := tB l D b0 ad Hb tau) (M := mt_132) (mi := 132) (as := [.ref 1, xI 0]) (d := d + 4) (ls := [some (.ref 1), some (xI 0)]) rfl rfl rfl rfl rfl rfl (cw_132_1_i0 (l := l) (D := D) (b0 := b0) (ad := ad) (Hb := Hb) (tau := tau) (d := d) (Post := fun r => ∃ (z : Int) (Z' : xZ) (h' : mx_H), r = (some (xI z), h') ∧ XH n s S Z' h' ∧ GI n S Z' ∧ fr' [(7, 4), (7, 5), (9, (-1)), (10, (-1)), (11, (-1)), (12, 1), (12, 2), (17, (-1)), (36, 0), (36, 1), (36, 2), (36, 3), (36, 4), (40, 1)] Z Z' ∧ ((-5) ≤ z ∧ z ≤ 0)) hx hG  (fun z Z' h' q1 q2 q3 q4 => ⟨z, Z', h', rfl, q1, q2, q3, q4⟩))
  subst e; exact ⟨z, Z', h', hca, q⟩
set_option maxRecDepth 100000 in
theorem cw_132_1_i1 {l : Launch} {D : va_G} {b0 : Nat} {ad : Nat → Nat} {Hb : Heap} {tau : Nat → Int64} {d n s : Nat} {S : Nat → xS} {Z : xZ} {h : mx_H} {Post : mx_R → Prop} (hx : XH n s S Z h) (hG : GI n S Z)   (hP : ∀ (z : Int) (Z' : xZ) (h' : mx_H), XH n s S Z' h' → GI n S Z' → fr' [(7, 4), (7, 5), (9, (-1)), (10, (-1)), (11, (-1)), (12, 1), (12, 2), (17, (-1)), (36, 0), (36, 1), (36, 2), (36, 3), (36, 4), (40, 1)] Z Z' → (-5) ≤ z ∧ z ≤ 0 → Post (some (xI z), h')) : mx_J (tB l D b0 ad Hb tau) mt_132 (d + 4) 0 [some (.ref 1), some (xI 1)] [] h Post := by
    have a1 : 1 < n := lt83 (GI_n hG) rfl
    have s1 : S 1 = .inl (11, [2, 0, 0, 0, 2, 2, 2, 2, 2, 2, 2, 2, 2, 2, 2, 2, 2]) := GI_s hG 1 rfl
    have a35 : 35 < n := lt83 (GI_n hG) rfl
    have s35 : S 35 = .inr ((.object "TitheHeap$Moment"), 2, 2) := GI_s hG 35 rfl
    have a36 : 36 < n := lt83 (GI_n hG) rfl
    have s36 : S 36 = .inl (5, [2, 0, 0, 0, 0, 0]) := GI_s hG 36 rfl
    have a54 : 54 < n := lt83 (GI_n hG) rfl
    have s54 : S 54 = .inl (5, [2, 0, 0, 0, 0, 0]) := GI_s hG 54 rfl
    refine mx_J.step (sn_132 0) (fun _ _ => rfl) ?_
    refine Jif_lt (show mx_Sn _ _ 1 (mx_if_lt 9 4) from sn_132 1) (by omega) (fun q1 => ?_) (fun q1 => ?_)
    · skip
      exfalso; omega
    · skip
      refine mx_J.step (sn_132 4) (fun _ _ => rfl) ?_
      refine JcI (z := 2) (show mx_Sn _ _ 5 (mx_const (.int 2) 6) from sn_132 5) rfl ?_
      refine Jicmp_lt (show mx_Sn _ _ 6 (mx_icmp_lt 12 9) from sn_132 6) (by omega) (by omega) (fun q2 => ?_) (fun q2 => ?_)
      · skip
        refine mx_J.step (sn_132 12) (fun _ _ => rfl) ?_
        refine JgetR (g := 11) (b := 35) hx (show mx_Sn _ _ 13 (mx_getf 11 11 16) from sn_132 13) a1 s1 rfl rfl (hG.prr 1 11 rfl) ?_
        refine mx_J.step (sn_132 16) (fun _ _ => rfl) ?_
        refine JaaldR (i := 1) (b := 54) hx (show mx_Sn _ _ 17 (mx_aald 18) from sn_132 17) a35 s35 (by omega) (show Z 35 1 = 54 by have hq := GI_ex hG 35 1; replace hq : ((0 : Int) ≤ 1 → (1 : Int) ≤ 1 → (Z 35 1) = 52 + 2 * 1) := hq; omega) ?_
        have b5 : 0 ≤ Z 54 5 ∧ Z 54 5 ≤ 1 := hG.pr 54 5
        refine JgetI (g := 5) (z := Z 54 5) hx (show mx_Sn _ _ 18 (mx_getf 5 5 21) from sn_132 18) a54 s54 rfl rfl rfl ?_
        refine Jif_ne (show mx_Sn _ _ 21 (mx_if_ne 27 24) from sn_132 21) (by omega) (fun q6 => ?_) (fun q6 => ?_)
        · skip
          refine mx_J.step (sn_132 27) (fun _ _ => rfl) ?_
          refine JgetR (g := 12) (b := 36) hx (show mx_Sn _ _ 28 (mx_getf 11 12 31) from sn_132 28) a1 s1 rfl rfl (hG.prr 1 12 rfl) ?_
          refine mx_J.step (sn_132 31) (fun _ _ => rfl) ?_
          refine JgetR (g := 11) (b := 35) hx (show mx_Sn _ _ 32 (mx_getf 11 11 35) from sn_132 32) a1 s1 rfl rfl (hG.prr 1 11 rfl) ?_
          refine mx_J.step (sn_132 35) (fun _ _ => rfl) ?_
          refine JaaldR (i := 1) (b := 54) hx (show mx_Sn _ _ 36 (mx_aald 37) from sn_132 36) a35 s35 (by omega) (show Z 35 1 = 54 by have hq := GI_ex hG 35 1; replace hq : ((0 : Int) ≤ 1 → (1 : Int) ≤ 1 → (Z 35 1) = 52 + 2 * 1) := hq; omega) ?_
          obtain ⟨Z9, h9, hc9, hx9, hG9, hf9⟩ := ct_33_36_54 (d := d + 3) (l := l) (D := D) (b0 := b0) (ad := ad) (Hb := Hb) (tau := tau) hx hG 
          refine Jcv0 hx (show mx_Sn _ _ 37 (mx_callv 33 2 5 40) from sn_132 37) a36 s36 hc9 rfl rfl rfl ?_
          refine mx_J.step (sn_132 40) (fun _ _ => rfl) ?_
          obtain ⟨Z10, h10, hc10, hx10, hG10, hf10⟩ := ct_135_1 (d := d + 0) (l := l) (D := D) (b0 := b0) (ad := ad) (Hb := Hb) (tau := tau) hx9 hG9 
          refine Jcv0 hx9 (show mx_Sn _ _ 41 (mx_callv 135 1 11 44) from sn_132 41) a1 s1 hc10 rfl rfl rfl ?_
          refine JcI (z := 0) (show mx_Sn _ _ 44 (mx_const (.int 0) 45) from sn_132 44) rfl ?_
          exact mx_J.ret (sn_132 45) (fun _ _ => rfl) (hP 0 Z10 h10 hx10 hG10 (fr_tr (M := [(7, 4), (7, 5), (9, (-1)), (10, (-1)), (11, (-1)), (12, 1), (12, 2), (17, (-1)), (36, 0), (36, 1), (36, 2), (36, 3), (36, 4), (40, 1)]) (fr_tr (M := [(7, 4), (7, 5), (9, (-1)), (10, (-1)), (11, (-1)), (12, 1), (12, 2), (17, (-1)), (36, 0), (36, 1), (36, 2), (36, 3), (36, 4), (40, 1)]) fr_rf (hf9) (M1 := []) rfl rfl) (hf10) rfl rfl) (by omega))
        · skip
          refine JcI (z := (-5)) (show mx_Sn _ _ 24 (mx_const (.int (-5)) 26) from sn_132 24) rfl ?_
          exact mx_J.ret (sn_132 26) (fun _ _ => rfl) (hP (-5) Z h hx hG fr_rf (by omega))
      · skip
        exfalso; omega
theorem ct_132_1_i1 {l : Launch} {D : va_G} {b0 : Nat} {ad : Nat → Nat} {Hb : Heap} {tau : Nat → Int64} {d n s : Nat} {S : Nat → xS} {Z : xZ} {h : mx_H} (hx : XH n s S Z h) (hG : GI n S Z)   : ∃ (z : Int) (Z' : xZ) (h' : mx_H), mx_Ca (tB l D b0 ad Hb tau) (d + 5) 132 [.ref 1, xI 1] h (some (xI z), h') ∧ XH n s S Z' h' ∧ GI n S Z' ∧ fr' [(7, 4), (7, 5), (9, (-1)), (10, (-1)), (11, (-1)), (12, 1), (12, 2), (17, (-1)), (36, 0), (36, 1), (36, 2), (36, 3), (36, 4), (40, 1)] Z Z' ∧ ((-5) ≤ z ∧ z ≤ 0) := by
  obtain ⟨r, hca, z, Z', h', e, q⟩ := Jmt (B := tB l D b0 ad Hb tau) (M := mt_132) (mi := 132) (as := [.ref 1, xI 1]) (d := d + 4) (ls := [some (.ref 1), some (xI 1)]) rfl rfl rfl rfl rfl rfl (cw_132_1_i1 (l := l) (D := D) (b0 := b0) (ad := ad) (Hb := Hb) (tau := tau) (d := d) (Post := fun r => ∃ (z : Int) (Z' : xZ) (h' : mx_H), r = (some (xI z), h') ∧ XH n s S Z' h' ∧ GI n S Z' ∧ fr' [(7, 4), (7, 5), (9, (-1)), (10, (-1)), (11, (-1)), (12, 1), (12, 2), (17, (-1)), (36, 0), (36, 1), (36, 2), (36, 3), (36, 4), (40, 1)] Z Z' ∧ ((-5) ≤ z ∧ z ≤ 0)) hx hG  (fun z Z' h' q1 q2 q3 q4 => ⟨z, Z', h', rfl, q1, q2, q3, q4⟩))
  subst e; exact ⟨z, Z', h', hca, q⟩
set_option maxRecDepth 100000 in
theorem cw_132_1_n {l : Launch} {D : va_G} {b0 : Nat} {ad : Nat → Nat} {Hb : Heap} {tau : Nat → Int64} {d n s : Nat} {S : Nat → xS} {Z : xZ} {h : mx_H} {Post : mx_R → Prop} (hx : XH n s S Z h) (hG : GI n S Z)  {x0 : Int} (p0 : (-2147483648) ≤ x0 ∧ x0 ≤ (-1)) (hP : ∀ z : Int, (-2) ≤ z ∧ z ≤ (-2) → Post (some (xI z), h)) : mx_J (tB l D b0 ad Hb tau) mt_132 (d + 0) 0 [some (.ref 1), some (xI x0)] [] h Post := by
    refine mx_J.step (sn_132 0) (fun _ _ => rfl) ?_
    refine Jif_lt (show mx_Sn _ _ 1 (mx_if_lt 9 4) from sn_132 1) (by omega) (fun q1 => ?_) (fun q1 => ?_)
    · skip
      refine JcI (z := (-2)) (show mx_Sn _ _ 9 (mx_const (.int (-2)) 11) from sn_132 9) rfl ?_
      exact mx_J.ret (sn_132 11) (fun _ _ => rfl) (hP (-2) (by omega))
    · skip
      exfalso; omega
theorem ct_132_1_n {l : Launch} {D : va_G} {b0 : Nat} {ad : Nat → Nat} {Hb : Heap} {tau : Nat → Int64} {d n s : Nat} {S : Nat → xS} {Z : xZ} {h : mx_H} (hx : XH n s S Z h) (hG : GI n S Z)  {x0 : Int} (p0 : (-2147483648) ≤ x0 ∧ x0 ≤ (-1)) : ∃ z : Int, mx_Ca (tB l D b0 ad Hb tau) (d + 1) 132 [.ref 1, xI x0] h (some (xI z), h) ∧ ((-2) ≤ z ∧ z ≤ (-2)) := by
  obtain ⟨r, hca, z, e, hp⟩ := Jmt (B := tB l D b0 ad Hb tau) (M := mt_132) (mi := 132) (as := [.ref 1, xI x0]) (d := d + 0) (ls := [some (.ref 1), some (xI x0)]) rfl rfl rfl rfl rfl rfl (cw_132_1_n (l := l) (D := D) (b0 := b0) (ad := ad) (Hb := Hb) (tau := tau) (d := d) (Post := fun r => ∃ z : Int, r = (some (xI z), h) ∧ ((-2) ≤ z ∧ z ≤ (-2))) hx hG p0 (fun z hz => ⟨z, rfl, hz⟩))
  subst e; exact ⟨z, hca, hp⟩
set_option maxRecDepth 100000 in
theorem cw_132_1_p {l : Launch} {D : va_G} {b0 : Nat} {ad : Nat → Nat} {Hb : Heap} {tau : Nat → Int64} {d n s : Nat} {S : Nat → xS} {Z : xZ} {h : mx_H} {Post : mx_R → Prop} (hx : XH n s S Z h) (hG : GI n S Z)  {x0 : Int} (p0 : 2 ≤ x0 ∧ x0 ≤ 2147483647) (hP : ∀ z : Int, (-2) ≤ z ∧ z ≤ (-2) → Post (some (xI z), h)) : mx_J (tB l D b0 ad Hb tau) mt_132 (d + 0) 0 [some (.ref 1), some (xI x0)] [] h Post := by
    refine mx_J.step (sn_132 0) (fun _ _ => rfl) ?_
    have c9 : mx_J (tB l D b0 ad Hb tau) mt_132 (d + 0) 9 [some (.ref 1), some (xI x0)] [] h Post := by
      refine JcI (z := (-2)) (show mx_Sn _ _ 9 (mx_const (.int (-2)) 11) from sn_132 9) rfl ?_
      exact mx_J.ret (sn_132 11) (fun _ _ => rfl) (hP (-2) (by omega))
    refine Jif_lt (show mx_Sn _ _ 1 (mx_if_lt 9 4) from sn_132 1) (by omega) (fun q2 => ?_) (fun q2 => ?_)
    · skip
      exact c9 
    · skip
      refine mx_J.step (sn_132 4) (fun _ _ => rfl) ?_
      refine JcI (z := 2) (show mx_Sn _ _ 5 (mx_const (.int 2) 6) from sn_132 5) rfl ?_
      refine Jicmp_lt (show mx_Sn _ _ 6 (mx_icmp_lt 12 9) from sn_132 6) (by omega) (by omega) (fun q3 => ?_) (fun q3 => ?_)
      · skip
        exfalso; omega
      · skip
        exact c9 
theorem ct_132_1_p {l : Launch} {D : va_G} {b0 : Nat} {ad : Nat → Nat} {Hb : Heap} {tau : Nat → Int64} {d n s : Nat} {S : Nat → xS} {Z : xZ} {h : mx_H} (hx : XH n s S Z h) (hG : GI n S Z)  {x0 : Int} (p0 : 2 ≤ x0 ∧ x0 ≤ 2147483647) : ∃ z : Int, mx_Ca (tB l D b0 ad Hb tau) (d + 1) 132 [.ref 1, xI x0] h (some (xI z), h) ∧ ((-2) ≤ z ∧ z ≤ (-2)) := by
  obtain ⟨r, hca, z, e, hp⟩ := Jmt (B := tB l D b0 ad Hb tau) (M := mt_132) (mi := 132) (as := [.ref 1, xI x0]) (d := d + 0) (ls := [some (.ref 1), some (xI x0)]) rfl rfl rfl rfl rfl rfl (cw_132_1_p (l := l) (D := D) (b0 := b0) (ad := ad) (Hb := Hb) (tau := tau) (d := d) (Post := fun r => ∃ z : Int, r = (some (xI z), h) ∧ ((-2) ≤ z ∧ z ≤ (-2))) hx hG p0 (fun z hz => ⟨z, rfl, hz⟩))
  subst e; exact ⟨z, hca, hp⟩
theorem ct_132_1 {l : Launch} {D : va_G} {b0 : Nat} {ad : Nat → Nat} {Hb : Heap} {tau : Nat → Int64} {d n s : Nat} {S : Nat → xS} {Z : xZ} {h : mx_H} (hx : XH n s S Z h) (hG : GI n S Z) {x0 : Int} (p0 : (-2147483648) ≤ x0 ∧ x0 ≤ 2147483647) : ∃ (z : Int) (Z' : xZ) (h' : mx_H), mx_Ca (tB l D b0 ad Hb tau) (d + 5) 132 [.ref 1, xI x0] h (some (xI z), h') ∧ XH n s S Z' h' ∧ GI n S Z' ∧ fr' [(7, 4), (7, 5), (9, (-1)), (10, (-1)), (11, (-1)), (12, 1), (12, 2), (17, (-1)), (36, 0), (36, 1), (36, 2), (36, 3), (36, 4), (40, 1)] Z Z' ∧ ((-5) ≤ z ∧ z ≤ 0) := by
  have hc : x0 = 0 ∨ x0 = 1 ∨ ((-2147483648) ≤ x0 ∧ x0 ≤ (-1)) ∨ (2 ≤ x0 ∧ x0 ≤ 2147483647) := by omega
  rcases hc with hc | hc | hc | hc
  · subst hc
    obtain ⟨z, Z', h', hca, q1, q2, q3, b⟩ := ct_132_1_i0 (d := d + 0) (l := l) (D := D) (b0 := b0) (ad := ad) (Hb := Hb) (tau := tau) hx hG 
    exact ⟨z, Z', h', hca, q1, q2, fr_tr (M1 := []) fr_rf q3 rfl rfl, by omega⟩
  · subst hc
    obtain ⟨z, Z', h', hca, q1, q2, q3, b⟩ := ct_132_1_i1 (d := d + 0) (l := l) (D := D) (b0 := b0) (ad := ad) (Hb := Hb) (tau := tau) hx hG 
    exact ⟨z, Z', h', hca, q1, q2, fr_tr (M1 := []) fr_rf q3 rfl rfl, by omega⟩
  · skip
    obtain ⟨z, hca, b⟩ := ct_132_1_n (d := d + 4) (l := l) (D := D) (b0 := b0) (ad := ad) (Hb := Hb) (tau := tau) hx hG hc
    exact ⟨z, Z, h, hca, hx, hG, fr_rf, by omega⟩
  · skip
    obtain ⟨z, hca, b⟩ := ct_132_1_p (d := d + 4) (l := l) (D := D) (b0 := b0) (ad := ad) (Hb := Hb) (tau := tau) hx hG hc
    exact ⟨z, Z, h, hca, hx, hG, fr_rf, by omega⟩
set_option maxRecDepth 100000 in
theorem cw_109_1_i0 {l : Launch} {D : va_G} {b0 : Nat} {ad : Nat → Nat} {Hb : Heap} {tau : Nat → Int64} {d n s : Nat} {S : Nat → xS} {Z : xZ} {h : mx_H} {Post : mx_R → Prop} (hx : XH n s S Z h) (hG : GI n S Z)  {x1 : Int} (p1 : (-2147483648) ≤ x1 ∧ x1 ≤ 2147483647) (hP : ∀ (z : Int) (Z' : xZ) (h' : mx_H), XH n s S Z' h' → GI n S Z' → fr' [(14, (-1)), (16, (-1)), (17, (-1)), (18, (-1)), (19, (-1)), (25, 8), (26, (-1)), (27, (-1)), (28, (-1)), (29, (-1)), (42, (-1))] Z Z' → (-6) ≤ z ∧ z ≤ 18 → Post (some (xI z), h')) : mx_J (tB l D b0 ad Hb tau) mt_109 (d + 6) 0 [some (.ref 1), some (xI 0), some (xI x1), none, none] [] h Post := by
    have a1 : 1 < n := lt83 (GI_n hG) rfl
    have s1 : S 1 = .inl (11, [2, 0, 0, 0, 2, 2, 2, 2, 2, 2, 2, 2, 2, 2, 2, 2, 2]) := GI_s hG 1 rfl
    have a25 : 25 < n := lt83 (GI_n hG) rfl
    have s25 : S 25 = .inl (8, [2, 2, 2, 2, 2, 2, 2, 2, 0]) := GI_s hG 25 rfl
    have a36 : 36 < n := lt83 (GI_n hG) rfl
    have s36 : S 36 = .inl (5, [2, 0, 0, 0, 0, 0]) := GI_s hG 36 rfl
    refine mx_J.step (sn_109 0) (fun _ _ => rfl) ?_
    refine mx_J.step (sn_109 1) (fun _ _ => rfl) ?_
    obtain ⟨z1, Z1, h1, hc1, hx1, hG1, hf1, b1⟩ := ct_145_1_i0 (d := d + 3) (l := l) (D := D) (b0 := b0) (ad := ad) (Hb := Hb) (tau := tau) hx hG 
    refine Jcv hx (show mx_Sn _ _ 2 (mx_callv 145 2 11 5) from sn_109 2) a1 s1 hc1 rfl rfl rfl ?_
    refine mx_J.step (ls2 := [some (.ref 1), some (xI 0), some (xI x1), some (xI z1), none]) (sn_109 5) (fun _ _ => rfl) ?_
    refine mx_J.step (sn_109 6) (fun _ _ => rfl) ?_
    refine Jif_ge (show mx_Sn _ _ 7 (mx_if_ge 12 10) from sn_109 7) (by omega) (fun q2 => ?_) (fun q2 => ?_)
    · skip
      refine mx_J.step (sn_109 12) (fun _ _ => rfl) ?_
      refine Jif_ge (show mx_Sn _ _ 13 (mx_if_ge 19 16) from sn_109 13) (by omega) (fun q3 => ?_) (fun q3 => ?_)
      · skip
        refine mx_J.step (sn_109 19) (fun _ _ => rfl) ?_
        refine JgetR (g := 8) (b := 25) hx1 (show mx_Sn _ _ 20 (mx_getf 11 8 23) from sn_109 20) a1 s1 rfl rfl (hG1.prr 1 8 rfl) ?_
        refine mx_J.step (sn_109 23) (fun _ _ => rfl) ?_
        refine JgetR (g := 12) (b := 36) hx1 (show mx_Sn _ _ 24 (mx_getf 11 12 27) from sn_109 24) a1 s1 rfl rfl (hG1.prr 1 12 rfl) ?_
        have b7 : 0 ≤ Z 36 2 ∧ Z 36 2 ≤ 384 := hG.pr 36 2
        refine JgetI (g := 2) (z := Z 36 2) hx1 (show mx_Sn _ _ 27 (mx_getf 5 2 30) from sn_109 27) a36 s36 rfl rfl (hf1 36 2 rfl) ?_
        refine mx_J.step (sn_109 30) (fun _ _ => rfl) ?_
        obtain ⟨z8, Z8, h8, hc8, hx8, hG8, hf8, b8⟩ := ct_61_25 (d := d + 0) (l := l) (D := D) (b0 := b0) (ad := ad) (Hb := Hb) (tau := tau) hx1 hG1 (show 0 ≤ Z 36 2 ∧ Z 36 2 ≤ 384 by omega) (show (-1) ≤ z1 ∧ z1 ≤ 384 by omega)
        refine Jcv hx1 (show mx_Sn _ _ 31 (mx_callv 61 3 8 34) from sn_109 31) a25 s25 hc8 rfl rfl rfl ?_
        refine mx_J.step (ls2 := [some (.ref 1), some (xI 0), some (xI x1), some (xI z1), some (xI z8)]) (sn_109 34) (fun _ _ => rfl) ?_
        refine mx_J.step (sn_109 36) (fun _ _ => rfl) ?_
        refine mx_J.step (sn_109 37) (fun _ _ => rfl) ?_
        have c60 : ∀ (k9_0 : Int), (-1) ≤ k9_0 ∧ k9_0 ≤ 18 → mx_J (tB l D b0 ad Hb tau) mt_109 (d + 6) 60 [some (.ref 1), some (xI 0), some (xI x1), some (xI z1), some (xI z8)] [xI k9_0] h8 Post := by
          intro k9_0 f9_0
          exact mx_J.ret (sn_109 60) (fun _ _ => rfl) (hP k9_0 Z8 h8 hx8 hG8 (fr_tr (M := [(14, (-1)), (16, (-1)), (17, (-1)), (18, (-1)), (19, (-1)), (25, 8), (26, (-1)), (27, (-1)), (28, (-1)), (29, (-1)), (42, (-1))]) (fr_tr (M := [(14, (-1)), (16, (-1)), (17, (-1)), (18, (-1)), (19, (-1)), (25, 8), (26, (-1)), (27, (-1)), (28, (-1)), (29, (-1)), (42, (-1))]) fr_rf (hf1) (M1 := []) rfl rfl) (hf8) rfl rfl) (by omega))
        refine Jicmp_ge (show mx_Sn _ _ 39 (mx_icmp_ge 59 42) from sn_109 39) (by omega) (by omega) (fun q10 => ?_) (fun q10 => ?_)
        · skip
          refine JcI (z := (-1)) (show mx_Sn _ _ 59 (mx_const (.int (-1)) 60) from sn_109 59) rfl ?_
          exact c60 (-1) (by omega)
        · skip
          refine mx_J.step (sn_109 42) (fun _ _ => rfl) ?_
          refine JgetR (g := 8) (b := 25) hx8 (show mx_Sn _ _ 43 (mx_getf 11 8 46) from sn_109 43) a1 s1 rfl rfl (hG8.prr 1 8 rfl) ?_
          refine mx_J.step (sn_109 46) (fun _ _ => rfl) ?_
          refine mx_J.step (sn_109 47) (fun _ _ => rfl) ?_
          refine JcI (z := 1) (show mx_Sn _ _ 49 (mx_const (.int 1) 50) from sn_109 49) rfl ?_
          refine Jisub (show mx_Sn _ _ 50 (mx_isub 51) from sn_109 50) ?_
          refine mx_J.step (sn_109 51) (fun _ _ => rfl) ?_
          refine Jisub (show mx_Sn _ _ 52 (mx_isub 53) from sn_109 52) ?_
          obtain ⟨z12, hc12, b12⟩ := ct_63_25 (d := d + 5) (l := l) (D := D) (b0 := b0) (ad := ad) (Hb := Hb) (tau := tau) hx8 hG8 (show 0 ≤ z1 ∧ z1 ≤ 384 by omega) (show (-2147483648) ≤ (z8 - 1) - x1 ∧ (z8 - 1) - x1 ≤ 2147483647 by omega)
          refine Jcv hx8 (show mx_Sn _ _ 53 (mx_callv 63 3 8 56) from sn_109 53) a25 s25 hc12 rfl rfl rfl ?_
          refine mx_J.step (sn_109 56) (fun _ _ => rfl) ?_
          exact c60 z12 (by omega)
      · skip
        refine JcI (z := (-3)) (show mx_Sn _ _ 16 (mx_const (.int (-3)) 18) from sn_109 16) rfl ?_
        exact mx_J.ret (sn_109 18) (fun _ _ => rfl) (hP (-3) Z1 h1 hx1 hG1 (fr_tr (M := [(14, (-1)), (16, (-1)), (17, (-1)), (18, (-1)), (19, (-1)), (25, 8), (26, (-1)), (27, (-1)), (28, (-1)), (29, (-1)), (42, (-1))]) fr_rf (hf1) (M1 := []) rfl rfl) (by omega))
    · skip
      refine mx_J.step (sn_109 10) (fun _ _ => rfl) ?_
      exact mx_J.ret (sn_109 11) (fun _ _ => rfl) (hP z1 Z1 h1 hx1 hG1 (fr_tr (M := [(14, (-1)), (16, (-1)), (17, (-1)), (18, (-1)), (19, (-1)), (25, 8), (26, (-1)), (27, (-1)), (28, (-1)), (29, (-1)), (42, (-1))]) fr_rf (hf1) (M1 := []) rfl rfl) (by omega))
theorem ct_109_1_i0 {l : Launch} {D : va_G} {b0 : Nat} {ad : Nat → Nat} {Hb : Heap} {tau : Nat → Int64} {d n s : Nat} {S : Nat → xS} {Z : xZ} {h : mx_H} (hx : XH n s S Z h) (hG : GI n S Z)  {x1 : Int} (p1 : (-2147483648) ≤ x1 ∧ x1 ≤ 2147483647) : ∃ (z : Int) (Z' : xZ) (h' : mx_H), mx_Ca (tB l D b0 ad Hb tau) (d + 7) 109 [.ref 1, xI 0, xI x1] h (some (xI z), h') ∧ XH n s S Z' h' ∧ GI n S Z' ∧ fr' [(14, (-1)), (16, (-1)), (17, (-1)), (18, (-1)), (19, (-1)), (25, 8), (26, (-1)), (27, (-1)), (28, (-1)), (29, (-1)), (42, (-1))] Z Z' ∧ ((-6) ≤ z ∧ z ≤ 18) := by
  obtain ⟨r, hca, z, Z', h', e, q⟩ := Jmt (B := tB l D b0 ad Hb tau) (M := mt_109) (mi := 109) (as := [.ref 1, xI 0, xI x1]) (d := d + 6) (ls := [some (.ref 1), some (xI 0), some (xI x1), none, none]) rfl rfl rfl rfl rfl rfl (cw_109_1_i0 (l := l) (D := D) (b0 := b0) (ad := ad) (Hb := Hb) (tau := tau) (d := d) (Post := fun r => ∃ (z : Int) (Z' : xZ) (h' : mx_H), r = (some (xI z), h') ∧ XH n s S Z' h' ∧ GI n S Z' ∧ fr' [(14, (-1)), (16, (-1)), (17, (-1)), (18, (-1)), (19, (-1)), (25, 8), (26, (-1)), (27, (-1)), (28, (-1)), (29, (-1)), (42, (-1))] Z Z' ∧ ((-6) ≤ z ∧ z ≤ 18)) hx hG p1 (fun z Z' h' q1 q2 q3 q4 => ⟨z, Z', h', rfl, q1, q2, q3, q4⟩))
  subst e; exact ⟨z, Z', h', hca, q⟩
set_option maxRecDepth 100000 in
theorem cw_109_1_i1 {l : Launch} {D : va_G} {b0 : Nat} {ad : Nat → Nat} {Hb : Heap} {tau : Nat → Int64} {d n s : Nat} {S : Nat → xS} {Z : xZ} {h : mx_H} {Post : mx_R → Prop} (hx : XH n s S Z h) (hG : GI n S Z)  {x1 : Int} (p1 : (-2147483648) ≤ x1 ∧ x1 ≤ 2147483647) (hP : ∀ (z : Int) (Z' : xZ) (h' : mx_H), XH n s S Z' h' → GI n S Z' → fr' [(14, (-1)), (16, (-1)), (17, (-1)), (18, (-1)), (19, (-1)), (25, 8), (26, (-1)), (27, (-1)), (28, (-1)), (29, (-1)), (42, (-1))] Z Z' → (-6) ≤ z ∧ z ≤ 18 → Post (some (xI z), h')) : mx_J (tB l D b0 ad Hb tau) mt_109 (d + 6) 0 [some (.ref 1), some (xI 1), some (xI x1), none, none] [] h Post := by
    have a1 : 1 < n := lt83 (GI_n hG) rfl
    have s1 : S 1 = .inl (11, [2, 0, 0, 0, 2, 2, 2, 2, 2, 2, 2, 2, 2, 2, 2, 2, 2]) := GI_s hG 1 rfl
    have a25 : 25 < n := lt83 (GI_n hG) rfl
    have s25 : S 25 = .inl (8, [2, 2, 2, 2, 2, 2, 2, 2, 0]) := GI_s hG 25 rfl
    have a36 : 36 < n := lt83 (GI_n hG) rfl
    have s36 : S 36 = .inl (5, [2, 0, 0, 0, 0, 0]) := GI_s hG 36 rfl
    refine mx_J.step (sn_109 0) (fun _ _ => rfl) ?_
    refine mx_J.step (sn_109 1) (fun _ _ => rfl) ?_
    obtain ⟨z1, Z1, h1, hc1, hx1, hG1, hf1, b1⟩ := ct_145_1_i1 (d := d + 3) (l := l) (D := D) (b0 := b0) (ad := ad) (Hb := Hb) (tau := tau) hx hG 
    refine Jcv hx (show mx_Sn _ _ 2 (mx_callv 145 2 11 5) from sn_109 2) a1 s1 hc1 rfl rfl rfl ?_
    refine mx_J.step (ls2 := [some (.ref 1), some (xI 1), some (xI x1), some (xI z1), none]) (sn_109 5) (fun _ _ => rfl) ?_
    refine mx_J.step (sn_109 6) (fun _ _ => rfl) ?_
    refine Jif_ge (show mx_Sn _ _ 7 (mx_if_ge 12 10) from sn_109 7) (by omega) (fun q2 => ?_) (fun q2 => ?_)
    · skip
      refine mx_J.step (sn_109 12) (fun _ _ => rfl) ?_
      refine Jif_ge (show mx_Sn _ _ 13 (mx_if_ge 19 16) from sn_109 13) (by omega) (fun q3 => ?_) (fun q3 => ?_)
      · skip
        refine mx_J.step (sn_109 19) (fun _ _ => rfl) ?_
        refine JgetR (g := 8) (b := 25) hx1 (show mx_Sn _ _ 20 (mx_getf 11 8 23) from sn_109 20) a1 s1 rfl rfl (hG1.prr 1 8 rfl) ?_
        refine mx_J.step (sn_109 23) (fun _ _ => rfl) ?_
        refine JgetR (g := 12) (b := 36) hx1 (show mx_Sn _ _ 24 (mx_getf 11 12 27) from sn_109 24) a1 s1 rfl rfl (hG1.prr 1 12 rfl) ?_
        have b7 : 0 ≤ Z 36 2 ∧ Z 36 2 ≤ 384 := hG.pr 36 2
        refine JgetI (g := 2) (z := Z 36 2) hx1 (show mx_Sn _ _ 27 (mx_getf 5 2 30) from sn_109 27) a36 s36 rfl rfl (hf1 36 2 rfl) ?_
        refine mx_J.step (sn_109 30) (fun _ _ => rfl) ?_
        obtain ⟨z8, Z8, h8, hc8, hx8, hG8, hf8, b8⟩ := ct_61_25 (d := d + 0) (l := l) (D := D) (b0 := b0) (ad := ad) (Hb := Hb) (tau := tau) hx1 hG1 (show 0 ≤ Z 36 2 ∧ Z 36 2 ≤ 384 by omega) (show (-1) ≤ z1 ∧ z1 ≤ 384 by omega)
        refine Jcv hx1 (show mx_Sn _ _ 31 (mx_callv 61 3 8 34) from sn_109 31) a25 s25 hc8 rfl rfl rfl ?_
        refine mx_J.step (ls2 := [some (.ref 1), some (xI 1), some (xI x1), some (xI z1), some (xI z8)]) (sn_109 34) (fun _ _ => rfl) ?_
        refine mx_J.step (sn_109 36) (fun _ _ => rfl) ?_
        refine mx_J.step (sn_109 37) (fun _ _ => rfl) ?_
        have c60 : ∀ (k9_0 : Int), (-1) ≤ k9_0 ∧ k9_0 ≤ 18 → mx_J (tB l D b0 ad Hb tau) mt_109 (d + 6) 60 [some (.ref 1), some (xI 1), some (xI x1), some (xI z1), some (xI z8)] [xI k9_0] h8 Post := by
          intro k9_0 f9_0
          exact mx_J.ret (sn_109 60) (fun _ _ => rfl) (hP k9_0 Z8 h8 hx8 hG8 (fr_tr (M := [(14, (-1)), (16, (-1)), (17, (-1)), (18, (-1)), (19, (-1)), (25, 8), (26, (-1)), (27, (-1)), (28, (-1)), (29, (-1)), (42, (-1))]) (fr_tr (M := [(14, (-1)), (16, (-1)), (17, (-1)), (18, (-1)), (19, (-1)), (25, 8), (26, (-1)), (27, (-1)), (28, (-1)), (29, (-1)), (42, (-1))]) fr_rf (hf1) (M1 := []) rfl rfl) (hf8) rfl rfl) (by omega))
        refine Jicmp_ge (show mx_Sn _ _ 39 (mx_icmp_ge 59 42) from sn_109 39) (by omega) (by omega) (fun q10 => ?_) (fun q10 => ?_)
        · skip
          refine JcI (z := (-1)) (show mx_Sn _ _ 59 (mx_const (.int (-1)) 60) from sn_109 59) rfl ?_
          exact c60 (-1) (by omega)
        · skip
          refine mx_J.step (sn_109 42) (fun _ _ => rfl) ?_
          refine JgetR (g := 8) (b := 25) hx8 (show mx_Sn _ _ 43 (mx_getf 11 8 46) from sn_109 43) a1 s1 rfl rfl (hG8.prr 1 8 rfl) ?_
          refine mx_J.step (sn_109 46) (fun _ _ => rfl) ?_
          refine mx_J.step (sn_109 47) (fun _ _ => rfl) ?_
          refine JcI (z := 1) (show mx_Sn _ _ 49 (mx_const (.int 1) 50) from sn_109 49) rfl ?_
          refine Jisub (show mx_Sn _ _ 50 (mx_isub 51) from sn_109 50) ?_
          refine mx_J.step (sn_109 51) (fun _ _ => rfl) ?_
          refine Jisub (show mx_Sn _ _ 52 (mx_isub 53) from sn_109 52) ?_
          obtain ⟨z12, hc12, b12⟩ := ct_63_25 (d := d + 5) (l := l) (D := D) (b0 := b0) (ad := ad) (Hb := Hb) (tau := tau) hx8 hG8 (show 0 ≤ z1 ∧ z1 ≤ 384 by omega) (show (-2147483648) ≤ (z8 - 1) - x1 ∧ (z8 - 1) - x1 ≤ 2147483647 by omega)
          refine Jcv hx8 (show mx_Sn _ _ 53 (mx_callv 63 3 8 56) from sn_109 53) a25 s25 hc12 rfl rfl rfl ?_
          refine mx_J.step (sn_109 56) (fun _ _ => rfl) ?_
          exact c60 z12 (by omega)
      · skip
        refine JcI (z := (-3)) (show mx_Sn _ _ 16 (mx_const (.int (-3)) 18) from sn_109 16) rfl ?_
        exact mx_J.ret (sn_109 18) (fun _ _ => rfl) (hP (-3) Z1 h1 hx1 hG1 (fr_tr (M := [(14, (-1)), (16, (-1)), (17, (-1)), (18, (-1)), (19, (-1)), (25, 8), (26, (-1)), (27, (-1)), (28, (-1)), (29, (-1)), (42, (-1))]) fr_rf (hf1) (M1 := []) rfl rfl) (by omega))
    · skip
      refine mx_J.step (sn_109 10) (fun _ _ => rfl) ?_
      exact mx_J.ret (sn_109 11) (fun _ _ => rfl) (hP z1 Z1 h1 hx1 hG1 (fr_tr (M := [(14, (-1)), (16, (-1)), (17, (-1)), (18, (-1)), (19, (-1)), (25, 8), (26, (-1)), (27, (-1)), (28, (-1)), (29, (-1)), (42, (-1))]) fr_rf (hf1) (M1 := []) rfl rfl) (by omega))
theorem ct_109_1_i1 {l : Launch} {D : va_G} {b0 : Nat} {ad : Nat → Nat} {Hb : Heap} {tau : Nat → Int64} {d n s : Nat} {S : Nat → xS} {Z : xZ} {h : mx_H} (hx : XH n s S Z h) (hG : GI n S Z)  {x1 : Int} (p1 : (-2147483648) ≤ x1 ∧ x1 ≤ 2147483647) : ∃ (z : Int) (Z' : xZ) (h' : mx_H), mx_Ca (tB l D b0 ad Hb tau) (d + 7) 109 [.ref 1, xI 1, xI x1] h (some (xI z), h') ∧ XH n s S Z' h' ∧ GI n S Z' ∧ fr' [(14, (-1)), (16, (-1)), (17, (-1)), (18, (-1)), (19, (-1)), (25, 8), (26, (-1)), (27, (-1)), (28, (-1)), (29, (-1)), (42, (-1))] Z Z' ∧ ((-6) ≤ z ∧ z ≤ 18) := by
  obtain ⟨r, hca, z, Z', h', e, q⟩ := Jmt (B := tB l D b0 ad Hb tau) (M := mt_109) (mi := 109) (as := [.ref 1, xI 1, xI x1]) (d := d + 6) (ls := [some (.ref 1), some (xI 1), some (xI x1), none, none]) rfl rfl rfl rfl rfl rfl (cw_109_1_i1 (l := l) (D := D) (b0 := b0) (ad := ad) (Hb := Hb) (tau := tau) (d := d) (Post := fun r => ∃ (z : Int) (Z' : xZ) (h' : mx_H), r = (some (xI z), h') ∧ XH n s S Z' h' ∧ GI n S Z' ∧ fr' [(14, (-1)), (16, (-1)), (17, (-1)), (18, (-1)), (19, (-1)), (25, 8), (26, (-1)), (27, (-1)), (28, (-1)), (29, (-1)), (42, (-1))] Z Z' ∧ ((-6) ≤ z ∧ z ≤ 18)) hx hG p1 (fun z Z' h' q1 q2 q3 q4 => ⟨z, Z', h', rfl, q1, q2, q3, q4⟩))
  subst e; exact ⟨z, Z', h', hca, q⟩
set_option maxRecDepth 100000 in
theorem cw_109_1_i2 {l : Launch} {D : va_G} {b0 : Nat} {ad : Nat → Nat} {Hb : Heap} {tau : Nat → Int64} {d n s : Nat} {S : Nat → xS} {Z : xZ} {h : mx_H} {Post : mx_R → Prop} (hx : XH n s S Z h) (hG : GI n S Z)  {x1 : Int} (p1 : (-2147483648) ≤ x1 ∧ x1 ≤ 2147483647) (hP : ∀ (z : Int) (Z' : xZ) (h' : mx_H), XH n s S Z' h' → GI n S Z' → fr' [(14, (-1)), (16, (-1)), (17, (-1)), (18, (-1)), (19, (-1)), (25, 8), (26, (-1)), (27, (-1)), (28, (-1)), (29, (-1)), (42, (-1))] Z Z' → (-6) ≤ z ∧ z ≤ 18 → Post (some (xI z), h')) : mx_J (tB l D b0 ad Hb tau) mt_109 (d + 6) 0 [some (.ref 1), some (xI 2), some (xI x1), none, none] [] h Post := by
    have a1 : 1 < n := lt83 (GI_n hG) rfl
    have s1 : S 1 = .inl (11, [2, 0, 0, 0, 2, 2, 2, 2, 2, 2, 2, 2, 2, 2, 2, 2, 2]) := GI_s hG 1 rfl
    have a25 : 25 < n := lt83 (GI_n hG) rfl
    have s25 : S 25 = .inl (8, [2, 2, 2, 2, 2, 2, 2, 2, 0]) := GI_s hG 25 rfl
    have a36 : 36 < n := lt83 (GI_n hG) rfl
    have s36 : S 36 = .inl (5, [2, 0, 0, 0, 0, 0]) := GI_s hG 36 rfl
    refine mx_J.step (sn_109 0) (fun _ _ => rfl) ?_
    refine mx_J.step (sn_109 1) (fun _ _ => rfl) ?_
    obtain ⟨z1, Z1, h1, hc1, hx1, hG1, hf1, b1⟩ := ct_145_1_i2 (d := d + 3) (l := l) (D := D) (b0 := b0) (ad := ad) (Hb := Hb) (tau := tau) hx hG 
    refine Jcv hx (show mx_Sn _ _ 2 (mx_callv 145 2 11 5) from sn_109 2) a1 s1 hc1 rfl rfl rfl ?_
    refine mx_J.step (ls2 := [some (.ref 1), some (xI 2), some (xI x1), some (xI z1), none]) (sn_109 5) (fun _ _ => rfl) ?_
    refine mx_J.step (sn_109 6) (fun _ _ => rfl) ?_
    refine Jif_ge (show mx_Sn _ _ 7 (mx_if_ge 12 10) from sn_109 7) (by omega) (fun q2 => ?_) (fun q2 => ?_)
    · skip
      refine mx_J.step (sn_109 12) (fun _ _ => rfl) ?_
      refine Jif_ge (show mx_Sn _ _ 13 (mx_if_ge 19 16) from sn_109 13) (by omega) (fun q3 => ?_) (fun q3 => ?_)
      · skip
        refine mx_J.step (sn_109 19) (fun _ _ => rfl) ?_
        refine JgetR (g := 8) (b := 25) hx1 (show mx_Sn _ _ 20 (mx_getf 11 8 23) from sn_109 20) a1 s1 rfl rfl (hG1.prr 1 8 rfl) ?_
        refine mx_J.step (sn_109 23) (fun _ _ => rfl) ?_
        refine JgetR (g := 12) (b := 36) hx1 (show mx_Sn _ _ 24 (mx_getf 11 12 27) from sn_109 24) a1 s1 rfl rfl (hG1.prr 1 12 rfl) ?_
        have b7 : 0 ≤ Z 36 2 ∧ Z 36 2 ≤ 384 := hG.pr 36 2
        refine JgetI (g := 2) (z := Z 36 2) hx1 (show mx_Sn _ _ 27 (mx_getf 5 2 30) from sn_109 27) a36 s36 rfl rfl (hf1 36 2 rfl) ?_
        refine mx_J.step (sn_109 30) (fun _ _ => rfl) ?_
        obtain ⟨z8, Z8, h8, hc8, hx8, hG8, hf8, b8⟩ := ct_61_25 (d := d + 0) (l := l) (D := D) (b0 := b0) (ad := ad) (Hb := Hb) (tau := tau) hx1 hG1 (show 0 ≤ Z 36 2 ∧ Z 36 2 ≤ 384 by omega) (show (-1) ≤ z1 ∧ z1 ≤ 384 by omega)
        refine Jcv hx1 (show mx_Sn _ _ 31 (mx_callv 61 3 8 34) from sn_109 31) a25 s25 hc8 rfl rfl rfl ?_
        refine mx_J.step (ls2 := [some (.ref 1), some (xI 2), some (xI x1), some (xI z1), some (xI z8)]) (sn_109 34) (fun _ _ => rfl) ?_
        refine mx_J.step (sn_109 36) (fun _ _ => rfl) ?_
        refine mx_J.step (sn_109 37) (fun _ _ => rfl) ?_
        have c60 : ∀ (k9_0 : Int), (-1) ≤ k9_0 ∧ k9_0 ≤ 18 → mx_J (tB l D b0 ad Hb tau) mt_109 (d + 6) 60 [some (.ref 1), some (xI 2), some (xI x1), some (xI z1), some (xI z8)] [xI k9_0] h8 Post := by
          intro k9_0 f9_0
          exact mx_J.ret (sn_109 60) (fun _ _ => rfl) (hP k9_0 Z8 h8 hx8 hG8 (fr_tr (M := [(14, (-1)), (16, (-1)), (17, (-1)), (18, (-1)), (19, (-1)), (25, 8), (26, (-1)), (27, (-1)), (28, (-1)), (29, (-1)), (42, (-1))]) (fr_tr (M := [(14, (-1)), (16, (-1)), (17, (-1)), (18, (-1)), (19, (-1)), (25, 8), (26, (-1)), (27, (-1)), (28, (-1)), (29, (-1)), (42, (-1))]) fr_rf (hf1) (M1 := []) rfl rfl) (hf8) rfl rfl) (by omega))
        refine Jicmp_ge (show mx_Sn _ _ 39 (mx_icmp_ge 59 42) from sn_109 39) (by omega) (by omega) (fun q10 => ?_) (fun q10 => ?_)
        · skip
          refine JcI (z := (-1)) (show mx_Sn _ _ 59 (mx_const (.int (-1)) 60) from sn_109 59) rfl ?_
          exact c60 (-1) (by omega)
        · skip
          refine mx_J.step (sn_109 42) (fun _ _ => rfl) ?_
          refine JgetR (g := 8) (b := 25) hx8 (show mx_Sn _ _ 43 (mx_getf 11 8 46) from sn_109 43) a1 s1 rfl rfl (hG8.prr 1 8 rfl) ?_
          refine mx_J.step (sn_109 46) (fun _ _ => rfl) ?_
          refine mx_J.step (sn_109 47) (fun _ _ => rfl) ?_
          refine JcI (z := 1) (show mx_Sn _ _ 49 (mx_const (.int 1) 50) from sn_109 49) rfl ?_
          refine Jisub (show mx_Sn _ _ 50 (mx_isub 51) from sn_109 50) ?_
          refine mx_J.step (sn_109 51) (fun _ _ => rfl) ?_
          refine Jisub (show mx_Sn _ _ 52 (mx_isub 53) from sn_109 52) ?_
          obtain ⟨z12, hc12, b12⟩ := ct_63_25 (d := d + 5) (l := l) (D := D) (b0 := b0) (ad := ad) (Hb := Hb) (tau := tau) hx8 hG8 (show 0 ≤ z1 ∧ z1 ≤ 384 by omega) (show (-2147483648) ≤ (z8 - 1) - x1 ∧ (z8 - 1) - x1 ≤ 2147483647 by omega)
          refine Jcv hx8 (show mx_Sn _ _ 53 (mx_callv 63 3 8 56) from sn_109 53) a25 s25 hc12 rfl rfl rfl ?_
          refine mx_J.step (sn_109 56) (fun _ _ => rfl) ?_
          exact c60 z12 (by omega)
      · skip
        refine JcI (z := (-3)) (show mx_Sn _ _ 16 (mx_const (.int (-3)) 18) from sn_109 16) rfl ?_
        exact mx_J.ret (sn_109 18) (fun _ _ => rfl) (hP (-3) Z1 h1 hx1 hG1 (fr_tr (M := [(14, (-1)), (16, (-1)), (17, (-1)), (18, (-1)), (19, (-1)), (25, 8), (26, (-1)), (27, (-1)), (28, (-1)), (29, (-1)), (42, (-1))]) fr_rf (hf1) (M1 := []) rfl rfl) (by omega))
    · skip
      refine mx_J.step (sn_109 10) (fun _ _ => rfl) ?_
      exact mx_J.ret (sn_109 11) (fun _ _ => rfl) (hP z1 Z1 h1 hx1 hG1 (fr_tr (M := [(14, (-1)), (16, (-1)), (17, (-1)), (18, (-1)), (19, (-1)), (25, 8), (26, (-1)), (27, (-1)), (28, (-1)), (29, (-1)), (42, (-1))]) fr_rf (hf1) (M1 := []) rfl rfl) (by omega))
theorem ct_109_1_i2 {l : Launch} {D : va_G} {b0 : Nat} {ad : Nat → Nat} {Hb : Heap} {tau : Nat → Int64} {d n s : Nat} {S : Nat → xS} {Z : xZ} {h : mx_H} (hx : XH n s S Z h) (hG : GI n S Z)  {x1 : Int} (p1 : (-2147483648) ≤ x1 ∧ x1 ≤ 2147483647) : ∃ (z : Int) (Z' : xZ) (h' : mx_H), mx_Ca (tB l D b0 ad Hb tau) (d + 7) 109 [.ref 1, xI 2, xI x1] h (some (xI z), h') ∧ XH n s S Z' h' ∧ GI n S Z' ∧ fr' [(14, (-1)), (16, (-1)), (17, (-1)), (18, (-1)), (19, (-1)), (25, 8), (26, (-1)), (27, (-1)), (28, (-1)), (29, (-1)), (42, (-1))] Z Z' ∧ ((-6) ≤ z ∧ z ≤ 18) := by
  obtain ⟨r, hca, z, Z', h', e, q⟩ := Jmt (B := tB l D b0 ad Hb tau) (M := mt_109) (mi := 109) (as := [.ref 1, xI 2, xI x1]) (d := d + 6) (ls := [some (.ref 1), some (xI 2), some (xI x1), none, none]) rfl rfl rfl rfl rfl rfl (cw_109_1_i2 (l := l) (D := D) (b0 := b0) (ad := ad) (Hb := Hb) (tau := tau) (d := d) (Post := fun r => ∃ (z : Int) (Z' : xZ) (h' : mx_H), r = (some (xI z), h') ∧ XH n s S Z' h' ∧ GI n S Z' ∧ fr' [(14, (-1)), (16, (-1)), (17, (-1)), (18, (-1)), (19, (-1)), (25, 8), (26, (-1)), (27, (-1)), (28, (-1)), (29, (-1)), (42, (-1))] Z Z' ∧ ((-6) ≤ z ∧ z ≤ 18)) hx hG p1 (fun z Z' h' q1 q2 q3 q4 => ⟨z, Z', h', rfl, q1, q2, q3, q4⟩))
  subst e; exact ⟨z, Z', h', hca, q⟩
set_option maxRecDepth 100000 in
theorem cw_109_1_i3 {l : Launch} {D : va_G} {b0 : Nat} {ad : Nat → Nat} {Hb : Heap} {tau : Nat → Int64} {d n s : Nat} {S : Nat → xS} {Z : xZ} {h : mx_H} {Post : mx_R → Prop} (hx : XH n s S Z h) (hG : GI n S Z)  {x1 : Int} (p1 : (-2147483648) ≤ x1 ∧ x1 ≤ 2147483647) (hP : ∀ (z : Int) (Z' : xZ) (h' : mx_H), XH n s S Z' h' → GI n S Z' → fr' [(14, (-1)), (16, (-1)), (17, (-1)), (18, (-1)), (19, (-1)), (25, 8), (26, (-1)), (27, (-1)), (28, (-1)), (29, (-1)), (42, (-1))] Z Z' → (-6) ≤ z ∧ z ≤ 18 → Post (some (xI z), h')) : mx_J (tB l D b0 ad Hb tau) mt_109 (d + 6) 0 [some (.ref 1), some (xI 3), some (xI x1), none, none] [] h Post := by
    have a1 : 1 < n := lt83 (GI_n hG) rfl
    have s1 : S 1 = .inl (11, [2, 0, 0, 0, 2, 2, 2, 2, 2, 2, 2, 2, 2, 2, 2, 2, 2]) := GI_s hG 1 rfl
    have a25 : 25 < n := lt83 (GI_n hG) rfl
    have s25 : S 25 = .inl (8, [2, 2, 2, 2, 2, 2, 2, 2, 0]) := GI_s hG 25 rfl
    have a36 : 36 < n := lt83 (GI_n hG) rfl
    have s36 : S 36 = .inl (5, [2, 0, 0, 0, 0, 0]) := GI_s hG 36 rfl
    refine mx_J.step (sn_109 0) (fun _ _ => rfl) ?_
    refine mx_J.step (sn_109 1) (fun _ _ => rfl) ?_
    obtain ⟨z1, Z1, h1, hc1, hx1, hG1, hf1, b1⟩ := ct_145_1_i3 (d := d + 3) (l := l) (D := D) (b0 := b0) (ad := ad) (Hb := Hb) (tau := tau) hx hG 
    refine Jcv hx (show mx_Sn _ _ 2 (mx_callv 145 2 11 5) from sn_109 2) a1 s1 hc1 rfl rfl rfl ?_
    refine mx_J.step (ls2 := [some (.ref 1), some (xI 3), some (xI x1), some (xI z1), none]) (sn_109 5) (fun _ _ => rfl) ?_
    refine mx_J.step (sn_109 6) (fun _ _ => rfl) ?_
    refine Jif_ge (show mx_Sn _ _ 7 (mx_if_ge 12 10) from sn_109 7) (by omega) (fun q2 => ?_) (fun q2 => ?_)
    · skip
      refine mx_J.step (sn_109 12) (fun _ _ => rfl) ?_
      refine Jif_ge (show mx_Sn _ _ 13 (mx_if_ge 19 16) from sn_109 13) (by omega) (fun q3 => ?_) (fun q3 => ?_)
      · skip
        refine mx_J.step (sn_109 19) (fun _ _ => rfl) ?_
        refine JgetR (g := 8) (b := 25) hx1 (show mx_Sn _ _ 20 (mx_getf 11 8 23) from sn_109 20) a1 s1 rfl rfl (hG1.prr 1 8 rfl) ?_
        refine mx_J.step (sn_109 23) (fun _ _ => rfl) ?_
        refine JgetR (g := 12) (b := 36) hx1 (show mx_Sn _ _ 24 (mx_getf 11 12 27) from sn_109 24) a1 s1 rfl rfl (hG1.prr 1 12 rfl) ?_
        have b7 : 0 ≤ Z 36 2 ∧ Z 36 2 ≤ 384 := hG.pr 36 2
        refine JgetI (g := 2) (z := Z 36 2) hx1 (show mx_Sn _ _ 27 (mx_getf 5 2 30) from sn_109 27) a36 s36 rfl rfl (hf1 36 2 rfl) ?_
        refine mx_J.step (sn_109 30) (fun _ _ => rfl) ?_
        obtain ⟨z8, Z8, h8, hc8, hx8, hG8, hf8, b8⟩ := ct_61_25 (d := d + 0) (l := l) (D := D) (b0 := b0) (ad := ad) (Hb := Hb) (tau := tau) hx1 hG1 (show 0 ≤ Z 36 2 ∧ Z 36 2 ≤ 384 by omega) (show (-1) ≤ z1 ∧ z1 ≤ 384 by omega)
        refine Jcv hx1 (show mx_Sn _ _ 31 (mx_callv 61 3 8 34) from sn_109 31) a25 s25 hc8 rfl rfl rfl ?_
        refine mx_J.step (ls2 := [some (.ref 1), some (xI 3), some (xI x1), some (xI z1), some (xI z8)]) (sn_109 34) (fun _ _ => rfl) ?_
        refine mx_J.step (sn_109 36) (fun _ _ => rfl) ?_
        refine mx_J.step (sn_109 37) (fun _ _ => rfl) ?_
        have c60 : ∀ (k9_0 : Int), (-1) ≤ k9_0 ∧ k9_0 ≤ 18 → mx_J (tB l D b0 ad Hb tau) mt_109 (d + 6) 60 [some (.ref 1), some (xI 3), some (xI x1), some (xI z1), some (xI z8)] [xI k9_0] h8 Post := by
          intro k9_0 f9_0
          exact mx_J.ret (sn_109 60) (fun _ _ => rfl) (hP k9_0 Z8 h8 hx8 hG8 (fr_tr (M := [(14, (-1)), (16, (-1)), (17, (-1)), (18, (-1)), (19, (-1)), (25, 8), (26, (-1)), (27, (-1)), (28, (-1)), (29, (-1)), (42, (-1))]) (fr_tr (M := [(14, (-1)), (16, (-1)), (17, (-1)), (18, (-1)), (19, (-1)), (25, 8), (26, (-1)), (27, (-1)), (28, (-1)), (29, (-1)), (42, (-1))]) fr_rf (hf1) (M1 := []) rfl rfl) (hf8) rfl rfl) (by omega))
        refine Jicmp_ge (show mx_Sn _ _ 39 (mx_icmp_ge 59 42) from sn_109 39) (by omega) (by omega) (fun q10 => ?_) (fun q10 => ?_)
        · skip
          refine JcI (z := (-1)) (show mx_Sn _ _ 59 (mx_const (.int (-1)) 60) from sn_109 59) rfl ?_
          exact c60 (-1) (by omega)
        · skip
          refine mx_J.step (sn_109 42) (fun _ _ => rfl) ?_
          refine JgetR (g := 8) (b := 25) hx8 (show mx_Sn _ _ 43 (mx_getf 11 8 46) from sn_109 43) a1 s1 rfl rfl (hG8.prr 1 8 rfl) ?_
          refine mx_J.step (sn_109 46) (fun _ _ => rfl) ?_
          refine mx_J.step (sn_109 47) (fun _ _ => rfl) ?_
          refine JcI (z := 1) (show mx_Sn _ _ 49 (mx_const (.int 1) 50) from sn_109 49) rfl ?_
          refine Jisub (show mx_Sn _ _ 50 (mx_isub 51) from sn_109 50) ?_
          refine mx_J.step (sn_109 51) (fun _ _ => rfl) ?_
          refine Jisub (show mx_Sn _ _ 52 (mx_isub 53) from sn_109 52) ?_
          obtain ⟨z12, hc12, b12⟩ := ct_63_25 (d := d + 5) (l := l) (D := D) (b0 := b0) (ad := ad) (Hb := Hb) (tau := tau) hx8 hG8 (show 0 ≤ z1 ∧ z1 ≤ 384 by omega) (show (-2147483648) ≤ (z8 - 1) - x1 ∧ (z8 - 1) - x1 ≤ 2147483647 by omega)
          refine Jcv hx8 (show mx_Sn _ _ 53 (mx_callv 63 3 8 56) from sn_109 53) a25 s25 hc12 rfl rfl rfl ?_
          refine mx_J.step (sn_109 56) (fun _ _ => rfl) ?_
          exact c60 z12 (by omega)
      · skip
        refine JcI (z := (-3)) (show mx_Sn _ _ 16 (mx_const (.int (-3)) 18) from sn_109 16) rfl ?_
        exact mx_J.ret (sn_109 18) (fun _ _ => rfl) (hP (-3) Z1 h1 hx1 hG1 (fr_tr (M := [(14, (-1)), (16, (-1)), (17, (-1)), (18, (-1)), (19, (-1)), (25, 8), (26, (-1)), (27, (-1)), (28, (-1)), (29, (-1)), (42, (-1))]) fr_rf (hf1) (M1 := []) rfl rfl) (by omega))
    · skip
      refine mx_J.step (sn_109 10) (fun _ _ => rfl) ?_
      exact mx_J.ret (sn_109 11) (fun _ _ => rfl) (hP z1 Z1 h1 hx1 hG1 (fr_tr (M := [(14, (-1)), (16, (-1)), (17, (-1)), (18, (-1)), (19, (-1)), (25, 8), (26, (-1)), (27, (-1)), (28, (-1)), (29, (-1)), (42, (-1))]) fr_rf (hf1) (M1 := []) rfl rfl) (by omega))
theorem ct_109_1_i3 {l : Launch} {D : va_G} {b0 : Nat} {ad : Nat → Nat} {Hb : Heap} {tau : Nat → Int64} {d n s : Nat} {S : Nat → xS} {Z : xZ} {h : mx_H} (hx : XH n s S Z h) (hG : GI n S Z)  {x1 : Int} (p1 : (-2147483648) ≤ x1 ∧ x1 ≤ 2147483647) : ∃ (z : Int) (Z' : xZ) (h' : mx_H), mx_Ca (tB l D b0 ad Hb tau) (d + 7) 109 [.ref 1, xI 3, xI x1] h (some (xI z), h') ∧ XH n s S Z' h' ∧ GI n S Z' ∧ fr' [(14, (-1)), (16, (-1)), (17, (-1)), (18, (-1)), (19, (-1)), (25, 8), (26, (-1)), (27, (-1)), (28, (-1)), (29, (-1)), (42, (-1))] Z Z' ∧ ((-6) ≤ z ∧ z ≤ 18) := by
  obtain ⟨r, hca, z, Z', h', e, q⟩ := Jmt (B := tB l D b0 ad Hb tau) (M := mt_109) (mi := 109) (as := [.ref 1, xI 3, xI x1]) (d := d + 6) (ls := [some (.ref 1), some (xI 3), some (xI x1), none, none]) rfl rfl rfl rfl rfl rfl (cw_109_1_i3 (l := l) (D := D) (b0 := b0) (ad := ad) (Hb := Hb) (tau := tau) (d := d) (Post := fun r => ∃ (z : Int) (Z' : xZ) (h' : mx_H), r = (some (xI z), h') ∧ XH n s S Z' h' ∧ GI n S Z' ∧ fr' [(14, (-1)), (16, (-1)), (17, (-1)), (18, (-1)), (19, (-1)), (25, 8), (26, (-1)), (27, (-1)), (28, (-1)), (29, (-1)), (42, (-1))] Z Z' ∧ ((-6) ≤ z ∧ z ≤ 18)) hx hG p1 (fun z Z' h' q1 q2 q3 q4 => ⟨z, Z', h', rfl, q1, q2, q3, q4⟩))
  subst e; exact ⟨z, Z', h', hca, q⟩
set_option maxRecDepth 100000 in
theorem cw_109_1_n {l : Launch} {D : va_G} {b0 : Nat} {ad : Nat → Nat} {Hb : Heap} {tau : Nat → Int64} {d n s : Nat} {S : Nat → xS} {Z : xZ} {h : mx_H} {Post : mx_R → Prop} (hx : XH n s S Z h) (hG : GI n S Z)  {x0 x1 : Int} (p0 : (-2147483648) ≤ x0 ∧ x0 ≤ (-1)) (p1 : (-2147483648) ≤ x1 ∧ x1 ≤ 2147483647) (hP : ∀ z : Int, (-2) ≤ z ∧ z ≤ (-2) → Post (some (xI z), h)) : mx_J (tB l D b0 ad Hb tau) mt_109 (d + 2) 0 [some (.ref 1), some (xI x0), some (xI x1), none, none] [] h Post := by
    have a1 : 1 < n := lt83 (GI_n hG) rfl
    have s1 : S 1 = .inl (11, [2, 0, 0, 0, 2, 2, 2, 2, 2, 2, 2, 2, 2, 2, 2, 2, 2]) := GI_s hG 1 rfl
    refine mx_J.step (sn_109 0) (fun _ _ => rfl) ?_
    refine mx_J.step (sn_109 1) (fun _ _ => rfl) ?_
    obtain ⟨z1, hc1, b1⟩ := ct_145_1_n (d := d + 0) (l := l) (D := D) (b0 := b0) (ad := ad) (Hb := Hb) (tau := tau) hx hG (show (-2147483648) ≤ x0 ∧ x0 ≤ (-1) by omega)
    refine Jcv hx (show mx_Sn _ _ 2 (mx_callv 145 2 11 5) from sn_109 2) a1 s1 hc1 rfl rfl rfl ?_
    refine mx_J.step (ls2 := [some (.ref 1), some (xI x0), some (xI x1), some (xI z1), none]) (sn_109 5) (fun _ _ => rfl) ?_
    refine mx_J.step (sn_109 6) (fun _ _ => rfl) ?_
    refine Jif_ge (show mx_Sn _ _ 7 (mx_if_ge 12 10) from sn_109 7) (by omega) (fun q2 => ?_) (fun q2 => ?_)
    · skip
      exfalso; omega
    · skip
      refine mx_J.step (sn_109 10) (fun _ _ => rfl) ?_
      exact mx_J.ret (sn_109 11) (fun _ _ => rfl) (hP z1 (by omega))
theorem ct_109_1_n {l : Launch} {D : va_G} {b0 : Nat} {ad : Nat → Nat} {Hb : Heap} {tau : Nat → Int64} {d n s : Nat} {S : Nat → xS} {Z : xZ} {h : mx_H} (hx : XH n s S Z h) (hG : GI n S Z)  {x0 x1 : Int} (p0 : (-2147483648) ≤ x0 ∧ x0 ≤ (-1)) (p1 : (-2147483648) ≤ x1 ∧ x1 ≤ 2147483647) : ∃ z : Int, mx_Ca (tB l D b0 ad Hb tau) (d + 3) 109 [.ref 1, xI x0, xI x1] h (some (xI z), h) ∧ ((-2) ≤ z ∧ z ≤ (-2)) := by
  obtain ⟨r, hca, z, e, hp⟩ := Jmt (B := tB l D b0 ad Hb tau) (M := mt_109) (mi := 109) (as := [.ref 1, xI x0, xI x1]) (d := d + 2) (ls := [some (.ref 1), some (xI x0), some (xI x1), none, none]) rfl rfl rfl rfl rfl rfl (cw_109_1_n (l := l) (D := D) (b0 := b0) (ad := ad) (Hb := Hb) (tau := tau) (d := d) (Post := fun r => ∃ z : Int, r = (some (xI z), h) ∧ ((-2) ≤ z ∧ z ≤ (-2))) hx hG p0 p1 (fun z hz => ⟨z, rfl, hz⟩))
  subst e; exact ⟨z, hca, hp⟩
set_option maxRecDepth 100000 in
theorem cw_109_1_p {l : Launch} {D : va_G} {b0 : Nat} {ad : Nat → Nat} {Hb : Heap} {tau : Nat → Int64} {d n s : Nat} {S : Nat → xS} {Z : xZ} {h : mx_H} {Post : mx_R → Prop} (hx : XH n s S Z h) (hG : GI n S Z)  {x0 x1 : Int} (p0 : 4 ≤ x0 ∧ x0 ≤ 2147483647) (p1 : (-2147483648) ≤ x1 ∧ x1 ≤ 2147483647) (hP : ∀ z : Int, (-2) ≤ z ∧ z ≤ (-2) → Post (some (xI z), h)) : mx_J (tB l D b0 ad Hb tau) mt_109 (d + 2) 0 [some (.ref 1), some (xI x0), some (xI x1), none, none] [] h Post := by
    have a1 : 1 < n := lt83 (GI_n hG) rfl
    have s1 : S 1 = .inl (11, [2, 0, 0, 0, 2, 2, 2, 2, 2, 2, 2, 2, 2, 2, 2, 2, 2]) := GI_s hG 1 rfl
    refine mx_J.step (sn_109 0) (fun _ _ => rfl) ?_
    refine mx_J.step (sn_109 1) (fun _ _ => rfl) ?_
    obtain ⟨z1, hc1, b1⟩ := ct_145_1_p (d := d + 0) (l := l) (D := D) (b0 := b0) (ad := ad) (Hb := Hb) (tau := tau) hx hG (show 4 ≤ x0 ∧ x0 ≤ 2147483647 by omega)
    refine Jcv hx (show mx_Sn _ _ 2 (mx_callv 145 2 11 5) from sn_109 2) a1 s1 hc1 rfl rfl rfl ?_
    refine mx_J.step (ls2 := [some (.ref 1), some (xI x0), some (xI x1), some (xI z1), none]) (sn_109 5) (fun _ _ => rfl) ?_
    refine mx_J.step (sn_109 6) (fun _ _ => rfl) ?_
    refine Jif_ge (show mx_Sn _ _ 7 (mx_if_ge 12 10) from sn_109 7) (by omega) (fun q2 => ?_) (fun q2 => ?_)
    · skip
      exfalso; omega
    · skip
      refine mx_J.step (sn_109 10) (fun _ _ => rfl) ?_
      exact mx_J.ret (sn_109 11) (fun _ _ => rfl) (hP z1 (by omega))
theorem ct_109_1_p {l : Launch} {D : va_G} {b0 : Nat} {ad : Nat → Nat} {Hb : Heap} {tau : Nat → Int64} {d n s : Nat} {S : Nat → xS} {Z : xZ} {h : mx_H} (hx : XH n s S Z h) (hG : GI n S Z)  {x0 x1 : Int} (p0 : 4 ≤ x0 ∧ x0 ≤ 2147483647) (p1 : (-2147483648) ≤ x1 ∧ x1 ≤ 2147483647) : ∃ z : Int, mx_Ca (tB l D b0 ad Hb tau) (d + 3) 109 [.ref 1, xI x0, xI x1] h (some (xI z), h) ∧ ((-2) ≤ z ∧ z ≤ (-2)) := by
  obtain ⟨r, hca, z, e, hp⟩ := Jmt (B := tB l D b0 ad Hb tau) (M := mt_109) (mi := 109) (as := [.ref 1, xI x0, xI x1]) (d := d + 2) (ls := [some (.ref 1), some (xI x0), some (xI x1), none, none]) rfl rfl rfl rfl rfl rfl (cw_109_1_p (l := l) (D := D) (b0 := b0) (ad := ad) (Hb := Hb) (tau := tau) (d := d) (Post := fun r => ∃ z : Int, r = (some (xI z), h) ∧ ((-2) ≤ z ∧ z ≤ (-2))) hx hG p0 p1 (fun z hz => ⟨z, rfl, hz⟩))
  subst e; exact ⟨z, hca, hp⟩
theorem ct_109_1 {l : Launch} {D : va_G} {b0 : Nat} {ad : Nat → Nat} {Hb : Heap} {tau : Nat → Int64} {d n s : Nat} {S : Nat → xS} {Z : xZ} {h : mx_H} (hx : XH n s S Z h) (hG : GI n S Z) {x0 x1 : Int} (p0 : (-2147483648) ≤ x0 ∧ x0 ≤ 2147483647) (p1 : (-2147483648) ≤ x1 ∧ x1 ≤ 2147483647) : ∃ (z : Int) (Z' : xZ) (h' : mx_H), mx_Ca (tB l D b0 ad Hb tau) (d + 7) 109 [.ref 1, xI x0, xI x1] h (some (xI z), h') ∧ XH n s S Z' h' ∧ GI n S Z' ∧ fr' [(14, (-1)), (16, (-1)), (17, (-1)), (18, (-1)), (19, (-1)), (25, 8), (26, (-1)), (27, (-1)), (28, (-1)), (29, (-1)), (42, (-1))] Z Z' ∧ ((-6) ≤ z ∧ z ≤ 18) := by
  have hc : x0 = 0 ∨ x0 = 1 ∨ x0 = 2 ∨ x0 = 3 ∨ ((-2147483648) ≤ x0 ∧ x0 ≤ (-1)) ∨ (4 ≤ x0 ∧ x0 ≤ 2147483647) := by omega
  rcases hc with hc | hc | hc | hc | hc | hc
  · subst hc
    obtain ⟨z, Z', h', hca, q1, q2, q3, b⟩ := ct_109_1_i0 (d := d + 0) (l := l) (D := D) (b0 := b0) (ad := ad) (Hb := Hb) (tau := tau) hx hG p1
    exact ⟨z, Z', h', hca, q1, q2, fr_tr (M1 := []) fr_rf q3 rfl rfl, by omega⟩
  · subst hc
    obtain ⟨z, Z', h', hca, q1, q2, q3, b⟩ := ct_109_1_i1 (d := d + 0) (l := l) (D := D) (b0 := b0) (ad := ad) (Hb := Hb) (tau := tau) hx hG p1
    exact ⟨z, Z', h', hca, q1, q2, fr_tr (M1 := []) fr_rf q3 rfl rfl, by omega⟩
  · subst hc
    obtain ⟨z, Z', h', hca, q1, q2, q3, b⟩ := ct_109_1_i2 (d := d + 0) (l := l) (D := D) (b0 := b0) (ad := ad) (Hb := Hb) (tau := tau) hx hG p1
    exact ⟨z, Z', h', hca, q1, q2, fr_tr (M1 := []) fr_rf q3 rfl rfl, by omega⟩
  · subst hc
    obtain ⟨z, Z', h', hca, q1, q2, q3, b⟩ := ct_109_1_i3 (d := d + 0) (l := l) (D := D) (b0 := b0) (ad := ad) (Hb := Hb) (tau := tau) hx hG p1
    exact ⟨z, Z', h', hca, q1, q2, fr_tr (M1 := []) fr_rf q3 rfl rfl, by omega⟩
  · skip
    obtain ⟨z, hca, b⟩ := ct_109_1_n (d := d + 4) (l := l) (D := D) (b0 := b0) (ad := ad) (Hb := Hb) (tau := tau) hx hG hc p1
    exact ⟨z, Z, h, hca, hx, hG, fr_rf, by omega⟩
  · skip
    obtain ⟨z, hca, b⟩ := ct_109_1_p (d := d + 4) (l := l) (D := D) (b0 := b0) (ad := ad) (Hb := Hb) (tau := tau) hx hG hc p1
    exact ⟨z, Z, h, hca, hx, hG, fr_rf, by omega⟩
set_option maxRecDepth 100000 in
theorem cw_128_1_i0 {l : Launch} {D : va_G} {b0 : Nat} {ad : Nat → Nat} {Hb : Heap} {tau : Nat → Int64} {d n s : Nat} {S : Nat → xS} {Z : xZ} {h : mx_H} {Post : mx_R → Prop} (hx : XH n s S Z h) (hG : GI n S Z)  {x1 x2 : Int} (p1 : (-2147483648) ≤ x1 ∧ x1 ≤ 2147483647) (p2 : (-2147483648) ≤ x2 ∧ x2 ≤ 2147483647) (hP : ∀ (z : Int) (Z' : xZ) (h' : mx_H), XH n s S Z' h' → GI n S Z' → fr' [(44, 1), (44, 2), (44, 3), (45, (-1))] Z Z' → (-3) ≤ z ∧ z ≤ 0 ∧ (((0 < 0 ∨ 3 < 0 ∨ x1 < 0 ∨ 3 < x1) → z = -2) ∧ (¬ (0 < 0 ∨ 3 < 0 ∨ x1 < 0 ∨ 3 < x1) → (x2 < 0 ∨ 40 < x2) → z = -3) ∧ (¬ (0 < 0 ∨ 3 < 0 ∨ x1 < 0 ∨ 3 < x1) → ¬ (x2 < 0 ∨ 40 < x2) → z = 0)) → Post (some (xI z), h')) : mx_J (tB l D b0 ad Hb tau) mt_128 (d + 2) 0 [some (.ref 1), some (xI 0), some (xI x1), some (xI x2)] [] h Post := by
    have a1 : 1 < n := lt83 (GI_n hG) rfl
    have s1 : S 1 = .inl (11, [2, 0, 0, 0, 2, 2, 2, 2, 2, 2, 2, 2, 2, 2, 2, 2, 2]) := GI_s hG 1 rfl
    have a34 : 34 < n := lt83 (GI_n hG) rfl
    have s34 : S 34 = .inr ((.object "TitheHeap$Tray"), 4, 2) := GI_s hG 34 rfl
    have a44 : 44 < n := lt83 (GI_n hG) rfl
    have s44 : S 44 = .inl (10, [2, 0, 0, 0]) := GI_s hG 44 rfl
    refine mx_J.step (sn_128 0) (fun _ _ => rfl) ?_
    refine mx_J.step (sn_128 1) (fun _ _ => rfl) ?_
    obtain ⟨z1, hc1, b1⟩ := ct_144_1_y (d := d + 1) (l := l) (D := D) (b0 := b0) (ad := ad) (Hb := Hb) (tau := tau) hx hG (show 0 ≤ 0 ∧ 0 ≤ 3 by omega)
    refine Jcv hx (show mx_Sn _ _ 2 (mx_callv 144 2 11 5) from sn_128 2) a1 s1 hc1 rfl rfl rfl ?_
    have c17 : (0 < 0 ∨ 3 < 0 ∨ x1 < 0 ∨ 3 < x1) → mx_J (tB l D b0 ad Hb tau) mt_128 (d + 2) 17 [some (.ref 1), some (xI 0), some (xI x1), some (xI x2)] [] h Post := by
      intro f2_0
      refine JcI (z := (-2)) (show mx_Sn _ _ 17 (mx_const (.int (-2)) 19) from sn_128 17) rfl ?_
      exact mx_J.ret (sn_128 19) (fun _ _ => rfl) (hP (-2) Z h hx hG fr_rf (by omega))
    refine Jif_ne (show mx_Sn _ _ 5 (mx_if_ne 17 8) from sn_128 5) (by omega) (fun q3 => ?_) (fun q3 => ?_)
    · skip
      exact c17 (by omega)
    · skip
      refine mx_J.step (sn_128 8) (fun _ _ => rfl) ?_
      refine Jif_lt (show mx_Sn _ _ 9 (mx_if_lt 17 12) from sn_128 9) (by omega) (fun q4 => ?_) (fun q4 => ?_)
      · skip
        exact c17 (by omega)
      · skip
        refine mx_J.step (sn_128 12) (fun _ _ => rfl) ?_
        refine JcI (z := 3) (show mx_Sn _ _ 13 (mx_const (.int 3) 14) from sn_128 13) rfl ?_
        refine Jicmp_le (show mx_Sn _ _ 14 (mx_icmp_le 20 17) from sn_128 14) (by omega) (by omega) (fun q5 => ?_) (fun q5 => ?_)
        · skip
          refine mx_J.step (sn_128 20) (fun _ _ => rfl) ?_
          have c30 : (x2 < 0 ∨ 40 < x2) → mx_J (tB l D b0 ad Hb tau) mt_128 (d + 2) 30 [some (.ref 1), some (xI 0), some (xI x1), some (xI x2)] [] h Post := by
            intro f6_0
            refine JcI (z := (-3)) (show mx_Sn _ _ 30 (mx_const (.int (-3)) 32) from sn_128 30) rfl ?_
            exact mx_J.ret (sn_128 32) (fun _ _ => rfl) (hP (-3) Z h hx hG fr_rf (by omega))
          refine Jif_lt (show mx_Sn _ _ 21 (mx_if_lt 30 24) from sn_128 21) (by omega) (fun q7 => ?_) (fun q7 => ?_)
          · skip
            exact c30 (by omega)
          · skip
            refine mx_J.step (sn_128 24) (fun _ _ => rfl) ?_
            refine JcI (z := 40) (show mx_Sn _ _ 25 (mx_const (.int 40) 27) from sn_128 25) rfl ?_
            refine Jicmp_le (show mx_Sn _ _ 27 (mx_icmp_le 33 30) from sn_128 27) (by omega) (by omega) (fun q8 => ?_) (fun q8 => ?_)
            · skip
              refine mx_J.step (sn_128 33) (fun _ _ => rfl) ?_
              refine JgetR (g := 10) (b := 34) hx (show mx_Sn _ _ 34 (mx_getf 11 10 37) from sn_128 34) a1 s1 rfl rfl (hG.prr 1 10 rfl) ?_
              refine mx_J.step (sn_128 37) (fun _ _ => rfl) ?_
              refine JaaldR (i := 0) (b := 44) hx (show mx_Sn _ _ 38 (mx_aald 39) from sn_128 38) a34 s34 (by omega) (show Z 34 0 = 44 by have hq := GI_ex hG 34 0; replace hq : ((0 : Int) ≤ 0 → (0 : Int) ≤ 3 → (Z 34 0) = 44 + 2 * 0) := hq; omega) ?_
              refine mx_J.step (sn_128 39) (fun _ _ => rfl) ?_
              refine mx_J.step (sn_128 40) (fun _ _ => rfl) ?_
              obtain ⟨Z10, h10, hc10, hx10, hG10, hf10⟩ := ct_83_44 (d := d + 0) (l := l) (D := D) (b0 := b0) (ad := ad) (Hb := Hb) (tau := tau) hx hG (show 0 ≤ x1 ∧ x1 ≤ 3 by omega) (show 0 ≤ x2 ∧ x2 ≤ 40 by omega)
              refine Jcv0 hx (show mx_Sn _ _ 41 (mx_callv 83 3 10 44) from sn_128 41) a44 s44 hc10 rfl rfl rfl ?_
              refine JcI (z := 0) (show mx_Sn _ _ 44 (mx_const (.int 0) 45) from sn_128 44) rfl ?_
              exact mx_J.ret (sn_128 45) (fun _ _ => rfl) (hP 0 Z10 h10 hx10 hG10 (fr_tr (M := [(44, 1), (44, 2), (44, 3), (45, (-1))]) fr_rf (hf10) (M1 := []) rfl rfl) (by omega))
            · skip
              exact c30 (by omega)
        · skip
          exact c17 (by omega)
theorem ct_128_1_i0 {l : Launch} {D : va_G} {b0 : Nat} {ad : Nat → Nat} {Hb : Heap} {tau : Nat → Int64} {d n s : Nat} {S : Nat → xS} {Z : xZ} {h : mx_H} (hx : XH n s S Z h) (hG : GI n S Z)  {x1 x2 : Int} (p1 : (-2147483648) ≤ x1 ∧ x1 ≤ 2147483647) (p2 : (-2147483648) ≤ x2 ∧ x2 ≤ 2147483647) : ∃ (z : Int) (Z' : xZ) (h' : mx_H), mx_Ca (tB l D b0 ad Hb tau) (d + 3) 128 [.ref 1, xI 0, xI x1, xI x2] h (some (xI z), h') ∧ XH n s S Z' h' ∧ GI n S Z' ∧ fr' [(44, 1), (44, 2), (44, 3), (45, (-1))] Z Z' ∧ ((-3) ≤ z ∧ z ≤ 0 ∧ (((0 < 0 ∨ 3 < 0 ∨ x1 < 0 ∨ 3 < x1) → z = -2) ∧ (¬ (0 < 0 ∨ 3 < 0 ∨ x1 < 0 ∨ 3 < x1) → (x2 < 0 ∨ 40 < x2) → z = -3) ∧ (¬ (0 < 0 ∨ 3 < 0 ∨ x1 < 0 ∨ 3 < x1) → ¬ (x2 < 0 ∨ 40 < x2) → z = 0))) := by
  obtain ⟨r, hca, z, Z', h', e, q⟩ := Jmt (B := tB l D b0 ad Hb tau) (M := mt_128) (mi := 128) (as := [.ref 1, xI 0, xI x1, xI x2]) (d := d + 2) (ls := [some (.ref 1), some (xI 0), some (xI x1), some (xI x2)]) rfl rfl rfl rfl rfl rfl (cw_128_1_i0 (l := l) (D := D) (b0 := b0) (ad := ad) (Hb := Hb) (tau := tau) (d := d) (Post := fun r => ∃ (z : Int) (Z' : xZ) (h' : mx_H), r = (some (xI z), h') ∧ XH n s S Z' h' ∧ GI n S Z' ∧ fr' [(44, 1), (44, 2), (44, 3), (45, (-1))] Z Z' ∧ ((-3) ≤ z ∧ z ≤ 0 ∧ (((0 < 0 ∨ 3 < 0 ∨ x1 < 0 ∨ 3 < x1) → z = -2) ∧ (¬ (0 < 0 ∨ 3 < 0 ∨ x1 < 0 ∨ 3 < x1) → (x2 < 0 ∨ 40 < x2) → z = -3) ∧ (¬ (0 < 0 ∨ 3 < 0 ∨ x1 < 0 ∨ 3 < x1) → ¬ (x2 < 0 ∨ 40 < x2) → z = 0)))) hx hG p1 p2 (fun z Z' h' q1 q2 q3 q4 => ⟨z, Z', h', rfl, q1, q2, q3, q4⟩))
  subst e; exact ⟨z, Z', h', hca, q⟩
set_option maxRecDepth 100000 in
theorem cw_128_1_i1 {l : Launch} {D : va_G} {b0 : Nat} {ad : Nat → Nat} {Hb : Heap} {tau : Nat → Int64} {d n s : Nat} {S : Nat → xS} {Z : xZ} {h : mx_H} {Post : mx_R → Prop} (hx : XH n s S Z h) (hG : GI n S Z)  {x1 x2 : Int} (p1 : (-2147483648) ≤ x1 ∧ x1 ≤ 2147483647) (p2 : (-2147483648) ≤ x2 ∧ x2 ≤ 2147483647) (hP : ∀ (z : Int) (Z' : xZ) (h' : mx_H), XH n s S Z' h' → GI n S Z' → fr' [(46, 1), (46, 2), (46, 3), (47, (-1))] Z Z' → (-3) ≤ z ∧ z ≤ 0 ∧ (((1 < 0 ∨ 3 < 1 ∨ x1 < 0 ∨ 3 < x1) → z = -2) ∧ (¬ (1 < 0 ∨ 3 < 1 ∨ x1 < 0 ∨ 3 < x1) → (x2 < 0 ∨ 40 < x2) → z = -3) ∧ (¬ (1 < 0 ∨ 3 < 1 ∨ x1 < 0 ∨ 3 < x1) → ¬ (x2 < 0 ∨ 40 < x2) → z = 0)) → Post (some (xI z), h')) : mx_J (tB l D b0 ad Hb tau) mt_128 (d + 2) 0 [some (.ref 1), some (xI 1), some (xI x1), some (xI x2)] [] h Post := by
    have a1 : 1 < n := lt83 (GI_n hG) rfl
    have s1 : S 1 = .inl (11, [2, 0, 0, 0, 2, 2, 2, 2, 2, 2, 2, 2, 2, 2, 2, 2, 2]) := GI_s hG 1 rfl
    have a34 : 34 < n := lt83 (GI_n hG) rfl
    have s34 : S 34 = .inr ((.object "TitheHeap$Tray"), 4, 2) := GI_s hG 34 rfl
    have a46 : 46 < n := lt83 (GI_n hG) rfl
    have s46 : S 46 = .inl (10, [2, 0, 0, 0]) := GI_s hG 46 rfl
    refine mx_J.step (sn_128 0) (fun _ _ => rfl) ?_
    refine mx_J.step (sn_128 1) (fun _ _ => rfl) ?_
    obtain ⟨z1, hc1, b1⟩ := ct_144_1_y (d := d + 1) (l := l) (D := D) (b0 := b0) (ad := ad) (Hb := Hb) (tau := tau) hx hG (show 0 ≤ 1 ∧ 1 ≤ 3 by omega)
    refine Jcv hx (show mx_Sn _ _ 2 (mx_callv 144 2 11 5) from sn_128 2) a1 s1 hc1 rfl rfl rfl ?_
    have c17 : (1 < 0 ∨ 3 < 1 ∨ x1 < 0 ∨ 3 < x1) → mx_J (tB l D b0 ad Hb tau) mt_128 (d + 2) 17 [some (.ref 1), some (xI 1), some (xI x1), some (xI x2)] [] h Post := by
      intro f2_0
      refine JcI (z := (-2)) (show mx_Sn _ _ 17 (mx_const (.int (-2)) 19) from sn_128 17) rfl ?_
      exact mx_J.ret (sn_128 19) (fun _ _ => rfl) (hP (-2) Z h hx hG fr_rf (by omega))
    refine Jif_ne (show mx_Sn _ _ 5 (mx_if_ne 17 8) from sn_128 5) (by omega) (fun q3 => ?_) (fun q3 => ?_)
    · skip
      exact c17 (by omega)
    · skip
      refine mx_J.step (sn_128 8) (fun _ _ => rfl) ?_
      refine Jif_lt (show mx_Sn _ _ 9 (mx_if_lt 17 12) from sn_128 9) (by omega) (fun q4 => ?_) (fun q4 => ?_)
      · skip
        exact c17 (by omega)
      · skip
        refine mx_J.step (sn_128 12) (fun _ _ => rfl) ?_
        refine JcI (z := 3) (show mx_Sn _ _ 13 (mx_const (.int 3) 14) from sn_128 13) rfl ?_
        refine Jicmp_le (show mx_Sn _ _ 14 (mx_icmp_le 20 17) from sn_128 14) (by omega) (by omega) (fun q5 => ?_) (fun q5 => ?_)
        · skip
          refine mx_J.step (sn_128 20) (fun _ _ => rfl) ?_
          have c30 : (x2 < 0 ∨ 40 < x2) → mx_J (tB l D b0 ad Hb tau) mt_128 (d + 2) 30 [some (.ref 1), some (xI 1), some (xI x1), some (xI x2)] [] h Post := by
            intro f6_0
            refine JcI (z := (-3)) (show mx_Sn _ _ 30 (mx_const (.int (-3)) 32) from sn_128 30) rfl ?_
            exact mx_J.ret (sn_128 32) (fun _ _ => rfl) (hP (-3) Z h hx hG fr_rf (by omega))
          refine Jif_lt (show mx_Sn _ _ 21 (mx_if_lt 30 24) from sn_128 21) (by omega) (fun q7 => ?_) (fun q7 => ?_)
          · skip
            exact c30 (by omega)
          · skip
            refine mx_J.step (sn_128 24) (fun _ _ => rfl) ?_
            refine JcI (z := 40) (show mx_Sn _ _ 25 (mx_const (.int 40) 27) from sn_128 25) rfl ?_
            refine Jicmp_le (show mx_Sn _ _ 27 (mx_icmp_le 33 30) from sn_128 27) (by omega) (by omega) (fun q8 => ?_) (fun q8 => ?_)
            · skip
              refine mx_J.step (sn_128 33) (fun _ _ => rfl) ?_
              refine JgetR (g := 10) (b := 34) hx (show mx_Sn _ _ 34 (mx_getf 11 10 37) from sn_128 34) a1 s1 rfl rfl (hG.prr 1 10 rfl) ?_
              refine mx_J.step (sn_128 37) (fun _ _ => rfl) ?_
              refine JaaldR (i := 1) (b := 46) hx (show mx_Sn _ _ 38 (mx_aald 39) from sn_128 38) a34 s34 (by omega) (show Z 34 1 = 46 by have hq := GI_ex hG 34 1; replace hq : ((0 : Int) ≤ 1 → (1 : Int) ≤ 3 → (Z 34 1) = 44 + 2 * 1) := hq; omega) ?_
              refine mx_J.step (sn_128 39) (fun _ _ => rfl) ?_
              refine mx_J.step (sn_128 40) (fun _ _ => rfl) ?_
              obtain ⟨Z10, h10, hc10, hx10, hG10, hf10⟩ := ct_83_46 (d := d + 0) (l := l) (D := D) (b0 := b0) (ad := ad) (Hb := Hb) (tau := tau) hx hG (show 0 ≤ x1 ∧ x1 ≤ 3 by omega) (show 0 ≤ x2 ∧ x2 ≤ 40 by omega)
              refine Jcv0 hx (show mx_Sn _ _ 41 (mx_callv 83 3 10 44) from sn_128 41) a46 s46 hc10 rfl rfl rfl ?_
              refine JcI (z := 0) (show mx_Sn _ _ 44 (mx_const (.int 0) 45) from sn_128 44) rfl ?_
              exact mx_J.ret (sn_128 45) (fun _ _ => rfl) (hP 0 Z10 h10 hx10 hG10 (fr_tr (M := [(46, 1), (46, 2), (46, 3), (47, (-1))]) fr_rf (hf10) (M1 := []) rfl rfl) (by omega))
            · skip
              exact c30 (by omega)
        · skip
          exact c17 (by omega)
theorem ct_128_1_i1 {l : Launch} {D : va_G} {b0 : Nat} {ad : Nat → Nat} {Hb : Heap} {tau : Nat → Int64} {d n s : Nat} {S : Nat → xS} {Z : xZ} {h : mx_H} (hx : XH n s S Z h) (hG : GI n S Z)  {x1 x2 : Int} (p1 : (-2147483648) ≤ x1 ∧ x1 ≤ 2147483647) (p2 : (-2147483648) ≤ x2 ∧ x2 ≤ 2147483647) : ∃ (z : Int) (Z' : xZ) (h' : mx_H), mx_Ca (tB l D b0 ad Hb tau) (d + 3) 128 [.ref 1, xI 1, xI x1, xI x2] h (some (xI z), h') ∧ XH n s S Z' h' ∧ GI n S Z' ∧ fr' [(46, 1), (46, 2), (46, 3), (47, (-1))] Z Z' ∧ ((-3) ≤ z ∧ z ≤ 0 ∧ (((1 < 0 ∨ 3 < 1 ∨ x1 < 0 ∨ 3 < x1) → z = -2) ∧ (¬ (1 < 0 ∨ 3 < 1 ∨ x1 < 0 ∨ 3 < x1) → (x2 < 0 ∨ 40 < x2) → z = -3) ∧ (¬ (1 < 0 ∨ 3 < 1 ∨ x1 < 0 ∨ 3 < x1) → ¬ (x2 < 0 ∨ 40 < x2) → z = 0))) := by
  obtain ⟨r, hca, z, Z', h', e, q⟩ := Jmt (B := tB l D b0 ad Hb tau) (M := mt_128) (mi := 128) (as := [.ref 1, xI 1, xI x1, xI x2]) (d := d + 2) (ls := [some (.ref 1), some (xI 1), some (xI x1), some (xI x2)]) rfl rfl rfl rfl rfl rfl (cw_128_1_i1 (l := l) (D := D) (b0 := b0) (ad := ad) (Hb := Hb) (tau := tau) (d := d) (Post := fun r => ∃ (z : Int) (Z' : xZ) (h' : mx_H), r = (some (xI z), h') ∧ XH n s S Z' h' ∧ GI n S Z' ∧ fr' [(46, 1), (46, 2), (46, 3), (47, (-1))] Z Z' ∧ ((-3) ≤ z ∧ z ≤ 0 ∧ (((1 < 0 ∨ 3 < 1 ∨ x1 < 0 ∨ 3 < x1) → z = -2) ∧ (¬ (1 < 0 ∨ 3 < 1 ∨ x1 < 0 ∨ 3 < x1) → (x2 < 0 ∨ 40 < x2) → z = -3) ∧ (¬ (1 < 0 ∨ 3 < 1 ∨ x1 < 0 ∨ 3 < x1) → ¬ (x2 < 0 ∨ 40 < x2) → z = 0)))) hx hG p1 p2 (fun z Z' h' q1 q2 q3 q4 => ⟨z, Z', h', rfl, q1, q2, q3, q4⟩))
  subst e; exact ⟨z, Z', h', hca, q⟩
set_option maxRecDepth 100000 in
theorem cw_128_1_i2 {l : Launch} {D : va_G} {b0 : Nat} {ad : Nat → Nat} {Hb : Heap} {tau : Nat → Int64} {d n s : Nat} {S : Nat → xS} {Z : xZ} {h : mx_H} {Post : mx_R → Prop} (hx : XH n s S Z h) (hG : GI n S Z)  {x1 x2 : Int} (p1 : (-2147483648) ≤ x1 ∧ x1 ≤ 2147483647) (p2 : (-2147483648) ≤ x2 ∧ x2 ≤ 2147483647) (hP : ∀ (z : Int) (Z' : xZ) (h' : mx_H), XH n s S Z' h' → GI n S Z' → fr' [(48, 1), (48, 2), (48, 3), (49, (-1))] Z Z' → (-3) ≤ z ∧ z ≤ 0 ∧ (((2 < 0 ∨ 3 < 2 ∨ x1 < 0 ∨ 3 < x1) → z = -2) ∧ (¬ (2 < 0 ∨ 3 < 2 ∨ x1 < 0 ∨ 3 < x1) → (x2 < 0 ∨ 40 < x2) → z = -3) ∧ (¬ (2 < 0 ∨ 3 < 2 ∨ x1 < 0 ∨ 3 < x1) → ¬ (x2 < 0 ∨ 40 < x2) → z = 0)) → Post (some (xI z), h')) : mx_J (tB l D b0 ad Hb tau) mt_128 (d + 2) 0 [some (.ref 1), some (xI 2), some (xI x1), some (xI x2)] [] h Post := by
    have a1 : 1 < n := lt83 (GI_n hG) rfl
    have s1 : S 1 = .inl (11, [2, 0, 0, 0, 2, 2, 2, 2, 2, 2, 2, 2, 2, 2, 2, 2, 2]) := GI_s hG 1 rfl
    have a34 : 34 < n := lt83 (GI_n hG) rfl
    have s34 : S 34 = .inr ((.object "TitheHeap$Tray"), 4, 2) := GI_s hG 34 rfl
    have a48 : 48 < n := lt83 (GI_n hG) rfl
    have s48 : S 48 = .inl (10, [2, 0, 0, 0]) := GI_s hG 48 rfl
    refine mx_J.step (sn_128 0) (fun _ _ => rfl) ?_
    refine mx_J.step (sn_128 1) (fun _ _ => rfl) ?_
    obtain ⟨z1, hc1, b1⟩ := ct_144_1_y (d := d + 1) (l := l) (D := D) (b0 := b0) (ad := ad) (Hb := Hb) (tau := tau) hx hG (show 0 ≤ 2 ∧ 2 ≤ 3 by omega)
    refine Jcv hx (show mx_Sn _ _ 2 (mx_callv 144 2 11 5) from sn_128 2) a1 s1 hc1 rfl rfl rfl ?_
    have c17 : (2 < 0 ∨ 3 < 2 ∨ x1 < 0 ∨ 3 < x1) → mx_J (tB l D b0 ad Hb tau) mt_128 (d + 2) 17 [some (.ref 1), some (xI 2), some (xI x1), some (xI x2)] [] h Post := by
      intro f2_0
      refine JcI (z := (-2)) (show mx_Sn _ _ 17 (mx_const (.int (-2)) 19) from sn_128 17) rfl ?_
      exact mx_J.ret (sn_128 19) (fun _ _ => rfl) (hP (-2) Z h hx hG fr_rf (by omega))
    refine Jif_ne (show mx_Sn _ _ 5 (mx_if_ne 17 8) from sn_128 5) (by omega) (fun q3 => ?_) (fun q3 => ?_)
    · skip
      exact c17 (by omega)
    · skip
      refine mx_J.step (sn_128 8) (fun _ _ => rfl) ?_
      refine Jif_lt (show mx_Sn _ _ 9 (mx_if_lt 17 12) from sn_128 9) (by omega) (fun q4 => ?_) (fun q4 => ?_)
      · skip
        exact c17 (by omega)
      · skip
        refine mx_J.step (sn_128 12) (fun _ _ => rfl) ?_
        refine JcI (z := 3) (show mx_Sn _ _ 13 (mx_const (.int 3) 14) from sn_128 13) rfl ?_
        refine Jicmp_le (show mx_Sn _ _ 14 (mx_icmp_le 20 17) from sn_128 14) (by omega) (by omega) (fun q5 => ?_) (fun q5 => ?_)
        · skip
          refine mx_J.step (sn_128 20) (fun _ _ => rfl) ?_
          have c30 : (x2 < 0 ∨ 40 < x2) → mx_J (tB l D b0 ad Hb tau) mt_128 (d + 2) 30 [some (.ref 1), some (xI 2), some (xI x1), some (xI x2)] [] h Post := by
            intro f6_0
            refine JcI (z := (-3)) (show mx_Sn _ _ 30 (mx_const (.int (-3)) 32) from sn_128 30) rfl ?_
            exact mx_J.ret (sn_128 32) (fun _ _ => rfl) (hP (-3) Z h hx hG fr_rf (by omega))
          refine Jif_lt (show mx_Sn _ _ 21 (mx_if_lt 30 24) from sn_128 21) (by omega) (fun q7 => ?_) (fun q7 => ?_)
          · skip
            exact c30 (by omega)
          · skip
            refine mx_J.step (sn_128 24) (fun _ _ => rfl) ?_
            refine JcI (z := 40) (show mx_Sn _ _ 25 (mx_const (.int 40) 27) from sn_128 25) rfl ?_
            refine Jicmp_le (show mx_Sn _ _ 27 (mx_icmp_le 33 30) from sn_128 27) (by omega) (by omega) (fun q8 => ?_) (fun q8 => ?_)
            · skip
              refine mx_J.step (sn_128 33) (fun _ _ => rfl) ?_
              refine JgetR (g := 10) (b := 34) hx (show mx_Sn _ _ 34 (mx_getf 11 10 37) from sn_128 34) a1 s1 rfl rfl (hG.prr 1 10 rfl) ?_
              refine mx_J.step (sn_128 37) (fun _ _ => rfl) ?_
              refine JaaldR (i := 2) (b := 48) hx (show mx_Sn _ _ 38 (mx_aald 39) from sn_128 38) a34 s34 (by omega) (show Z 34 2 = 48 by have hq := GI_ex hG 34 2; replace hq : ((0 : Int) ≤ 2 → (2 : Int) ≤ 3 → (Z 34 2) = 44 + 2 * 2) := hq; omega) ?_
              refine mx_J.step (sn_128 39) (fun _ _ => rfl) ?_
              refine mx_J.step (sn_128 40) (fun _ _ => rfl) ?_
              obtain ⟨Z10, h10, hc10, hx10, hG10, hf10⟩ := ct_83_48 (d := d + 0) (l := l) (D := D) (b0 := b0) (ad := ad) (Hb := Hb) (tau := tau) hx hG (show 0 ≤ x1 ∧ x1 ≤ 3 by omega) (show 0 ≤ x2 ∧ x2 ≤ 40 by omega)
              refine Jcv0 hx (show mx_Sn _ _ 41 (mx_callv 83 3 10 44) from sn_128 41) a48 s48 hc10 rfl rfl rfl ?_
              refine JcI (z := 0) (show mx_Sn _ _ 44 (mx_const (.int 0) 45) from sn_128 44) rfl ?_
              exact mx_J.ret (sn_128 45) (fun _ _ => rfl) (hP 0 Z10 h10 hx10 hG10 (fr_tr (M := [(48, 1), (48, 2), (48, 3), (49, (-1))]) fr_rf (hf10) (M1 := []) rfl rfl) (by omega))
            · skip
              exact c30 (by omega)
        · skip
          exact c17 (by omega)
theorem ct_128_1_i2 {l : Launch} {D : va_G} {b0 : Nat} {ad : Nat → Nat} {Hb : Heap} {tau : Nat → Int64} {d n s : Nat} {S : Nat → xS} {Z : xZ} {h : mx_H} (hx : XH n s S Z h) (hG : GI n S Z)  {x1 x2 : Int} (p1 : (-2147483648) ≤ x1 ∧ x1 ≤ 2147483647) (p2 : (-2147483648) ≤ x2 ∧ x2 ≤ 2147483647) : ∃ (z : Int) (Z' : xZ) (h' : mx_H), mx_Ca (tB l D b0 ad Hb tau) (d + 3) 128 [.ref 1, xI 2, xI x1, xI x2] h (some (xI z), h') ∧ XH n s S Z' h' ∧ GI n S Z' ∧ fr' [(48, 1), (48, 2), (48, 3), (49, (-1))] Z Z' ∧ ((-3) ≤ z ∧ z ≤ 0 ∧ (((2 < 0 ∨ 3 < 2 ∨ x1 < 0 ∨ 3 < x1) → z = -2) ∧ (¬ (2 < 0 ∨ 3 < 2 ∨ x1 < 0 ∨ 3 < x1) → (x2 < 0 ∨ 40 < x2) → z = -3) ∧ (¬ (2 < 0 ∨ 3 < 2 ∨ x1 < 0 ∨ 3 < x1) → ¬ (x2 < 0 ∨ 40 < x2) → z = 0))) := by
  obtain ⟨r, hca, z, Z', h', e, q⟩ := Jmt (B := tB l D b0 ad Hb tau) (M := mt_128) (mi := 128) (as := [.ref 1, xI 2, xI x1, xI x2]) (d := d + 2) (ls := [some (.ref 1), some (xI 2), some (xI x1), some (xI x2)]) rfl rfl rfl rfl rfl rfl (cw_128_1_i2 (l := l) (D := D) (b0 := b0) (ad := ad) (Hb := Hb) (tau := tau) (d := d) (Post := fun r => ∃ (z : Int) (Z' : xZ) (h' : mx_H), r = (some (xI z), h') ∧ XH n s S Z' h' ∧ GI n S Z' ∧ fr' [(48, 1), (48, 2), (48, 3), (49, (-1))] Z Z' ∧ ((-3) ≤ z ∧ z ≤ 0 ∧ (((2 < 0 ∨ 3 < 2 ∨ x1 < 0 ∨ 3 < x1) → z = -2) ∧ (¬ (2 < 0 ∨ 3 < 2 ∨ x1 < 0 ∨ 3 < x1) → (x2 < 0 ∨ 40 < x2) → z = -3) ∧ (¬ (2 < 0 ∨ 3 < 2 ∨ x1 < 0 ∨ 3 < x1) → ¬ (x2 < 0 ∨ 40 < x2) → z = 0)))) hx hG p1 p2 (fun z Z' h' q1 q2 q3 q4 => ⟨z, Z', h', rfl, q1, q2, q3, q4⟩))
  subst e; exact ⟨z, Z', h', hca, q⟩
set_option maxRecDepth 100000 in
theorem cw_128_1_i3 {l : Launch} {D : va_G} {b0 : Nat} {ad : Nat → Nat} {Hb : Heap} {tau : Nat → Int64} {d n s : Nat} {S : Nat → xS} {Z : xZ} {h : mx_H} {Post : mx_R → Prop} (hx : XH n s S Z h) (hG : GI n S Z)  {x1 x2 : Int} (p1 : (-2147483648) ≤ x1 ∧ x1 ≤ 2147483647) (p2 : (-2147483648) ≤ x2 ∧ x2 ≤ 2147483647) (hP : ∀ (z : Int) (Z' : xZ) (h' : mx_H), XH n s S Z' h' → GI n S Z' → fr' [(50, 1), (50, 2), (50, 3), (51, (-1))] Z Z' → (-3) ≤ z ∧ z ≤ 0 ∧ (((3 < 0 ∨ 3 < 3 ∨ x1 < 0 ∨ 3 < x1) → z = -2) ∧ (¬ (3 < 0 ∨ 3 < 3 ∨ x1 < 0 ∨ 3 < x1) → (x2 < 0 ∨ 40 < x2) → z = -3) ∧ (¬ (3 < 0 ∨ 3 < 3 ∨ x1 < 0 ∨ 3 < x1) → ¬ (x2 < 0 ∨ 40 < x2) → z = 0)) → Post (some (xI z), h')) : mx_J (tB l D b0 ad Hb tau) mt_128 (d + 2) 0 [some (.ref 1), some (xI 3), some (xI x1), some (xI x2)] [] h Post := by
    have a1 : 1 < n := lt83 (GI_n hG) rfl
    have s1 : S 1 = .inl (11, [2, 0, 0, 0, 2, 2, 2, 2, 2, 2, 2, 2, 2, 2, 2, 2, 2]) := GI_s hG 1 rfl
    have a34 : 34 < n := lt83 (GI_n hG) rfl
    have s34 : S 34 = .inr ((.object "TitheHeap$Tray"), 4, 2) := GI_s hG 34 rfl
    have a50 : 50 < n := lt83 (GI_n hG) rfl
    have s50 : S 50 = .inl (10, [2, 0, 0, 0]) := GI_s hG 50 rfl
    refine mx_J.step (sn_128 0) (fun _ _ => rfl) ?_
    refine mx_J.step (sn_128 1) (fun _ _ => rfl) ?_
    obtain ⟨z1, hc1, b1⟩ := ct_144_1_y (d := d + 1) (l := l) (D := D) (b0 := b0) (ad := ad) (Hb := Hb) (tau := tau) hx hG (show 0 ≤ 3 ∧ 3 ≤ 3 by omega)
    refine Jcv hx (show mx_Sn _ _ 2 (mx_callv 144 2 11 5) from sn_128 2) a1 s1 hc1 rfl rfl rfl ?_
    have c17 : (3 < 0 ∨ 3 < 3 ∨ x1 < 0 ∨ 3 < x1) → mx_J (tB l D b0 ad Hb tau) mt_128 (d + 2) 17 [some (.ref 1), some (xI 3), some (xI x1), some (xI x2)] [] h Post := by
      intro f2_0
      refine JcI (z := (-2)) (show mx_Sn _ _ 17 (mx_const (.int (-2)) 19) from sn_128 17) rfl ?_
      exact mx_J.ret (sn_128 19) (fun _ _ => rfl) (hP (-2) Z h hx hG fr_rf (by omega))
    refine Jif_ne (show mx_Sn _ _ 5 (mx_if_ne 17 8) from sn_128 5) (by omega) (fun q3 => ?_) (fun q3 => ?_)
    · skip
      exact c17 (by omega)
    · skip
      refine mx_J.step (sn_128 8) (fun _ _ => rfl) ?_
      refine Jif_lt (show mx_Sn _ _ 9 (mx_if_lt 17 12) from sn_128 9) (by omega) (fun q4 => ?_) (fun q4 => ?_)
      · skip
        exact c17 (by omega)
      · skip
        refine mx_J.step (sn_128 12) (fun _ _ => rfl) ?_
        refine JcI (z := 3) (show mx_Sn _ _ 13 (mx_const (.int 3) 14) from sn_128 13) rfl ?_
        refine Jicmp_le (show mx_Sn _ _ 14 (mx_icmp_le 20 17) from sn_128 14) (by omega) (by omega) (fun q5 => ?_) (fun q5 => ?_)
        · skip
          refine mx_J.step (sn_128 20) (fun _ _ => rfl) ?_
          have c30 : (x2 < 0 ∨ 40 < x2) → mx_J (tB l D b0 ad Hb tau) mt_128 (d + 2) 30 [some (.ref 1), some (xI 3), some (xI x1), some (xI x2)] [] h Post := by
            intro f6_0
            refine JcI (z := (-3)) (show mx_Sn _ _ 30 (mx_const (.int (-3)) 32) from sn_128 30) rfl ?_
            exact mx_J.ret (sn_128 32) (fun _ _ => rfl) (hP (-3) Z h hx hG fr_rf (by omega))
          refine Jif_lt (show mx_Sn _ _ 21 (mx_if_lt 30 24) from sn_128 21) (by omega) (fun q7 => ?_) (fun q7 => ?_)
          · skip
            exact c30 (by omega)
          · skip
            refine mx_J.step (sn_128 24) (fun _ _ => rfl) ?_
            refine JcI (z := 40) (show mx_Sn _ _ 25 (mx_const (.int 40) 27) from sn_128 25) rfl ?_
            refine Jicmp_le (show mx_Sn _ _ 27 (mx_icmp_le 33 30) from sn_128 27) (by omega) (by omega) (fun q8 => ?_) (fun q8 => ?_)
            · skip
              refine mx_J.step (sn_128 33) (fun _ _ => rfl) ?_
              refine JgetR (g := 10) (b := 34) hx (show mx_Sn _ _ 34 (mx_getf 11 10 37) from sn_128 34) a1 s1 rfl rfl (hG.prr 1 10 rfl) ?_
              refine mx_J.step (sn_128 37) (fun _ _ => rfl) ?_
              refine JaaldR (i := 3) (b := 50) hx (show mx_Sn _ _ 38 (mx_aald 39) from sn_128 38) a34 s34 (by omega) (show Z 34 3 = 50 by have hq := GI_ex hG 34 3; replace hq : ((0 : Int) ≤ 3 → (3 : Int) ≤ 3 → (Z 34 3) = 44 + 2 * 3) := hq; omega) ?_
              refine mx_J.step (sn_128 39) (fun _ _ => rfl) ?_
              refine mx_J.step (sn_128 40) (fun _ _ => rfl) ?_
              obtain ⟨Z10, h10, hc10, hx10, hG10, hf10⟩ := ct_83_50 (d := d + 0) (l := l) (D := D) (b0 := b0) (ad := ad) (Hb := Hb) (tau := tau) hx hG (show 0 ≤ x1 ∧ x1 ≤ 3 by omega) (show 0 ≤ x2 ∧ x2 ≤ 40 by omega)
              refine Jcv0 hx (show mx_Sn _ _ 41 (mx_callv 83 3 10 44) from sn_128 41) a50 s50 hc10 rfl rfl rfl ?_
              refine JcI (z := 0) (show mx_Sn _ _ 44 (mx_const (.int 0) 45) from sn_128 44) rfl ?_
              exact mx_J.ret (sn_128 45) (fun _ _ => rfl) (hP 0 Z10 h10 hx10 hG10 (fr_tr (M := [(50, 1), (50, 2), (50, 3), (51, (-1))]) fr_rf (hf10) (M1 := []) rfl rfl) (by omega))
            · skip
              exact c30 (by omega)
        · skip
          exact c17 (by omega)
theorem ct_128_1_i3 {l : Launch} {D : va_G} {b0 : Nat} {ad : Nat → Nat} {Hb : Heap} {tau : Nat → Int64} {d n s : Nat} {S : Nat → xS} {Z : xZ} {h : mx_H} (hx : XH n s S Z h) (hG : GI n S Z)  {x1 x2 : Int} (p1 : (-2147483648) ≤ x1 ∧ x1 ≤ 2147483647) (p2 : (-2147483648) ≤ x2 ∧ x2 ≤ 2147483647) : ∃ (z : Int) (Z' : xZ) (h' : mx_H), mx_Ca (tB l D b0 ad Hb tau) (d + 3) 128 [.ref 1, xI 3, xI x1, xI x2] h (some (xI z), h') ∧ XH n s S Z' h' ∧ GI n S Z' ∧ fr' [(50, 1), (50, 2), (50, 3), (51, (-1))] Z Z' ∧ ((-3) ≤ z ∧ z ≤ 0 ∧ (((3 < 0 ∨ 3 < 3 ∨ x1 < 0 ∨ 3 < x1) → z = -2) ∧ (¬ (3 < 0 ∨ 3 < 3 ∨ x1 < 0 ∨ 3 < x1) → (x2 < 0 ∨ 40 < x2) → z = -3) ∧ (¬ (3 < 0 ∨ 3 < 3 ∨ x1 < 0 ∨ 3 < x1) → ¬ (x2 < 0 ∨ 40 < x2) → z = 0))) := by
  obtain ⟨r, hca, z, Z', h', e, q⟩ := Jmt (B := tB l D b0 ad Hb tau) (M := mt_128) (mi := 128) (as := [.ref 1, xI 3, xI x1, xI x2]) (d := d + 2) (ls := [some (.ref 1), some (xI 3), some (xI x1), some (xI x2)]) rfl rfl rfl rfl rfl rfl (cw_128_1_i3 (l := l) (D := D) (b0 := b0) (ad := ad) (Hb := Hb) (tau := tau) (d := d) (Post := fun r => ∃ (z : Int) (Z' : xZ) (h' : mx_H), r = (some (xI z), h') ∧ XH n s S Z' h' ∧ GI n S Z' ∧ fr' [(50, 1), (50, 2), (50, 3), (51, (-1))] Z Z' ∧ ((-3) ≤ z ∧ z ≤ 0 ∧ (((3 < 0 ∨ 3 < 3 ∨ x1 < 0 ∨ 3 < x1) → z = -2) ∧ (¬ (3 < 0 ∨ 3 < 3 ∨ x1 < 0 ∨ 3 < x1) → (x2 < 0 ∨ 40 < x2) → z = -3) ∧ (¬ (3 < 0 ∨ 3 < 3 ∨ x1 < 0 ∨ 3 < x1) → ¬ (x2 < 0 ∨ 40 < x2) → z = 0)))) hx hG p1 p2 (fun z Z' h' q1 q2 q3 q4 => ⟨z, Z', h', rfl, q1, q2, q3, q4⟩))
  subst e; exact ⟨z, Z', h', hca, q⟩
set_option maxRecDepth 100000 in
theorem cw_128_1_n {l : Launch} {D : va_G} {b0 : Nat} {ad : Nat → Nat} {Hb : Heap} {tau : Nat → Int64} {d n s : Nat} {S : Nat → xS} {Z : xZ} {h : mx_H} {Post : mx_R → Prop} (hx : XH n s S Z h) (hG : GI n S Z)  {x0 x1 x2 : Int} (p0 : (-2147483648) ≤ x0 ∧ x0 ≤ (-1)) (p1 : (-2147483648) ≤ x1 ∧ x1 ≤ 2147483647) (p2 : (-2147483648) ≤ x2 ∧ x2 ≤ 2147483647) (hP : ∀ z : Int, (-2) ≤ z ∧ z ≤ (-2) ∧ (((x0 < 0 ∨ 3 < x0 ∨ x1 < 0 ∨ 3 < x1) → z = -2) ∧ (¬ (x0 < 0 ∨ 3 < x0 ∨ x1 < 0 ∨ 3 < x1) → (x2 < 0 ∨ 40 < x2) → z = -3) ∧ (¬ (x0 < 0 ∨ 3 < x0 ∨ x1 < 0 ∨ 3 < x1) → ¬ (x2 < 0 ∨ 40 < x2) → z = 0)) → Post (some (xI z), h)) : mx_J (tB l D b0 ad Hb tau) mt_128 (d + 1) 0 [some (.ref 1), some (xI x0), some (xI x1), some (xI x2)] [] h Post := by
    have a1 : 1 < n := lt83 (GI_n hG) rfl
    have s1 : S 1 = .inl (11, [2, 0, 0, 0, 2, 2, 2, 2, 2, 2, 2, 2, 2, 2, 2, 2, 2]) := GI_s hG 1 rfl
    refine mx_J.step (sn_128 0) (fun _ _ => rfl) ?_
    refine mx_J.step (sn_128 1) (fun _ _ => rfl) ?_
    obtain ⟨z1, hc1, b1⟩ := ct_144_1_n (d := d + 0) (l := l) (D := D) (b0 := b0) (ad := ad) (Hb := Hb) (tau := tau) hx hG (show (-2147483648) ≤ x0 ∧ x0 ≤ (-1) by omega)
    refine Jcv hx (show mx_Sn _ _ 2 (mx_callv 144 2 11 5) from sn_128 2) a1 s1 hc1 rfl rfl rfl ?_
    refine Jif_ne (show mx_Sn _ _ 5 (mx_if_ne 17 8) from sn_128 5) (by omega) (fun q2 => ?_) (fun q2 => ?_)
    · skip
      refine JcI (z := (-2)) (show mx_Sn _ _ 17 (mx_const (.int (-2)) 19) from sn_128 17) rfl ?_
      exact mx_J.ret (sn_128 19) (fun _ _ => rfl) (hP (-2) (by omega))
    · skip
      exfalso; omega
theorem ct_128_1_n {l : Launch} {D : va_G} {b0 : Nat} {ad : Nat → Nat} {Hb : Heap} {tau : Nat → Int64} {d n s : Nat} {S : Nat → xS} {Z : xZ} {h : mx_H} (hx : XH n s S Z h) (hG : GI n S Z)  {x0 x1 x2 : Int} (p0 : (-2147483648) ≤ x0 ∧ x0 ≤ (-1)) (p1 : (-2147483648) ≤ x1 ∧ x1 ≤ 2147483647) (p2 : (-2147483648) ≤ x2 ∧ x2 ≤ 2147483647) : ∃ z : Int, mx_Ca (tB l D b0 ad Hb tau) (d + 2) 128 [.ref 1, xI x0, xI x1, xI x2] h (some (xI z), h) ∧ ((-2) ≤ z ∧ z ≤ (-2) ∧ (((x0 < 0 ∨ 3 < x0 ∨ x1 < 0 ∨ 3 < x1) → z = -2) ∧ (¬ (x0 < 0 ∨ 3 < x0 ∨ x1 < 0 ∨ 3 < x1) → (x2 < 0 ∨ 40 < x2) → z = -3) ∧ (¬ (x0 < 0 ∨ 3 < x0 ∨ x1 < 0 ∨ 3 < x1) → ¬ (x2 < 0 ∨ 40 < x2) → z = 0))) := by
  obtain ⟨r, hca, z, e, hp⟩ := Jmt (B := tB l D b0 ad Hb tau) (M := mt_128) (mi := 128) (as := [.ref 1, xI x0, xI x1, xI x2]) (d := d + 1) (ls := [some (.ref 1), some (xI x0), some (xI x1), some (xI x2)]) rfl rfl rfl rfl rfl rfl (cw_128_1_n (l := l) (D := D) (b0 := b0) (ad := ad) (Hb := Hb) (tau := tau) (d := d) (Post := fun r => ∃ z : Int, r = (some (xI z), h) ∧ ((-2) ≤ z ∧ z ≤ (-2) ∧ (((x0 < 0 ∨ 3 < x0 ∨ x1 < 0 ∨ 3 < x1) → z = -2) ∧ (¬ (x0 < 0 ∨ 3 < x0 ∨ x1 < 0 ∨ 3 < x1) → (x2 < 0 ∨ 40 < x2) → z = -3) ∧ (¬ (x0 < 0 ∨ 3 < x0 ∨ x1 < 0 ∨ 3 < x1) → ¬ (x2 < 0 ∨ 40 < x2) → z = 0)))) hx hG p0 p1 p2 (fun z hz => ⟨z, rfl, hz⟩))
  subst e; exact ⟨z, hca, hp⟩
set_option maxRecDepth 100000 in
theorem cw_128_1_p {l : Launch} {D : va_G} {b0 : Nat} {ad : Nat → Nat} {Hb : Heap} {tau : Nat → Int64} {d n s : Nat} {S : Nat → xS} {Z : xZ} {h : mx_H} {Post : mx_R → Prop} (hx : XH n s S Z h) (hG : GI n S Z)  {x0 x1 x2 : Int} (p0 : 4 ≤ x0 ∧ x0 ≤ 2147483647) (p1 : (-2147483648) ≤ x1 ∧ x1 ≤ 2147483647) (p2 : (-2147483648) ≤ x2 ∧ x2 ≤ 2147483647) (hP : ∀ z : Int, (-2) ≤ z ∧ z ≤ (-2) ∧ (((x0 < 0 ∨ 3 < x0 ∨ x1 < 0 ∨ 3 < x1) → z = -2) ∧ (¬ (x0 < 0 ∨ 3 < x0 ∨ x1 < 0 ∨ 3 < x1) → (x2 < 0 ∨ 40 < x2) → z = -3) ∧ (¬ (x0 < 0 ∨ 3 < x0 ∨ x1 < 0 ∨ 3 < x1) → ¬ (x2 < 0 ∨ 40 < x2) → z = 0)) → Post (some (xI z), h)) : mx_J (tB l D b0 ad Hb tau) mt_128 (d + 1) 0 [some (.ref 1), some (xI x0), some (xI x1), some (xI x2)] [] h Post := by
    have a1 : 1 < n := lt83 (GI_n hG) rfl
    have s1 : S 1 = .inl (11, [2, 0, 0, 0, 2, 2, 2, 2, 2, 2, 2, 2, 2, 2, 2, 2, 2]) := GI_s hG 1 rfl
    refine mx_J.step (sn_128 0) (fun _ _ => rfl) ?_
    refine mx_J.step (sn_128 1) (fun _ _ => rfl) ?_
    obtain ⟨z1, hc1, b1⟩ := ct_144_1_p (d := d + 0) (l := l) (D := D) (b0 := b0) (ad := ad) (Hb := Hb) (tau := tau) hx hG (show 4 ≤ x0 ∧ x0 ≤ 2147483647 by omega)
    refine Jcv hx (show mx_Sn _ _ 2 (mx_callv 144 2 11 5) from sn_128 2) a1 s1 hc1 rfl rfl rfl ?_
    refine Jif_ne (show mx_Sn _ _ 5 (mx_if_ne 17 8) from sn_128 5) (by omega) (fun q2 => ?_) (fun q2 => ?_)
    · skip
      refine JcI (z := (-2)) (show mx_Sn _ _ 17 (mx_const (.int (-2)) 19) from sn_128 17) rfl ?_
      exact mx_J.ret (sn_128 19) (fun _ _ => rfl) (hP (-2) (by omega))
    · skip
      exfalso; omega
theorem ct_128_1_p {l : Launch} {D : va_G} {b0 : Nat} {ad : Nat → Nat} {Hb : Heap} {tau : Nat → Int64} {d n s : Nat} {S : Nat → xS} {Z : xZ} {h : mx_H} (hx : XH n s S Z h) (hG : GI n S Z)  {x0 x1 x2 : Int} (p0 : 4 ≤ x0 ∧ x0 ≤ 2147483647) (p1 : (-2147483648) ≤ x1 ∧ x1 ≤ 2147483647) (p2 : (-2147483648) ≤ x2 ∧ x2 ≤ 2147483647) : ∃ z : Int, mx_Ca (tB l D b0 ad Hb tau) (d + 2) 128 [.ref 1, xI x0, xI x1, xI x2] h (some (xI z), h) ∧ ((-2) ≤ z ∧ z ≤ (-2) ∧ (((x0 < 0 ∨ 3 < x0 ∨ x1 < 0 ∨ 3 < x1) → z = -2) ∧ (¬ (x0 < 0 ∨ 3 < x0 ∨ x1 < 0 ∨ 3 < x1) → (x2 < 0 ∨ 40 < x2) → z = -3) ∧ (¬ (x0 < 0 ∨ 3 < x0 ∨ x1 < 0 ∨ 3 < x1) → ¬ (x2 < 0 ∨ 40 < x2) → z = 0))) := by
  obtain ⟨r, hca, z, e, hp⟩ := Jmt (B := tB l D b0 ad Hb tau) (M := mt_128) (mi := 128) (as := [.ref 1, xI x0, xI x1, xI x2]) (d := d + 1) (ls := [some (.ref 1), some (xI x0), some (xI x1), some (xI x2)]) rfl rfl rfl rfl rfl rfl (cw_128_1_p (l := l) (D := D) (b0 := b0) (ad := ad) (Hb := Hb) (tau := tau) (d := d) (Post := fun r => ∃ z : Int, r = (some (xI z), h) ∧ ((-2) ≤ z ∧ z ≤ (-2) ∧ (((x0 < 0 ∨ 3 < x0 ∨ x1 < 0 ∨ 3 < x1) → z = -2) ∧ (¬ (x0 < 0 ∨ 3 < x0 ∨ x1 < 0 ∨ 3 < x1) → (x2 < 0 ∨ 40 < x2) → z = -3) ∧ (¬ (x0 < 0 ∨ 3 < x0 ∨ x1 < 0 ∨ 3 < x1) → ¬ (x2 < 0 ∨ 40 < x2) → z = 0)))) hx hG p0 p1 p2 (fun z hz => ⟨z, rfl, hz⟩))
  subst e; exact ⟨z, hca, hp⟩
theorem ct_128_1 {l : Launch} {D : va_G} {b0 : Nat} {ad : Nat → Nat} {Hb : Heap} {tau : Nat → Int64} {d n s : Nat} {S : Nat → xS} {Z : xZ} {h : mx_H} (hx : XH n s S Z h) (hG : GI n S Z) {x0 x1 x2 : Int} (p0 : (-2147483648) ≤ x0 ∧ x0 ≤ 2147483647) (p1 : (-2147483648) ≤ x1 ∧ x1 ≤ 2147483647) (p2 : (-2147483648) ≤ x2 ∧ x2 ≤ 2147483647) : ∃ (z : Int) (Z' : xZ) (h' : mx_H), mx_Ca (tB l D b0 ad Hb tau) (d + 3) 128 [.ref 1, xI x0, xI x1, xI x2] h (some (xI z), h') ∧ XH n s S Z' h' ∧ GI n S Z' ∧ fr' [(44, 1), (44, 2), (44, 3), (45, (-1)), (46, 1), (46, 2), (46, 3), (47, (-1)), (48, 1), (48, 2), (48, 3), (49, (-1)), (50, 1), (50, 2), (50, 3), (51, (-1))] Z Z' ∧ ((-3) ≤ z ∧ z ≤ 0 ∧ (((x0 < 0 ∨ 3 < x0 ∨ x1 < 0 ∨ 3 < x1) → z = -2) ∧ (¬ (x0 < 0 ∨ 3 < x0 ∨ x1 < 0 ∨ 3 < x1) → (x2 < 0 ∨ 40 < x2) → z = -3) ∧ (¬ (x0 < 0 ∨ 3 < x0 ∨ x1 < 0 ∨ 3 < x1) → ¬ (x2 < 0 ∨ 40 < x2) → z = 0))) := by
  have hc : x0 = 0 ∨ x0 = 1 ∨ x0 = 2 ∨ x0 = 3 ∨ ((-2147483648) ≤ x0 ∧ x0 ≤ (-1)) ∨ (4 ≤ x0 ∧ x0 ≤ 2147483647) := by omega
  rcases hc with hc | hc | hc | hc | hc | hc
  · subst hc
    obtain ⟨z, Z', h', hca, q1, q2, q3, b⟩ := ct_128_1_i0 (d := d + 0) (l := l) (D := D) (b0 := b0) (ad := ad) (Hb := Hb) (tau := tau) hx hG p1 p2
    exact ⟨z, Z', h', hca, q1, q2, fr_tr (M1 := []) fr_rf q3 rfl rfl, by omega⟩
  · subst hc
    obtain ⟨z, Z', h', hca, q1, q2, q3, b⟩ := ct_128_1_i1 (d := d + 0) (l := l) (D := D) (b0 := b0) (ad := ad) (Hb := Hb) (tau := tau) hx hG p1 p2
    exact ⟨z, Z', h', hca, q1, q2, fr_tr (M1 := []) fr_rf q3 rfl rfl, by omega⟩
  · subst hc
    obtain ⟨z, Z', h', hca, q1, q2, q3, b⟩ := ct_128_1_i2 (d := d + 0) (l := l) (D := D) (b0 := b0) (ad := ad) (Hb := Hb) (tau := tau) hx hG p1 p2
    exact ⟨z, Z', h', hca, q1, q2, fr_tr (M1 := []) fr_rf q3 rfl rfl, by omega⟩
  · subst hc
    obtain ⟨z, Z', h', hca, q1, q2, q3, b⟩ := ct_128_1_i3 (d := d + 0) (l := l) (D := D) (b0 := b0) (ad := ad) (Hb := Hb) (tau := tau) hx hG p1 p2
    exact ⟨z, Z', h', hca, q1, q2, fr_tr (M1 := []) fr_rf q3 rfl rfl, by omega⟩
  · skip
    obtain ⟨z, hca, b⟩ := ct_128_1_n (d := d + 1) (l := l) (D := D) (b0 := b0) (ad := ad) (Hb := Hb) (tau := tau) hx hG hc p1 p2
    exact ⟨z, Z, h, hca, hx, hG, fr_rf, by omega⟩
  · skip
    obtain ⟨z, hca, b⟩ := ct_128_1_p (d := d + 1) (l := l) (D := D) (b0 := b0) (ad := ad) (Hb := Hb) (tau := tau) hx hG hc p1 p2
    exact ⟨z, Z, h, hca, hx, hG, fr_rf, by omega⟩
set_option maxRecDepth 100000 in
theorem cw_129_1_i0 {l : Launch} {D : va_G} {b0 : Nat} {ad : Nat → Nat} {Hb : Heap} {tau : Nat → Int64} {d n s : Nat} {S : Nat → xS} {Z : xZ} {h : mx_H} {Post : mx_R → Prop} (hx : XH n s S Z h) (hG : GI n S Z)  {x1 x2 : Int} (p1 : (-2147483648) ≤ x1 ∧ x1 ≤ 2147483647) (p2 : (-9223372036854775808) ≤ x2 ∧ x2 ≤ 9223372036854775807) (hP : ∀ (z : Int) (Z' : xZ) (h' : mx_H), XH n s S Z' h' → GI n S Z' → fr' [(45, (-1))] Z Z' → (-9223372036854775808) ≤ z ∧ z ≤ 9223372036854775807 → Post (some (xL z), h')) : mx_J (tB l D b0 ad Hb tau) mt_129 (d + 1) 0 [some (.ref 1), some (xI 0), some (xI x1), some (xL x2), none] [] h Post := by
    have a1 : 1 < n := lt83 (GI_n hG) rfl
    have s1 : S 1 = .inl (11, [2, 0, 0, 0, 2, 2, 2, 2, 2, 2, 2, 2, 2, 2, 2, 2, 2]) := GI_s hG 1 rfl
    have a34 : 34 < n := lt83 (GI_n hG) rfl
    have s34 : S 34 = .inr ((.object "TitheHeap$Tray"), 4, 2) := GI_s hG 34 rfl
    have a44 : 44 < n := lt83 (GI_n hG) rfl
    have s44 : S 44 = .inl (10, [2, 0, 0, 0]) := GI_s hG 44 rfl
    refine mx_J.step (sn_129 0) (fun _ _ => rfl) ?_
    refine mx_J.step (sn_129 1) (fun _ _ => rfl) ?_
    obtain ⟨z1, hc1, b1⟩ := ct_144_1_y (d := d + 0) (l := l) (D := D) (b0 := b0) (ad := ad) (Hb := Hb) (tau := tau) hx hG (show 0 ≤ 0 ∧ 0 ≤ 3 by omega)
    refine Jcv hx (show mx_Sn _ _ 2 (mx_callv 144 2 11 5) from sn_129 2) a1 s1 hc1 rfl rfl rfl ?_
    refine Jif_eq (show mx_Sn _ _ 5 (mx_if_eq 12 8) from sn_129 5) (by omega) (fun q2 => ?_) (fun q2 => ?_)
    · skip
      refine mx_J.step (sn_129 12) (fun _ _ => rfl) ?_
      refine JgetR (g := 10) (b := 34) hx (show mx_Sn _ _ 13 (mx_getf 11 10 16) from sn_129 13) a1 s1 rfl rfl (hG.prr 1 10 rfl) ?_
      refine mx_J.step (sn_129 16) (fun _ _ => rfl) ?_
      refine JaaldR (i := 0) (b := 44) hx (show mx_Sn _ _ 17 (mx_aald 18) from sn_129 17) a34 s34 (by omega) (show Z 34 0 = 44 by have hq := GI_ex hG 34 0; replace hq : ((0 : Int) ≤ 0 → (0 : Int) ≤ 3 → (Z 34 0) = 44 + 2 * 0) := hq; omega) ?_
      have b5 : 0 ≤ Z 44 3 ∧ Z 44 3 ≤ 1 := hG.pr 44 3
      refine JgetI (g := 3) (z := Z 44 3) hx (show mx_Sn _ _ 18 (mx_getf 10 3 21) from sn_129 18) a44 s44 rfl rfl rfl ?_
      refine Jif_eq (show mx_Sn _ _ 21 (mx_if_eq 28 24) from sn_129 21) (by omega) (fun q6 => ?_) (fun q6 => ?_)
      · skip
        refine mx_J.step (sn_129 28) (fun _ _ => rfl) ?_
        have c45 : mx_J (tB l D b0 ad Hb tau) mt_129 (d + 1) 45 [some (.ref 1), some (xI 0), some (xI x1), some (xL x2), none] [] h Post := by
          refine JcL (z := (-7)) (show mx_Sn _ _ 45 (mx_const (.long (-7)) 48) from sn_129 45) rfl ?_
          exact mx_J.ret (sn_129 48) (fun _ _ => rfl) (hP (-7) Z h hx hG fr_rf (by omega))
        refine Jif_lt (show mx_Sn _ _ 29 (mx_if_lt 45 32) from sn_129 29) (by omega) (fun q8 => ?_) (fun q8 => ?_)
        · skip
          exact c45 
        · skip
          refine mx_J.step (sn_129 32) (fun _ _ => rfl) ?_
          refine mx_J.step (sn_129 33) (fun _ _ => rfl) ?_
          refine JgetR (g := 10) (b := 34) hx (show mx_Sn _ _ 34 (mx_getf 11 10 37) from sn_129 34) a1 s1 rfl rfl (hG.prr 1 10 rfl) ?_
          refine mx_J.step (sn_129 37) (fun _ _ => rfl) ?_
          refine JaaldR (i := 0) (b := 44) hx (show mx_Sn _ _ 38 (mx_aald 39) from sn_129 38) a34 s34 (by omega) (show Z 34 0 = 44 by have hq := GI_ex hG 34 0; replace hq : ((0 : Int) ≤ 0 → (0 : Int) ≤ 3 → (Z 34 0) = 44 + 2 * 0) := hq; omega) ?_
          have b11 : 0 ≤ Z 44 2 ∧ Z 44 2 ≤ 40 := hG.pr 44 2
          refine JgetI (g := 2) (z := Z 44 2) hx (show mx_Sn _ _ 39 (mx_getf 10 2 42) from sn_129 39) a44 s44 rfl rfl rfl ?_
          refine Jicmp_lt (show mx_Sn _ _ 42 (mx_icmp_lt 49 45) from sn_129 42) (by omega) (by omega) (fun q12 => ?_) (fun q12 => ?_)
          · skip
            refine mx_J.step (sn_129 49) (fun _ _ => rfl) ?_
            refine JgetR (g := 10) (b := 34) hx (show mx_Sn _ _ 50 (mx_getf 11 10 53) from sn_129 50) a1 s1 rfl rfl (hG.prr 1 10 rfl) ?_
            refine mx_J.step (sn_129 53) (fun _ _ => rfl) ?_
            refine JaaldR (i := 0) (b := 44) hx (show mx_Sn _ _ 54 (mx_aald 55) from sn_129 54) a34 s34 (by omega) (show Z 34 0 = 44 by have hq := GI_ex hG 34 0; replace hq : ((0 : Int) ≤ 0 → (0 : Int) ≤ 3 → (Z 34 0) = 44 + 2 * 0) := hq; omega) ?_
            refine mx_J.step (sn_129 55) (fun _ _ => rfl) ?_
            refine mx_J.step (sn_129 56) (fun _ _ => rfl) ?_
            obtain ⟨Z14, h14, hc14, hx14, hG14, hf14⟩ := ct_84_44 (d := d + 0) (l := l) (D := D) (b0 := b0) (ad := ad) (Hb := Hb) (tau := tau) hx hG (show (-2147483648) ≤ x1 ∧ x1 ≤ 2147483647 by omega) (show (-9223372036854775808) ≤ x2 ∧ x2 ≤ 9223372036854775807 by omega)
            refine Jcv0 hx (show mx_Sn _ _ 57 (mx_callv 84 3 10 60) from sn_129 57) a44 s44 hc14 rfl rfl rfl ?_
            refine mx_J.step (sn_129 60) (fun _ _ => rfl) ?_
            refine JgetR (g := 10) (b := 34) hx14 (show mx_Sn _ _ 61 (mx_getf 11 10 64) from sn_129 61) a1 s1 rfl rfl (hG14.prr 1 10 rfl) ?_
            refine mx_J.step (sn_129 64) (fun _ _ => rfl) ?_
            refine JaaldR (i := 0) (b := 44) hx14 (show mx_Sn _ _ 65 (mx_aald 66) from sn_129 65) a34 s34 (by omega) (show Z14 34 0 = 44 by have hq := GI_ex hG14 34 0; replace hq : ((0 : Int) ≤ 0 → (0 : Int) ≤ 3 → (Z14 34 0) = 44 + 2 * 0) := hq; omega) ?_
            refine mx_J.step (sn_129 66) (fun _ _ => rfl) ?_
            have b17 : (-9223372036854775808) ≤ Z14 45 x1 ∧ Z14 45 x1 ≤ 9223372036854775807 := hG14.pr 45 x1
            obtain ⟨z16, hc16, b16⟩ := ct_85_44 (d := d + 0) (l := l) (D := D) (b0 := b0) (ad := ad) (Hb := Hb) (tau := tau) hx14 hG14 (show (-2147483648) ≤ x1 ∧ x1 ≤ 2147483647 by omega)
            refine Jcv hx14 (show mx_Sn _ _ 67 (mx_callv 85 2 10 70) from sn_129 67) a44 s44 hc16 rfl rfl rfl ?_
            exact mx_J.ret (sn_129 70) (fun _ _ => rfl) (hP z16 Z14 h14 hx14 hG14 (fr_tr (M := [(45, (-1))]) fr_rf (hf14) (M1 := []) rfl rfl) (by omega))
          · skip
            exact c45 
      · skip
        refine JcL (z := (-6)) (show mx_Sn _ _ 24 (mx_const (.long (-6)) 27) from sn_129 24) rfl ?_
        exact mx_J.ret (sn_129 27) (fun _ _ => rfl) (hP (-6) Z h hx hG fr_rf (by omega))
    · skip
      exfalso; omega
theorem ct_129_1_i0 {l : Launch} {D : va_G} {b0 : Nat} {ad : Nat → Nat} {Hb : Heap} {tau : Nat → Int64} {d n s : Nat} {S : Nat → xS} {Z : xZ} {h : mx_H} (hx : XH n s S Z h) (hG : GI n S Z)  {x1 x2 : Int} (p1 : (-2147483648) ≤ x1 ∧ x1 ≤ 2147483647) (p2 : (-9223372036854775808) ≤ x2 ∧ x2 ≤ 9223372036854775807) : ∃ (z : Int) (Z' : xZ) (h' : mx_H), mx_Ca (tB l D b0 ad Hb tau) (d + 2) 129 [.ref 1, xI 0, xI x1, xL x2] h (some (xL z), h') ∧ XH n s S Z' h' ∧ GI n S Z' ∧ fr' [(45, (-1))] Z Z' ∧ ((-9223372036854775808) ≤ z ∧ z ≤ 9223372036854775807) := by
  obtain ⟨r, hca, z, Z', h', e, q⟩ := Jmt (B := tB l D b0 ad Hb tau) (M := mt_129) (mi := 129) (as := [.ref 1, xI 0, xI x1, xL x2]) (d := d + 1) (ls := [some (.ref 1), some (xI 0), some (xI x1), some (xL x2), none]) rfl rfl rfl rfl rfl rfl (cw_129_1_i0 (l := l) (D := D) (b0 := b0) (ad := ad) (Hb := Hb) (tau := tau) (d := d) (Post := fun r => ∃ (z : Int) (Z' : xZ) (h' : mx_H), r = (some (xL z), h') ∧ XH n s S Z' h' ∧ GI n S Z' ∧ fr' [(45, (-1))] Z Z' ∧ ((-9223372036854775808) ≤ z ∧ z ≤ 9223372036854775807)) hx hG p1 p2 (fun z Z' h' q1 q2 q3 q4 => ⟨z, Z', h', rfl, q1, q2, q3, q4⟩))
  subst e; exact ⟨z, Z', h', hca, q⟩
set_option maxRecDepth 100000 in
theorem cw_129_1_i1 {l : Launch} {D : va_G} {b0 : Nat} {ad : Nat → Nat} {Hb : Heap} {tau : Nat → Int64} {d n s : Nat} {S : Nat → xS} {Z : xZ} {h : mx_H} {Post : mx_R → Prop} (hx : XH n s S Z h) (hG : GI n S Z)  {x1 x2 : Int} (p1 : (-2147483648) ≤ x1 ∧ x1 ≤ 2147483647) (p2 : (-9223372036854775808) ≤ x2 ∧ x2 ≤ 9223372036854775807) (hP : ∀ (z : Int) (Z' : xZ) (h' : mx_H), XH n s S Z' h' → GI n S Z' → fr' [(47, (-1))] Z Z' → (-9223372036854775808) ≤ z ∧ z ≤ 9223372036854775807 → Post (some (xL z), h')) : mx_J (tB l D b0 ad Hb tau) mt_129 (d + 1) 0 [some (.ref 1), some (xI 1), some (xI x1), some (xL x2), none] [] h Post := by
    have a1 : 1 < n := lt83 (GI_n hG) rfl
    have s1 : S 1 = .inl (11, [2, 0, 0, 0, 2, 2, 2, 2, 2, 2, 2, 2, 2, 2, 2, 2, 2]) := GI_s hG 1 rfl
    have a34 : 34 < n := lt83 (GI_n hG) rfl
    have s34 : S 34 = .inr ((.object "TitheHeap$Tray"), 4, 2) := GI_s hG 34 rfl
    have a46 : 46 < n := lt83 (GI_n hG) rfl
    have s46 : S 46 = .inl (10, [2, 0, 0, 0]) := GI_s hG 46 rfl
    refine mx_J.step (sn_129 0) (fun _ _ => rfl) ?_
    refine mx_J.step (sn_129 1) (fun _ _ => rfl) ?_
    obtain ⟨z1, hc1, b1⟩ := ct_144_1_y (d := d + 0) (l := l) (D := D) (b0 := b0) (ad := ad) (Hb := Hb) (tau := tau) hx hG (show 0 ≤ 1 ∧ 1 ≤ 3 by omega)
    refine Jcv hx (show mx_Sn _ _ 2 (mx_callv 144 2 11 5) from sn_129 2) a1 s1 hc1 rfl rfl rfl ?_
    refine Jif_eq (show mx_Sn _ _ 5 (mx_if_eq 12 8) from sn_129 5) (by omega) (fun q2 => ?_) (fun q2 => ?_)
    · skip
      refine mx_J.step (sn_129 12) (fun _ _ => rfl) ?_
      refine JgetR (g := 10) (b := 34) hx (show mx_Sn _ _ 13 (mx_getf 11 10 16) from sn_129 13) a1 s1 rfl rfl (hG.prr 1 10 rfl) ?_
      refine mx_J.step (sn_129 16) (fun _ _ => rfl) ?_
      refine JaaldR (i := 1) (b := 46) hx (show mx_Sn _ _ 17 (mx_aald 18) from sn_129 17) a34 s34 (by omega) (show Z 34 1 = 46 by have hq := GI_ex hG 34 1; replace hq : ((0 : Int) ≤ 1 → (1 : Int) ≤ 3 → (Z 34 1) = 44 + 2 * 1) := hq; omega) ?_
      have b5 : 0 ≤ Z 46 3 ∧ Z 46 3 ≤ 1 := hG.pr 46 3
      refine JgetI (g := 3) (z := Z 46 3) hx (show mx_Sn _ _ 18 (mx_getf 10 3 21) from sn_129 18) a46 s46 rfl rfl rfl ?_
      refine Jif_eq (show mx_Sn _ _ 21 (mx_if_eq 28 24) from sn_129 21) (by omega) (fun q6 => ?_) (fun q6 => ?_)
      · skip
        refine mx_J.step (sn_129 28) (fun _ _ => rfl) ?_
        have c45 : mx_J (tB l D b0 ad Hb tau) mt_129 (d + 1) 45 [some (.ref 1), some (xI 1), some (xI x1), some (xL x2), none] [] h Post := by
          refine JcL (z := (-7)) (show mx_Sn _ _ 45 (mx_const (.long (-7)) 48) from sn_129 45) rfl ?_
          exact mx_J.ret (sn_129 48) (fun _ _ => rfl) (hP (-7) Z h hx hG fr_rf (by omega))
        refine Jif_lt (show mx_Sn _ _ 29 (mx_if_lt 45 32) from sn_129 29) (by omega) (fun q8 => ?_) (fun q8 => ?_)
        · skip
          exact c45 
        · skip
          refine mx_J.step (sn_129 32) (fun _ _ => rfl) ?_
          refine mx_J.step (sn_129 33) (fun _ _ => rfl) ?_
          refine JgetR (g := 10) (b := 34) hx (show mx_Sn _ _ 34 (mx_getf 11 10 37) from sn_129 34) a1 s1 rfl rfl (hG.prr 1 10 rfl) ?_
          refine mx_J.step (sn_129 37) (fun _ _ => rfl) ?_
          refine JaaldR (i := 1) (b := 46) hx (show mx_Sn _ _ 38 (mx_aald 39) from sn_129 38) a34 s34 (by omega) (show Z 34 1 = 46 by have hq := GI_ex hG 34 1; replace hq : ((0 : Int) ≤ 1 → (1 : Int) ≤ 3 → (Z 34 1) = 44 + 2 * 1) := hq; omega) ?_
          have b11 : 0 ≤ Z 46 2 ∧ Z 46 2 ≤ 40 := hG.pr 46 2
          refine JgetI (g := 2) (z := Z 46 2) hx (show mx_Sn _ _ 39 (mx_getf 10 2 42) from sn_129 39) a46 s46 rfl rfl rfl ?_
          refine Jicmp_lt (show mx_Sn _ _ 42 (mx_icmp_lt 49 45) from sn_129 42) (by omega) (by omega) (fun q12 => ?_) (fun q12 => ?_)
          · skip
            refine mx_J.step (sn_129 49) (fun _ _ => rfl) ?_
            refine JgetR (g := 10) (b := 34) hx (show mx_Sn _ _ 50 (mx_getf 11 10 53) from sn_129 50) a1 s1 rfl rfl (hG.prr 1 10 rfl) ?_
            refine mx_J.step (sn_129 53) (fun _ _ => rfl) ?_
            refine JaaldR (i := 1) (b := 46) hx (show mx_Sn _ _ 54 (mx_aald 55) from sn_129 54) a34 s34 (by omega) (show Z 34 1 = 46 by have hq := GI_ex hG 34 1; replace hq : ((0 : Int) ≤ 1 → (1 : Int) ≤ 3 → (Z 34 1) = 44 + 2 * 1) := hq; omega) ?_
            refine mx_J.step (sn_129 55) (fun _ _ => rfl) ?_
            refine mx_J.step (sn_129 56) (fun _ _ => rfl) ?_
            obtain ⟨Z14, h14, hc14, hx14, hG14, hf14⟩ := ct_84_46 (d := d + 0) (l := l) (D := D) (b0 := b0) (ad := ad) (Hb := Hb) (tau := tau) hx hG (show (-2147483648) ≤ x1 ∧ x1 ≤ 2147483647 by omega) (show (-9223372036854775808) ≤ x2 ∧ x2 ≤ 9223372036854775807 by omega)
            refine Jcv0 hx (show mx_Sn _ _ 57 (mx_callv 84 3 10 60) from sn_129 57) a46 s46 hc14 rfl rfl rfl ?_
            refine mx_J.step (sn_129 60) (fun _ _ => rfl) ?_
            refine JgetR (g := 10) (b := 34) hx14 (show mx_Sn _ _ 61 (mx_getf 11 10 64) from sn_129 61) a1 s1 rfl rfl (hG14.prr 1 10 rfl) ?_
            refine mx_J.step (sn_129 64) (fun _ _ => rfl) ?_
            refine JaaldR (i := 1) (b := 46) hx14 (show mx_Sn _ _ 65 (mx_aald 66) from sn_129 65) a34 s34 (by omega) (show Z14 34 1 = 46 by have hq := GI_ex hG14 34 1; replace hq : ((0 : Int) ≤ 1 → (1 : Int) ≤ 3 → (Z14 34 1) = 44 + 2 * 1) := hq; omega) ?_
            refine mx_J.step (sn_129 66) (fun _ _ => rfl) ?_
            have b17 : (-9223372036854775808) ≤ Z14 47 x1 ∧ Z14 47 x1 ≤ 9223372036854775807 := hG14.pr 47 x1
            obtain ⟨z16, hc16, b16⟩ := ct_85_46 (d := d + 0) (l := l) (D := D) (b0 := b0) (ad := ad) (Hb := Hb) (tau := tau) hx14 hG14 (show (-2147483648) ≤ x1 ∧ x1 ≤ 2147483647 by omega)
            refine Jcv hx14 (show mx_Sn _ _ 67 (mx_callv 85 2 10 70) from sn_129 67) a46 s46 hc16 rfl rfl rfl ?_
            exact mx_J.ret (sn_129 70) (fun _ _ => rfl) (hP z16 Z14 h14 hx14 hG14 (fr_tr (M := [(47, (-1))]) fr_rf (hf14) (M1 := []) rfl rfl) (by omega))
          · skip
            exact c45 
      · skip
        refine JcL (z := (-6)) (show mx_Sn _ _ 24 (mx_const (.long (-6)) 27) from sn_129 24) rfl ?_
        exact mx_J.ret (sn_129 27) (fun _ _ => rfl) (hP (-6) Z h hx hG fr_rf (by omega))
    · skip
      exfalso; omega
theorem ct_129_1_i1 {l : Launch} {D : va_G} {b0 : Nat} {ad : Nat → Nat} {Hb : Heap} {tau : Nat → Int64} {d n s : Nat} {S : Nat → xS} {Z : xZ} {h : mx_H} (hx : XH n s S Z h) (hG : GI n S Z)  {x1 x2 : Int} (p1 : (-2147483648) ≤ x1 ∧ x1 ≤ 2147483647) (p2 : (-9223372036854775808) ≤ x2 ∧ x2 ≤ 9223372036854775807) : ∃ (z : Int) (Z' : xZ) (h' : mx_H), mx_Ca (tB l D b0 ad Hb tau) (d + 2) 129 [.ref 1, xI 1, xI x1, xL x2] h (some (xL z), h') ∧ XH n s S Z' h' ∧ GI n S Z' ∧ fr' [(47, (-1))] Z Z' ∧ ((-9223372036854775808) ≤ z ∧ z ≤ 9223372036854775807) := by
  obtain ⟨r, hca, z, Z', h', e, q⟩ := Jmt (B := tB l D b0 ad Hb tau) (M := mt_129) (mi := 129) (as := [.ref 1, xI 1, xI x1, xL x2]) (d := d + 1) (ls := [some (.ref 1), some (xI 1), some (xI x1), some (xL x2), none]) rfl rfl rfl rfl rfl rfl (cw_129_1_i1 (l := l) (D := D) (b0 := b0) (ad := ad) (Hb := Hb) (tau := tau) (d := d) (Post := fun r => ∃ (z : Int) (Z' : xZ) (h' : mx_H), r = (some (xL z), h') ∧ XH n s S Z' h' ∧ GI n S Z' ∧ fr' [(47, (-1))] Z Z' ∧ ((-9223372036854775808) ≤ z ∧ z ≤ 9223372036854775807)) hx hG p1 p2 (fun z Z' h' q1 q2 q3 q4 => ⟨z, Z', h', rfl, q1, q2, q3, q4⟩))
  subst e; exact ⟨z, Z', h', hca, q⟩
set_option maxRecDepth 100000 in
theorem cw_129_1_i2 {l : Launch} {D : va_G} {b0 : Nat} {ad : Nat → Nat} {Hb : Heap} {tau : Nat → Int64} {d n s : Nat} {S : Nat → xS} {Z : xZ} {h : mx_H} {Post : mx_R → Prop} (hx : XH n s S Z h) (hG : GI n S Z)  {x1 x2 : Int} (p1 : (-2147483648) ≤ x1 ∧ x1 ≤ 2147483647) (p2 : (-9223372036854775808) ≤ x2 ∧ x2 ≤ 9223372036854775807) (hP : ∀ (z : Int) (Z' : xZ) (h' : mx_H), XH n s S Z' h' → GI n S Z' → fr' [(49, (-1))] Z Z' → (-9223372036854775808) ≤ z ∧ z ≤ 9223372036854775807 → Post (some (xL z), h')) : mx_J (tB l D b0 ad Hb tau) mt_129 (d + 1) 0 [some (.ref 1), some (xI 2), some (xI x1), some (xL x2), none] [] h Post := by
    have a1 : 1 < n := lt83 (GI_n hG) rfl
    have s1 : S 1 = .inl (11, [2, 0, 0, 0, 2, 2, 2, 2, 2, 2, 2, 2, 2, 2, 2, 2, 2]) := GI_s hG 1 rfl
    have a34 : 34 < n := lt83 (GI_n hG) rfl
    have s34 : S 34 = .inr ((.object "TitheHeap$Tray"), 4, 2) := GI_s hG 34 rfl
    have a48 : 48 < n := lt83 (GI_n hG) rfl
    have s48 : S 48 = .inl (10, [2, 0, 0, 0]) := GI_s hG 48 rfl
    refine mx_J.step (sn_129 0) (fun _ _ => rfl) ?_
    refine mx_J.step (sn_129 1) (fun _ _ => rfl) ?_
    obtain ⟨z1, hc1, b1⟩ := ct_144_1_y (d := d + 0) (l := l) (D := D) (b0 := b0) (ad := ad) (Hb := Hb) (tau := tau) hx hG (show 0 ≤ 2 ∧ 2 ≤ 3 by omega)
    refine Jcv hx (show mx_Sn _ _ 2 (mx_callv 144 2 11 5) from sn_129 2) a1 s1 hc1 rfl rfl rfl ?_
    refine Jif_eq (show mx_Sn _ _ 5 (mx_if_eq 12 8) from sn_129 5) (by omega) (fun q2 => ?_) (fun q2 => ?_)
    · skip
      refine mx_J.step (sn_129 12) (fun _ _ => rfl) ?_
      refine JgetR (g := 10) (b := 34) hx (show mx_Sn _ _ 13 (mx_getf 11 10 16) from sn_129 13) a1 s1 rfl rfl (hG.prr 1 10 rfl) ?_
      refine mx_J.step (sn_129 16) (fun _ _ => rfl) ?_
      refine JaaldR (i := 2) (b := 48) hx (show mx_Sn _ _ 17 (mx_aald 18) from sn_129 17) a34 s34 (by omega) (show Z 34 2 = 48 by have hq := GI_ex hG 34 2; replace hq : ((0 : Int) ≤ 2 → (2 : Int) ≤ 3 → (Z 34 2) = 44 + 2 * 2) := hq; omega) ?_
      have b5 : 0 ≤ Z 48 3 ∧ Z 48 3 ≤ 1 := hG.pr 48 3
      refine JgetI (g := 3) (z := Z 48 3) hx (show mx_Sn _ _ 18 (mx_getf 10 3 21) from sn_129 18) a48 s48 rfl rfl rfl ?_
      refine Jif_eq (show mx_Sn _ _ 21 (mx_if_eq 28 24) from sn_129 21) (by omega) (fun q6 => ?_) (fun q6 => ?_)
      · skip
        refine mx_J.step (sn_129 28) (fun _ _ => rfl) ?_
        have c45 : mx_J (tB l D b0 ad Hb tau) mt_129 (d + 1) 45 [some (.ref 1), some (xI 2), some (xI x1), some (xL x2), none] [] h Post := by
          refine JcL (z := (-7)) (show mx_Sn _ _ 45 (mx_const (.long (-7)) 48) from sn_129 45) rfl ?_
          exact mx_J.ret (sn_129 48) (fun _ _ => rfl) (hP (-7) Z h hx hG fr_rf (by omega))
        refine Jif_lt (show mx_Sn _ _ 29 (mx_if_lt 45 32) from sn_129 29) (by omega) (fun q8 => ?_) (fun q8 => ?_)
        · skip
          exact c45 
        · skip
          refine mx_J.step (sn_129 32) (fun _ _ => rfl) ?_
          refine mx_J.step (sn_129 33) (fun _ _ => rfl) ?_
          refine JgetR (g := 10) (b := 34) hx (show mx_Sn _ _ 34 (mx_getf 11 10 37) from sn_129 34) a1 s1 rfl rfl (hG.prr 1 10 rfl) ?_
          refine mx_J.step (sn_129 37) (fun _ _ => rfl) ?_
          refine JaaldR (i := 2) (b := 48) hx (show mx_Sn _ _ 38 (mx_aald 39) from sn_129 38) a34 s34 (by omega) (show Z 34 2 = 48 by have hq := GI_ex hG 34 2; replace hq : ((0 : Int) ≤ 2 → (2 : Int) ≤ 3 → (Z 34 2) = 44 + 2 * 2) := hq; omega) ?_
          have b11 : 0 ≤ Z 48 2 ∧ Z 48 2 ≤ 40 := hG.pr 48 2
          refine JgetI (g := 2) (z := Z 48 2) hx (show mx_Sn _ _ 39 (mx_getf 10 2 42) from sn_129 39) a48 s48 rfl rfl rfl ?_
          refine Jicmp_lt (show mx_Sn _ _ 42 (mx_icmp_lt 49 45) from sn_129 42) (by omega) (by omega) (fun q12 => ?_) (fun q12 => ?_)
          · skip
            refine mx_J.step (sn_129 49) (fun _ _ => rfl) ?_
            refine JgetR (g := 10) (b := 34) hx (show mx_Sn _ _ 50 (mx_getf 11 10 53) from sn_129 50) a1 s1 rfl rfl (hG.prr 1 10 rfl) ?_
            refine mx_J.step (sn_129 53) (fun _ _ => rfl) ?_
            refine JaaldR (i := 2) (b := 48) hx (show mx_Sn _ _ 54 (mx_aald 55) from sn_129 54) a34 s34 (by omega) (show Z 34 2 = 48 by have hq := GI_ex hG 34 2; replace hq : ((0 : Int) ≤ 2 → (2 : Int) ≤ 3 → (Z 34 2) = 44 + 2 * 2) := hq; omega) ?_
            refine mx_J.step (sn_129 55) (fun _ _ => rfl) ?_
            refine mx_J.step (sn_129 56) (fun _ _ => rfl) ?_
            obtain ⟨Z14, h14, hc14, hx14, hG14, hf14⟩ := ct_84_48 (d := d + 0) (l := l) (D := D) (b0 := b0) (ad := ad) (Hb := Hb) (tau := tau) hx hG (show (-2147483648) ≤ x1 ∧ x1 ≤ 2147483647 by omega) (show (-9223372036854775808) ≤ x2 ∧ x2 ≤ 9223372036854775807 by omega)
            refine Jcv0 hx (show mx_Sn _ _ 57 (mx_callv 84 3 10 60) from sn_129 57) a48 s48 hc14 rfl rfl rfl ?_
            refine mx_J.step (sn_129 60) (fun _ _ => rfl) ?_
            refine JgetR (g := 10) (b := 34) hx14 (show mx_Sn _ _ 61 (mx_getf 11 10 64) from sn_129 61) a1 s1 rfl rfl (hG14.prr 1 10 rfl) ?_
            refine mx_J.step (sn_129 64) (fun _ _ => rfl) ?_
            refine JaaldR (i := 2) (b := 48) hx14 (show mx_Sn _ _ 65 (mx_aald 66) from sn_129 65) a34 s34 (by omega) (show Z14 34 2 = 48 by have hq := GI_ex hG14 34 2; replace hq : ((0 : Int) ≤ 2 → (2 : Int) ≤ 3 → (Z14 34 2) = 44 + 2 * 2) := hq; omega) ?_
            refine mx_J.step (sn_129 66) (fun _ _ => rfl) ?_
            have b17 : (-9223372036854775808) ≤ Z14 49 x1 ∧ Z14 49 x1 ≤ 9223372036854775807 := hG14.pr 49 x1
            obtain ⟨z16, hc16, b16⟩ := ct_85_48 (d := d + 0) (l := l) (D := D) (b0 := b0) (ad := ad) (Hb := Hb) (tau := tau) hx14 hG14 (show (-2147483648) ≤ x1 ∧ x1 ≤ 2147483647 by omega)
            refine Jcv hx14 (show mx_Sn _ _ 67 (mx_callv 85 2 10 70) from sn_129 67) a48 s48 hc16 rfl rfl rfl ?_
            exact mx_J.ret (sn_129 70) (fun _ _ => rfl) (hP z16 Z14 h14 hx14 hG14 (fr_tr (M := [(49, (-1))]) fr_rf (hf14) (M1 := []) rfl rfl) (by omega))
          · skip
            exact c45 
      · skip
        refine JcL (z := (-6)) (show mx_Sn _ _ 24 (mx_const (.long (-6)) 27) from sn_129 24) rfl ?_
        exact mx_J.ret (sn_129 27) (fun _ _ => rfl) (hP (-6) Z h hx hG fr_rf (by omega))
    · skip
      exfalso; omega
theorem ct_129_1_i2 {l : Launch} {D : va_G} {b0 : Nat} {ad : Nat → Nat} {Hb : Heap} {tau : Nat → Int64} {d n s : Nat} {S : Nat → xS} {Z : xZ} {h : mx_H} (hx : XH n s S Z h) (hG : GI n S Z)  {x1 x2 : Int} (p1 : (-2147483648) ≤ x1 ∧ x1 ≤ 2147483647) (p2 : (-9223372036854775808) ≤ x2 ∧ x2 ≤ 9223372036854775807) : ∃ (z : Int) (Z' : xZ) (h' : mx_H), mx_Ca (tB l D b0 ad Hb tau) (d + 2) 129 [.ref 1, xI 2, xI x1, xL x2] h (some (xL z), h') ∧ XH n s S Z' h' ∧ GI n S Z' ∧ fr' [(49, (-1))] Z Z' ∧ ((-9223372036854775808) ≤ z ∧ z ≤ 9223372036854775807) := by
  obtain ⟨r, hca, z, Z', h', e, q⟩ := Jmt (B := tB l D b0 ad Hb tau) (M := mt_129) (mi := 129) (as := [.ref 1, xI 2, xI x1, xL x2]) (d := d + 1) (ls := [some (.ref 1), some (xI 2), some (xI x1), some (xL x2), none]) rfl rfl rfl rfl rfl rfl (cw_129_1_i2 (l := l) (D := D) (b0 := b0) (ad := ad) (Hb := Hb) (tau := tau) (d := d) (Post := fun r => ∃ (z : Int) (Z' : xZ) (h' : mx_H), r = (some (xL z), h') ∧ XH n s S Z' h' ∧ GI n S Z' ∧ fr' [(49, (-1))] Z Z' ∧ ((-9223372036854775808) ≤ z ∧ z ≤ 9223372036854775807)) hx hG p1 p2 (fun z Z' h' q1 q2 q3 q4 => ⟨z, Z', h', rfl, q1, q2, q3, q4⟩))
  subst e; exact ⟨z, Z', h', hca, q⟩
set_option maxRecDepth 100000 in
theorem cw_129_1_i3 {l : Launch} {D : va_G} {b0 : Nat} {ad : Nat → Nat} {Hb : Heap} {tau : Nat → Int64} {d n s : Nat} {S : Nat → xS} {Z : xZ} {h : mx_H} {Post : mx_R → Prop} (hx : XH n s S Z h) (hG : GI n S Z)  {x1 x2 : Int} (p1 : (-2147483648) ≤ x1 ∧ x1 ≤ 2147483647) (p2 : (-9223372036854775808) ≤ x2 ∧ x2 ≤ 9223372036854775807) (hP : ∀ (z : Int) (Z' : xZ) (h' : mx_H), XH n s S Z' h' → GI n S Z' → fr' [(51, (-1))] Z Z' → (-9223372036854775808) ≤ z ∧ z ≤ 9223372036854775807 → Post (some (xL z), h')) : mx_J (tB l D b0 ad Hb tau) mt_129 (d + 1) 0 [some (.ref 1), some (xI 3), some (xI x1), some (xL x2), none] [] h Post := by
    have a1 : 1 < n := lt83 (GI_n hG) rfl
    have s1 : S 1 = .inl (11, [2, 0, 0, 0, 2, 2, 2, 2, 2, 2, 2, 2, 2, 2, 2, 2, 2]) := GI_s hG 1 rfl
    have a34 : 34 < n := lt83 (GI_n hG) rfl
    have s34 : S 34 = .inr ((.object "TitheHeap$Tray"), 4, 2) := GI_s hG 34 rfl
    have a50 : 50 < n := lt83 (GI_n hG) rfl
    have s50 : S 50 = .inl (10, [2, 0, 0, 0]) := GI_s hG 50 rfl
    refine mx_J.step (sn_129 0) (fun _ _ => rfl) ?_
    refine mx_J.step (sn_129 1) (fun _ _ => rfl) ?_
    obtain ⟨z1, hc1, b1⟩ := ct_144_1_y (d := d + 0) (l := l) (D := D) (b0 := b0) (ad := ad) (Hb := Hb) (tau := tau) hx hG (show 0 ≤ 3 ∧ 3 ≤ 3 by omega)
    refine Jcv hx (show mx_Sn _ _ 2 (mx_callv 144 2 11 5) from sn_129 2) a1 s1 hc1 rfl rfl rfl ?_
    refine Jif_eq (show mx_Sn _ _ 5 (mx_if_eq 12 8) from sn_129 5) (by omega) (fun q2 => ?_) (fun q2 => ?_)
    · skip
      refine mx_J.step (sn_129 12) (fun _ _ => rfl) ?_
      refine JgetR (g := 10) (b := 34) hx (show mx_Sn _ _ 13 (mx_getf 11 10 16) from sn_129 13) a1 s1 rfl rfl (hG.prr 1 10 rfl) ?_
      refine mx_J.step (sn_129 16) (fun _ _ => rfl) ?_
      refine JaaldR (i := 3) (b := 50) hx (show mx_Sn _ _ 17 (mx_aald 18) from sn_129 17) a34 s34 (by omega) (show Z 34 3 = 50 by have hq := GI_ex hG 34 3; replace hq : ((0 : Int) ≤ 3 → (3 : Int) ≤ 3 → (Z 34 3) = 44 + 2 * 3) := hq; omega) ?_
      have b5 : 0 ≤ Z 50 3 ∧ Z 50 3 ≤ 1 := hG.pr 50 3
      refine JgetI (g := 3) (z := Z 50 3) hx (show mx_Sn _ _ 18 (mx_getf 10 3 21) from sn_129 18) a50 s50 rfl rfl rfl ?_
      refine Jif_eq (show mx_Sn _ _ 21 (mx_if_eq 28 24) from sn_129 21) (by omega) (fun q6 => ?_) (fun q6 => ?_)
      · skip
        refine mx_J.step (sn_129 28) (fun _ _ => rfl) ?_
        have c45 : mx_J (tB l D b0 ad Hb tau) mt_129 (d + 1) 45 [some (.ref 1), some (xI 3), some (xI x1), some (xL x2), none] [] h Post := by
          refine JcL (z := (-7)) (show mx_Sn _ _ 45 (mx_const (.long (-7)) 48) from sn_129 45) rfl ?_
          exact mx_J.ret (sn_129 48) (fun _ _ => rfl) (hP (-7) Z h hx hG fr_rf (by omega))
        refine Jif_lt (show mx_Sn _ _ 29 (mx_if_lt 45 32) from sn_129 29) (by omega) (fun q8 => ?_) (fun q8 => ?_)
        · skip
          exact c45 
        · skip
          refine mx_J.step (sn_129 32) (fun _ _ => rfl) ?_
          refine mx_J.step (sn_129 33) (fun _ _ => rfl) ?_
          refine JgetR (g := 10) (b := 34) hx (show mx_Sn _ _ 34 (mx_getf 11 10 37) from sn_129 34) a1 s1 rfl rfl (hG.prr 1 10 rfl) ?_
          refine mx_J.step (sn_129 37) (fun _ _ => rfl) ?_
          refine JaaldR (i := 3) (b := 50) hx (show mx_Sn _ _ 38 (mx_aald 39) from sn_129 38) a34 s34 (by omega) (show Z 34 3 = 50 by have hq := GI_ex hG 34 3; replace hq : ((0 : Int) ≤ 3 → (3 : Int) ≤ 3 → (Z 34 3) = 44 + 2 * 3) := hq; omega) ?_
          have b11 : 0 ≤ Z 50 2 ∧ Z 50 2 ≤ 40 := hG.pr 50 2
          refine JgetI (g := 2) (z := Z 50 2) hx (show mx_Sn _ _ 39 (mx_getf 10 2 42) from sn_129 39) a50 s50 rfl rfl rfl ?_
          refine Jicmp_lt (show mx_Sn _ _ 42 (mx_icmp_lt 49 45) from sn_129 42) (by omega) (by omega) (fun q12 => ?_) (fun q12 => ?_)
          · skip
            refine mx_J.step (sn_129 49) (fun _ _ => rfl) ?_
            refine JgetR (g := 10) (b := 34) hx (show mx_Sn _ _ 50 (mx_getf 11 10 53) from sn_129 50) a1 s1 rfl rfl (hG.prr 1 10 rfl) ?_
            refine mx_J.step (sn_129 53) (fun _ _ => rfl) ?_
            refine JaaldR (i := 3) (b := 50) hx (show mx_Sn _ _ 54 (mx_aald 55) from sn_129 54) a34 s34 (by omega) (show Z 34 3 = 50 by have hq := GI_ex hG 34 3; replace hq : ((0 : Int) ≤ 3 → (3 : Int) ≤ 3 → (Z 34 3) = 44 + 2 * 3) := hq; omega) ?_
            refine mx_J.step (sn_129 55) (fun _ _ => rfl) ?_
            refine mx_J.step (sn_129 56) (fun _ _ => rfl) ?_
            obtain ⟨Z14, h14, hc14, hx14, hG14, hf14⟩ := ct_84_50 (d := d + 0) (l := l) (D := D) (b0 := b0) (ad := ad) (Hb := Hb) (tau := tau) hx hG (show (-2147483648) ≤ x1 ∧ x1 ≤ 2147483647 by omega) (show (-9223372036854775808) ≤ x2 ∧ x2 ≤ 9223372036854775807 by omega)
            refine Jcv0 hx (show mx_Sn _ _ 57 (mx_callv 84 3 10 60) from sn_129 57) a50 s50 hc14 rfl rfl rfl ?_
            refine mx_J.step (sn_129 60) (fun _ _ => rfl) ?_
            refine JgetR (g := 10) (b := 34) hx14 (show mx_Sn _ _ 61 (mx_getf 11 10 64) from sn_129 61) a1 s1 rfl rfl (hG14.prr 1 10 rfl) ?_
            refine mx_J.step (sn_129 64) (fun _ _ => rfl) ?_
            refine JaaldR (i := 3) (b := 50) hx14 (show mx_Sn _ _ 65 (mx_aald 66) from sn_129 65) a34 s34 (by omega) (show Z14 34 3 = 50 by have hq := GI_ex hG14 34 3; replace hq : ((0 : Int) ≤ 3 → (3 : Int) ≤ 3 → (Z14 34 3) = 44 + 2 * 3) := hq; omega) ?_
            refine mx_J.step (sn_129 66) (fun _ _ => rfl) ?_
            have b17 : (-9223372036854775808) ≤ Z14 51 x1 ∧ Z14 51 x1 ≤ 9223372036854775807 := hG14.pr 51 x1
            obtain ⟨z16, hc16, b16⟩ := ct_85_50 (d := d + 0) (l := l) (D := D) (b0 := b0) (ad := ad) (Hb := Hb) (tau := tau) hx14 hG14 (show (-2147483648) ≤ x1 ∧ x1 ≤ 2147483647 by omega)
            refine Jcv hx14 (show mx_Sn _ _ 67 (mx_callv 85 2 10 70) from sn_129 67) a50 s50 hc16 rfl rfl rfl ?_
            exact mx_J.ret (sn_129 70) (fun _ _ => rfl) (hP z16 Z14 h14 hx14 hG14 (fr_tr (M := [(51, (-1))]) fr_rf (hf14) (M1 := []) rfl rfl) (by omega))
          · skip
            exact c45 
      · skip
        refine JcL (z := (-6)) (show mx_Sn _ _ 24 (mx_const (.long (-6)) 27) from sn_129 24) rfl ?_
        exact mx_J.ret (sn_129 27) (fun _ _ => rfl) (hP (-6) Z h hx hG fr_rf (by omega))
    · skip
      exfalso; omega
theorem ct_129_1_i3 {l : Launch} {D : va_G} {b0 : Nat} {ad : Nat → Nat} {Hb : Heap} {tau : Nat → Int64} {d n s : Nat} {S : Nat → xS} {Z : xZ} {h : mx_H} (hx : XH n s S Z h) (hG : GI n S Z)  {x1 x2 : Int} (p1 : (-2147483648) ≤ x1 ∧ x1 ≤ 2147483647) (p2 : (-9223372036854775808) ≤ x2 ∧ x2 ≤ 9223372036854775807) : ∃ (z : Int) (Z' : xZ) (h' : mx_H), mx_Ca (tB l D b0 ad Hb tau) (d + 2) 129 [.ref 1, xI 3, xI x1, xL x2] h (some (xL z), h') ∧ XH n s S Z' h' ∧ GI n S Z' ∧ fr' [(51, (-1))] Z Z' ∧ ((-9223372036854775808) ≤ z ∧ z ≤ 9223372036854775807) := by
  obtain ⟨r, hca, z, Z', h', e, q⟩ := Jmt (B := tB l D b0 ad Hb tau) (M := mt_129) (mi := 129) (as := [.ref 1, xI 3, xI x1, xL x2]) (d := d + 1) (ls := [some (.ref 1), some (xI 3), some (xI x1), some (xL x2), none]) rfl rfl rfl rfl rfl rfl (cw_129_1_i3 (l := l) (D := D) (b0 := b0) (ad := ad) (Hb := Hb) (tau := tau) (d := d) (Post := fun r => ∃ (z : Int) (Z' : xZ) (h' : mx_H), r = (some (xL z), h') ∧ XH n s S Z' h' ∧ GI n S Z' ∧ fr' [(51, (-1))] Z Z' ∧ ((-9223372036854775808) ≤ z ∧ z ≤ 9223372036854775807)) hx hG p1 p2 (fun z Z' h' q1 q2 q3 q4 => ⟨z, Z', h', rfl, q1, q2, q3, q4⟩))
  subst e; exact ⟨z, Z', h', hca, q⟩
set_option maxRecDepth 100000 in
theorem cw_129_1_n {l : Launch} {D : va_G} {b0 : Nat} {ad : Nat → Nat} {Hb : Heap} {tau : Nat → Int64} {d n s : Nat} {S : Nat → xS} {Z : xZ} {h : mx_H} {Post : mx_R → Prop} (hx : XH n s S Z h) (hG : GI n S Z)  {x0 x1 x2 : Int} (p0 : (-2147483648) ≤ x0 ∧ x0 ≤ (-1)) (p1 : (-2147483648) ≤ x1 ∧ x1 ≤ 2147483647) (p2 : (-9223372036854775808) ≤ x2 ∧ x2 ≤ 9223372036854775807) (hP : ∀ z : Int, (-2) ≤ z ∧ z ≤ (-2) → Post (some (xL z), h)) : mx_J (tB l D b0 ad Hb tau) mt_129 (d + 1) 0 [some (.ref 1), some (xI x0), some (xI x1), some (xL x2), none] [] h Post := by
    have a1 : 1 < n := lt83 (GI_n hG) rfl
    have s1 : S 1 = .inl (11, [2, 0, 0, 0, 2, 2, 2, 2, 2, 2, 2, 2, 2, 2, 2, 2, 2]) := GI_s hG 1 rfl
    refine mx_J.step (sn_129 0) (fun _ _ => rfl) ?_
    refine mx_J.step (sn_129 1) (fun _ _ => rfl) ?_
    obtain ⟨z1, hc1, b1⟩ := ct_144_1_n (d := d + 0) (l := l) (D := D) (b0 := b0) (ad := ad) (Hb := Hb) (tau := tau) hx hG (show (-2147483648) ≤ x0 ∧ x0 ≤ (-1) by omega)
    refine Jcv hx (show mx_Sn _ _ 2 (mx_callv 144 2 11 5) from sn_129 2) a1 s1 hc1 rfl rfl rfl ?_
    refine Jif_eq (show mx_Sn _ _ 5 (mx_if_eq 12 8) from sn_129 5) (by omega) (fun q2 => ?_) (fun q2 => ?_)
    · skip
      exfalso; omega
    · skip
      refine JcL (z := (-2)) (show mx_Sn _ _ 8 (mx_const (.long (-2)) 11) from sn_129 8) rfl ?_
      exact mx_J.ret (sn_129 11) (fun _ _ => rfl) (hP (-2) (by omega))
theorem ct_129_1_n {l : Launch} {D : va_G} {b0 : Nat} {ad : Nat → Nat} {Hb : Heap} {tau : Nat → Int64} {d n s : Nat} {S : Nat → xS} {Z : xZ} {h : mx_H} (hx : XH n s S Z h) (hG : GI n S Z)  {x0 x1 x2 : Int} (p0 : (-2147483648) ≤ x0 ∧ x0 ≤ (-1)) (p1 : (-2147483648) ≤ x1 ∧ x1 ≤ 2147483647) (p2 : (-9223372036854775808) ≤ x2 ∧ x2 ≤ 9223372036854775807) : ∃ z : Int, mx_Ca (tB l D b0 ad Hb tau) (d + 2) 129 [.ref 1, xI x0, xI x1, xL x2] h (some (xL z), h) ∧ ((-2) ≤ z ∧ z ≤ (-2)) := by
  obtain ⟨r, hca, z, e, hp⟩ := Jmt (B := tB l D b0 ad Hb tau) (M := mt_129) (mi := 129) (as := [.ref 1, xI x0, xI x1, xL x2]) (d := d + 1) (ls := [some (.ref 1), some (xI x0), some (xI x1), some (xL x2), none]) rfl rfl rfl rfl rfl rfl (cw_129_1_n (l := l) (D := D) (b0 := b0) (ad := ad) (Hb := Hb) (tau := tau) (d := d) (Post := fun r => ∃ z : Int, r = (some (xL z), h) ∧ ((-2) ≤ z ∧ z ≤ (-2))) hx hG p0 p1 p2 (fun z hz => ⟨z, rfl, hz⟩))
  subst e; exact ⟨z, hca, hp⟩
set_option maxRecDepth 100000 in
theorem cw_129_1_p {l : Launch} {D : va_G} {b0 : Nat} {ad : Nat → Nat} {Hb : Heap} {tau : Nat → Int64} {d n s : Nat} {S : Nat → xS} {Z : xZ} {h : mx_H} {Post : mx_R → Prop} (hx : XH n s S Z h) (hG : GI n S Z)  {x0 x1 x2 : Int} (p0 : 4 ≤ x0 ∧ x0 ≤ 2147483647) (p1 : (-2147483648) ≤ x1 ∧ x1 ≤ 2147483647) (p2 : (-9223372036854775808) ≤ x2 ∧ x2 ≤ 9223372036854775807) (hP : ∀ z : Int, (-2) ≤ z ∧ z ≤ (-2) → Post (some (xL z), h)) : mx_J (tB l D b0 ad Hb tau) mt_129 (d + 1) 0 [some (.ref 1), some (xI x0), some (xI x1), some (xL x2), none] [] h Post := by
    have a1 : 1 < n := lt83 (GI_n hG) rfl
    have s1 : S 1 = .inl (11, [2, 0, 0, 0, 2, 2, 2, 2, 2, 2, 2, 2, 2, 2, 2, 2, 2]) := GI_s hG 1 rfl
    refine mx_J.step (sn_129 0) (fun _ _ => rfl) ?_
    refine mx_J.step (sn_129 1) (fun _ _ => rfl) ?_
    obtain ⟨z1, hc1, b1⟩ := ct_144_1_p (d := d + 0) (l := l) (D := D) (b0 := b0) (ad := ad) (Hb := Hb) (tau := tau) hx hG (show 4 ≤ x0 ∧ x0 ≤ 2147483647 by omega)
    refine Jcv hx (show mx_Sn _ _ 2 (mx_callv 144 2 11 5) from sn_129 2) a1 s1 hc1 rfl rfl rfl ?_
    refine Jif_eq (show mx_Sn _ _ 5 (mx_if_eq 12 8) from sn_129 5) (by omega) (fun q2 => ?_) (fun q2 => ?_)
    · skip
      exfalso; omega
    · skip
      refine JcL (z := (-2)) (show mx_Sn _ _ 8 (mx_const (.long (-2)) 11) from sn_129 8) rfl ?_
      exact mx_J.ret (sn_129 11) (fun _ _ => rfl) (hP (-2) (by omega))
theorem ct_129_1_p {l : Launch} {D : va_G} {b0 : Nat} {ad : Nat → Nat} {Hb : Heap} {tau : Nat → Int64} {d n s : Nat} {S : Nat → xS} {Z : xZ} {h : mx_H} (hx : XH n s S Z h) (hG : GI n S Z)  {x0 x1 x2 : Int} (p0 : 4 ≤ x0 ∧ x0 ≤ 2147483647) (p1 : (-2147483648) ≤ x1 ∧ x1 ≤ 2147483647) (p2 : (-9223372036854775808) ≤ x2 ∧ x2 ≤ 9223372036854775807) : ∃ z : Int, mx_Ca (tB l D b0 ad Hb tau) (d + 2) 129 [.ref 1, xI x0, xI x1, xL x2] h (some (xL z), h) ∧ ((-2) ≤ z ∧ z ≤ (-2)) := by
  obtain ⟨r, hca, z, e, hp⟩ := Jmt (B := tB l D b0 ad Hb tau) (M := mt_129) (mi := 129) (as := [.ref 1, xI x0, xI x1, xL x2]) (d := d + 1) (ls := [some (.ref 1), some (xI x0), some (xI x1), some (xL x2), none]) rfl rfl rfl rfl rfl rfl (cw_129_1_p (l := l) (D := D) (b0 := b0) (ad := ad) (Hb := Hb) (tau := tau) (d := d) (Post := fun r => ∃ z : Int, r = (some (xL z), h) ∧ ((-2) ≤ z ∧ z ≤ (-2))) hx hG p0 p1 p2 (fun z hz => ⟨z, rfl, hz⟩))
  subst e; exact ⟨z, hca, hp⟩
theorem ct_129_1 {l : Launch} {D : va_G} {b0 : Nat} {ad : Nat → Nat} {Hb : Heap} {tau : Nat → Int64} {d n s : Nat} {S : Nat → xS} {Z : xZ} {h : mx_H} (hx : XH n s S Z h) (hG : GI n S Z) {x0 x1 x2 : Int} (p0 : (-2147483648) ≤ x0 ∧ x0 ≤ 2147483647) (p1 : (-2147483648) ≤ x1 ∧ x1 ≤ 2147483647) (p2 : (-9223372036854775808) ≤ x2 ∧ x2 ≤ 9223372036854775807) : ∃ (z : Int) (Z' : xZ) (h' : mx_H), mx_Ca (tB l D b0 ad Hb tau) (d + 2) 129 [.ref 1, xI x0, xI x1, xL x2] h (some (xL z), h') ∧ XH n s S Z' h' ∧ GI n S Z' ∧ fr' [(45, (-1)), (47, (-1)), (49, (-1)), (51, (-1))] Z Z' ∧ ((-9223372036854775808) ≤ z ∧ z ≤ 9223372036854775807) := by
  have hc : x0 = 0 ∨ x0 = 1 ∨ x0 = 2 ∨ x0 = 3 ∨ ((-2147483648) ≤ x0 ∧ x0 ≤ (-1)) ∨ (4 ≤ x0 ∧ x0 ≤ 2147483647) := by omega
  rcases hc with hc | hc | hc | hc | hc | hc
  · subst hc
    obtain ⟨z, Z', h', hca, q1, q2, q3, b⟩ := ct_129_1_i0 (d := d + 0) (l := l) (D := D) (b0 := b0) (ad := ad) (Hb := Hb) (tau := tau) hx hG p1 p2
    exact ⟨z, Z', h', hca, q1, q2, fr_tr (M1 := []) fr_rf q3 rfl rfl, by omega⟩
  · subst hc
    obtain ⟨z, Z', h', hca, q1, q2, q3, b⟩ := ct_129_1_i1 (d := d + 0) (l := l) (D := D) (b0 := b0) (ad := ad) (Hb := Hb) (tau := tau) hx hG p1 p2
    exact ⟨z, Z', h', hca, q1, q2, fr_tr (M1 := []) fr_rf q3 rfl rfl, by omega⟩
  · subst hc
    obtain ⟨z, Z', h', hca, q1, q2, q3, b⟩ := ct_129_1_i2 (d := d + 0) (l := l) (D := D) (b0 := b0) (ad := ad) (Hb := Hb) (tau := tau) hx hG p1 p2
    exact ⟨z, Z', h', hca, q1, q2, fr_tr (M1 := []) fr_rf q3 rfl rfl, by omega⟩
  · subst hc
    obtain ⟨z, Z', h', hca, q1, q2, q3, b⟩ := ct_129_1_i3 (d := d + 0) (l := l) (D := D) (b0 := b0) (ad := ad) (Hb := Hb) (tau := tau) hx hG p1 p2
    exact ⟨z, Z', h', hca, q1, q2, fr_tr (M1 := []) fr_rf q3 rfl rfl, by omega⟩
  · skip
    obtain ⟨z, hca, b⟩ := ct_129_1_n (d := d + 0) (l := l) (D := D) (b0 := b0) (ad := ad) (Hb := Hb) (tau := tau) hx hG hc p1 p2
    exact ⟨z, Z, h, hca, hx, hG, fr_rf, by omega⟩
  · skip
    obtain ⟨z, hca, b⟩ := ct_129_1_p (d := d + 0) (l := l) (D := D) (b0 := b0) (ad := ad) (Hb := Hb) (tau := tau) hx hG hc p1 p2
    exact ⟨z, Z, h, hca, hx, hG, fr_rf, by omega⟩
set_option maxRecDepth 100000 in
theorem cw_130_1_i0 {l : Launch} {D : va_G} {b0 : Nat} {ad : Nat → Nat} {Hb : Heap} {tau : Nat → Int64} {d n s : Nat} {S : Nat → xS} {Z : xZ} {h : mx_H} {Post : mx_R → Prop} (hx : XH n s S Z h) (hG : GI n S Z)  {x1 : Int} (p1 : (-2147483648) ≤ x1 ∧ x1 ≤ 2147483647) (hP : ∀ (z : Int) (Z' : xZ) (h' : mx_H), XH n s S Z' h' → GI n S Z' → fr' [(45, (-1))] Z Z' → (-6) ≤ z ∧ z ≤ 18 → Post (some (xI z), h')) : mx_J (tB l D b0 ad Hb tau) mt_130 (d + 2) 0 [some (.ref 1), some (xI 0), some (xI x1), none, none] [] h Post := by
    have a1 : 1 < n := lt83 (GI_n hG) rfl
    have s1 : S 1 = .inl (11, [2, 0, 0, 0, 2, 2, 2, 2, 2, 2, 2, 2, 2, 2, 2, 2, 2]) := GI_s hG 1 rfl
    have a7 : 7 < n := lt83 (GI_n hG) rfl
    have s7 : S 7 = .inl (0, [2, 2, 2, 2, 0, 0]) := GI_s hG 7 rfl
    have a34 : 34 < n := lt83 (GI_n hG) rfl
    have s34 : S 34 = .inr ((.object "TitheHeap$Tray"), 4, 2) := GI_s hG 34 rfl
    have a44 : 44 < n := lt83 (GI_n hG) rfl
    have s44 : S 44 = .inl (10, [2, 0, 0, 0]) := GI_s hG 44 rfl
    refine mx_J.step (sn_130 0) (fun _ _ => rfl) ?_
    refine mx_J.step (sn_130 1) (fun _ _ => rfl) ?_
    obtain ⟨z1, hc1, b1⟩ := ct_144_1_y (d := d + 1) (l := l) (D := D) (b0 := b0) (ad := ad) (Hb := Hb) (tau := tau) hx hG (show 0 ≤ 0 ∧ 0 ≤ 3 by omega)
    refine Jcv hx (show mx_Sn _ _ 2 (mx_callv 144 2 11 5) from sn_130 2) a1 s1 hc1 rfl rfl rfl ?_
    refine Jif_eq (show mx_Sn _ _ 5 (mx_if_eq 11 8) from sn_130 5) (by omega) (fun q2 => ?_) (fun q2 => ?_)
    · skip
      refine mx_J.step (sn_130 11) (fun _ _ => rfl) ?_
      refine JgetR (g := 10) (b := 34) hx (show mx_Sn _ _ 12 (mx_getf 11 10 15) from sn_130 12) a1 s1 rfl rfl (hG.prr 1 10 rfl) ?_
      refine mx_J.step (sn_130 15) (fun _ _ => rfl) ?_
      refine JaaldR (i := 0) (b := 44) hx (show mx_Sn _ _ 16 (mx_aald 17) from sn_130 16) a34 s34 (by omega) (show Z 34 0 = 44 by have hq := GI_ex hG 34 0; replace hq : ((0 : Int) ≤ 0 → (0 : Int) ≤ 3 → (Z 34 0) = 44 + 2 * 0) := hq; omega) ?_
      have b5 : 0 ≤ Z 44 3 ∧ Z 44 3 ≤ 1 := hG.pr 44 3
      refine JgetI (g := 3) (z := Z 44 3) hx (show mx_Sn _ _ 17 (mx_getf 10 3 20) from sn_130 17) a44 s44 rfl rfl rfl ?_
      refine Jif_eq (show mx_Sn _ _ 20 (mx_if_eq 26 23) from sn_130 20) (by omega) (fun q6 => ?_) (fun q6 => ?_)
      · skip
        refine mx_J.step (sn_130 26) (fun _ _ => rfl) ?_
        have c41 : mx_J (tB l D b0 ad Hb tau) mt_130 (d + 2) 41 [some (.ref 1), some (xI 0), some (xI x1), none, none] [] h Post := by
          refine JcI (z := (-3)) (show mx_Sn _ _ 41 (mx_const (.int (-3)) 43) from sn_130 41) rfl ?_
          exact mx_J.ret (sn_130 43) (fun _ _ => rfl) (hP (-3) Z h hx hG fr_rf (by omega))
        refine Jif_lt (show mx_Sn _ _ 27 (mx_if_lt 41 30) from sn_130 27) (by omega) (fun q8 => ?_) (fun q8 => ?_)
        · skip
          exact c41 
        · skip
          refine mx_J.step (sn_130 30) (fun _ _ => rfl) ?_
          refine mx_J.step (sn_130 31) (fun _ _ => rfl) ?_
          refine JgetR (g := 5) (b := 7) hx (show mx_Sn _ _ 32 (mx_getf 11 5 35) from sn_130 32) a1 s1 rfl rfl (hG.prr 1 5 rfl) ?_
          have b11 : 0 ≤ Z 7 5 ∧ Z 7 5 ≤ 385 := hG.pr 7 5
          refine JgetI (g := 5) (z := Z 7 5) hx (show mx_Sn _ _ 35 (mx_getf 0 5 38) from sn_130 35) a7 s7 rfl rfl rfl ?_
          refine Jicmp_lt (show mx_Sn _ _ 38 (mx_icmp_lt 44 41) from sn_130 38) (by omega) (by omega) (fun q12 => ?_) (fun q12 => ?_)
          · skip
            refine mx_J.step (sn_130 44) (fun _ _ => rfl) ?_
            refine JgetR (g := 5) (b := 7) hx (show mx_Sn _ _ 45 (mx_getf 11 5 48) from sn_130 45) a1 s1 rfl rfl (hG.prr 1 5 rfl) ?_
            refine mx_J.step (sn_130 48) (fun _ _ => rfl) ?_
            have b15 : 0 ≤ Z 7 5 ∧ Z 7 5 ≤ 385 := hG.pr 7 5
            have b16 : 0 ≤ Z 10 x1 ∧ Z 10 x1 ≤ 18 := hG.pr 10 x1
            obtain ⟨z14, hc14, b14⟩ := ct_5_7 (d := d + 1) (l := l) (D := D) (b0 := b0) (ad := ad) (Hb := Hb) (tau := tau) hx hG (show (-2147483648) ≤ x1 ∧ x1 ≤ 2147483647 by omega)
            refine Jcv hx (show mx_Sn _ _ 49 (mx_callv 5 2 0 52) from sn_130 49) a7 s7 hc14 rfl rfl rfl ?_
            refine mx_J.step (sn_130 52) (fun _ _ => rfl) ?_
            refine JgetR (g := 10) (b := 34) hx (show mx_Sn _ _ 53 (mx_getf 11 10 56) from sn_130 53) a1 s1 rfl rfl (hG.prr 1 10 rfl) ?_
            refine mx_J.step (sn_130 56) (fun _ _ => rfl) ?_
            refine JaaldR (i := 0) (b := 44) hx (show mx_Sn _ _ 57 (mx_aald 58) from sn_130 57) a34 s34 (by omega) (show Z 34 0 = 44 by have hq := GI_ex hG 34 0; replace hq : ((0 : Int) ≤ 0 → (0 : Int) ≤ 3 → (Z 34 0) = 44 + 2 * 0) := hq; omega) ?_
            have b19 : 0 ≤ Z 44 2 ∧ Z 44 2 ≤ 40 := hG.pr 44 2
            refine JgetI (g := 2) (z := Z 44 2) hx (show mx_Sn _ _ 58 (mx_getf 10 2 61) from sn_130 58) a44 s44 rfl rfl rfl ?_
            refine Jmmin (show mx_Sn _ _ 61 (mx_mmin 64) from sn_130 61) (by omega) (by omega) ⟨_, rfl⟩ rfl (fun y20 hy20 => ?_)
            refine mx_J.step (ls2 := [some (.ref 1), some (xI 0), some (xI x1), some (xI y20), none]) (sn_130 64) (fun _ _ => rfl) ?_
            refine JcI (z := 0) (show mx_Sn _ _ 65 (mx_const (.int 0) 66) from sn_130 65) rfl ?_
            refine mx_J.step (ls2 := [some (.ref 1), some (xI 0), some (xI x1), some (xI y20), some (xI 0)]) (sn_130 66) (fun _ _ => rfl) ?_
            have c68 : ∀ (m21 : Nat) (w21_4 : Int) (Z22 : xZ) (h22 : mx_H), 18 - w21_4 < (m21 : Int) → 0 ≤ w21_4 ∧ w21_4 ≤ 18 → XH n s S Z22 h22 → GI n S Z22 → fr' [(45, (-1))] Z Z22 → mx_J (tB l D b0 ad Hb tau) mt_130 (d + 2) 68 [some (.ref 1), some (xI 0), some (xI x1), some (xI y20), some (xI w21_4)] [] h22 Post := by
              intro m21
              induction m21 with
              | zero => intro w21_4 Z22 h22 q21 f21_0 hx22 hG22 hf22; exact absurd q21 (by omega)
              | succ m21 ih21 =>
                intro w21_4 Z22 h22 q21 f21_0 hx22 hG22 hf22
                refine mx_J.step (sn_130 68) (fun _ _ => rfl) ?_
                refine mx_J.step (sn_130 70) (fun _ _ => rfl) ?_
                refine Jicmp_ge (show mx_Sn _ _ 71 (mx_icmp_ge 102 74) from sn_130 71) (by omega) (by omega) (fun q23 => ?_) (fun q23 => ?_)
                · skip
                  refine mx_J.step (sn_130 102) (fun _ _ => rfl) ?_
                  exact mx_J.ret (sn_130 103) (fun _ _ => rfl) (hP y20 Z22 h22 hx22 hG22 (fr_tr (M := [(45, (-1))]) fr_rf (hf22) (M1 := []) rfl rfl) (by omega))
                · skip
                  refine mx_J.step (sn_130 74) (fun _ _ => rfl) ?_
                  refine JgetR (g := 10) (b := 34) hx22 (show mx_Sn _ _ 75 (mx_getf 11 10 78) from sn_130 75) a1 s1 rfl rfl (hG22.prr 1 10 rfl) ?_
                  refine mx_J.step (sn_130 78) (fun _ _ => rfl) ?_
                  refine JaaldR (i := 0) (b := 44) hx22 (show mx_Sn _ _ 79 (mx_aald 80) from sn_130 79) a34 s34 (by omega) (show Z22 34 0 = 44 by have hq := GI_ex hG22 34 0; replace hq : ((0 : Int) ≤ 0 → (0 : Int) ≤ 3 → (Z22 34 0) = 44 + 2 * 0) := hq; omega) ?_
                  refine mx_J.step (sn_130 80) (fun _ _ => rfl) ?_
                  refine mx_J.step (sn_130 82) (fun _ _ => rfl) ?_
                  refine JgetR (g := 5) (b := 7) hx22 (show mx_Sn _ _ 83 (mx_getf 11 5 86) from sn_130 83) a1 s1 rfl rfl (hG22.prr 1 5 rfl) ?_
                  refine mx_J.step (sn_130 86) (fun _ _ => rfl) ?_
                  refine mx_J.step (sn_130 87) (fun _ _ => rfl) ?_
                  have eq27 : Z22 9 (x1 * 18 + w21_4) = Z 9 (x1 * 18 + w21_4) := (hf22 9 (x1 * 18 + w21_4) rfl)
                  have b28 : 0 ≤ Z 9 (x1 * 18 + w21_4) ∧ Z 9 (x1 * 18 + w21_4) ≤ 18 := hG.pr 9 (x1 * 18 + w21_4)
                  have eq29 : Z22 10 x1 = Z 10 x1 := (hf22 10 x1 rfl)
                  have b30 : 0 ≤ Z 10 x1 ∧ Z 10 x1 ≤ 18 := hG.pr 10 x1
                  have eq31 : Z22 7 5 = Z 7 5 := (hf22 7 5 rfl)
                  have b32 : 0 ≤ Z 7 5 ∧ Z 7 5 ≤ 385 := hG.pr 7 5
                  obtain ⟨z26, hc26, b26⟩ := ct_6_7 (d := d + 0) (l := l) (D := D) (b0 := b0) (ad := ad) (Hb := Hb) (tau := tau) hx22 hG22 (show (-2147483648) ≤ x1 ∧ x1 ≤ 2147483647 by omega) (show (-2147483648) ≤ w21_4 ∧ w21_4 ≤ 2147483647 by omega)
                  try rw [eq27] at b26
                  try rw [eq29] at b26
                  try rw [eq31] at b26
                  refine Jcv hx22 (show mx_Sn _ _ 89 (mx_callv 6 3 0 92) from sn_130 89) a7 s7 hc26 rfl rfl rfl ?_
                  refine Ji2l (show mx_Sn _ _ 92 (mx_i2l 93) from sn_130 92) (by omega) ?_
                  obtain ⟨Z33, h33, hc33, hx33, hG33, hf33⟩ := ct_84_44 (d := d + 1) (l := l) (D := D) (b0 := b0) (ad := ad) (Hb := Hb) (tau := tau) hx22 hG22 (show (-2147483648) ≤ w21_4 ∧ w21_4 ≤ 2147483647 by omega) (show (-9223372036854775808) ≤ z26 ∧ z26 ≤ 9223372036854775807 by omega)
                  refine Jcv0 hx22 (show mx_Sn _ _ 93 (mx_callv 84 3 10 96) from sn_130 93) a44 s44 hc33 rfl rfl rfl ?_
                  refine Jiinc (z := w21_4) (cz := 1) (ls2 := [some (.ref 1), some (xI 0), some (xI x1), some (xI y20), some (xI (w21_4 + 1))]) (show mx_Sn _ _ 96 (mx_iinc 4 1 99) from sn_130 96) rfl rfl rfl rfl ?_
                  refine mx_J.step (sn_130 99) (fun _ _ => rfl) ?_
                  exact ih21 (w21_4 + 1) Z33 h33 (by omega) (by omega) hx33 hG33 (fr_tr (M := [(45, (-1))]) (fr_tr (M := [(45, (-1))]) fr_rf (hf22) (M1 := []) rfl rfl) (hf33) rfl rfl)
            exact c68 (Int.toNat (18 - 0) + 1) 0 Z h (by omega) (by omega) hx hG fr_rf
          · skip
            exact c41 
      · skip
        refine JcI (z := (-6)) (show mx_Sn _ _ 23 (mx_const (.int (-6)) 25) from sn_130 23) rfl ?_
        exact mx_J.ret (sn_130 25) (fun _ _ => rfl) (hP (-6) Z h hx hG fr_rf (by omega))
    · skip
      exfalso; omega
theorem ct_130_1_i0 {l : Launch} {D : va_G} {b0 : Nat} {ad : Nat → Nat} {Hb : Heap} {tau : Nat → Int64} {d n s : Nat} {S : Nat → xS} {Z : xZ} {h : mx_H} (hx : XH n s S Z h) (hG : GI n S Z)  {x1 : Int} (p1 : (-2147483648) ≤ x1 ∧ x1 ≤ 2147483647) : ∃ (z : Int) (Z' : xZ) (h' : mx_H), mx_Ca (tB l D b0 ad Hb tau) (d + 3) 130 [.ref 1, xI 0, xI x1] h (some (xI z), h') ∧ XH n s S Z' h' ∧ GI n S Z' ∧ fr' [(45, (-1))] Z Z' ∧ ((-6) ≤ z ∧ z ≤ 18) := by
  obtain ⟨r, hca, z, Z', h', e, q⟩ := Jmt (B := tB l D b0 ad Hb tau) (M := mt_130) (mi := 130) (as := [.ref 1, xI 0, xI x1]) (d := d + 2) (ls := [some (.ref 1), some (xI 0), some (xI x1), none, none]) rfl rfl rfl rfl rfl rfl (cw_130_1_i0 (l := l) (D := D) (b0 := b0) (ad := ad) (Hb := Hb) (tau := tau) (d := d) (Post := fun r => ∃ (z : Int) (Z' : xZ) (h' : mx_H), r = (some (xI z), h') ∧ XH n s S Z' h' ∧ GI n S Z' ∧ fr' [(45, (-1))] Z Z' ∧ ((-6) ≤ z ∧ z ≤ 18)) hx hG p1 (fun z Z' h' q1 q2 q3 q4 => ⟨z, Z', h', rfl, q1, q2, q3, q4⟩))
  subst e; exact ⟨z, Z', h', hca, q⟩
set_option maxRecDepth 100000 in
theorem cw_130_1_i1 {l : Launch} {D : va_G} {b0 : Nat} {ad : Nat → Nat} {Hb : Heap} {tau : Nat → Int64} {d n s : Nat} {S : Nat → xS} {Z : xZ} {h : mx_H} {Post : mx_R → Prop} (hx : XH n s S Z h) (hG : GI n S Z)  {x1 : Int} (p1 : (-2147483648) ≤ x1 ∧ x1 ≤ 2147483647) (hP : ∀ (z : Int) (Z' : xZ) (h' : mx_H), XH n s S Z' h' → GI n S Z' → fr' [(47, (-1))] Z Z' → (-6) ≤ z ∧ z ≤ 18 → Post (some (xI z), h')) : mx_J (tB l D b0 ad Hb tau) mt_130 (d + 2) 0 [some (.ref 1), some (xI 1), some (xI x1), none, none] [] h Post := by
    have a1 : 1 < n := lt83 (GI_n hG) rfl
    have s1 : S 1 = .inl (11, [2, 0, 0, 0, 2, 2, 2, 2, 2, 2, 2, 2, 2, 2, 2, 2, 2]) := GI_s hG 1 rfl
    have a7 : 7 < n := lt83 (GI_n hG) rfl
    have s7 : S 7 = .inl (0, [2, 2, 2, 2, 0, 0]) := GI_s hG 7 rfl
    have a34 : 34 < n := lt83 (GI_n hG) rfl
    have s34 : S 34 = .inr ((.object "TitheHeap$Tray"), 4, 2) := GI_s hG 34 rfl
    have a46 : 46 < n := lt83 (GI_n hG) rfl
    have s46 : S 46 = .inl (10, [2, 0, 0, 0]) := GI_s hG 46 rfl
    refine mx_J.step (sn_130 0) (fun _ _ => rfl) ?_
    refine mx_J.step (sn_130 1) (fun _ _ => rfl) ?_
    obtain ⟨z1, hc1, b1⟩ := ct_144_1_y (d := d + 1) (l := l) (D := D) (b0 := b0) (ad := ad) (Hb := Hb) (tau := tau) hx hG (show 0 ≤ 1 ∧ 1 ≤ 3 by omega)
    refine Jcv hx (show mx_Sn _ _ 2 (mx_callv 144 2 11 5) from sn_130 2) a1 s1 hc1 rfl rfl rfl ?_
    refine Jif_eq (show mx_Sn _ _ 5 (mx_if_eq 11 8) from sn_130 5) (by omega) (fun q2 => ?_) (fun q2 => ?_)
    · skip
      refine mx_J.step (sn_130 11) (fun _ _ => rfl) ?_
      refine JgetR (g := 10) (b := 34) hx (show mx_Sn _ _ 12 (mx_getf 11 10 15) from sn_130 12) a1 s1 rfl rfl (hG.prr 1 10 rfl) ?_
      refine mx_J.step (sn_130 15) (fun _ _ => rfl) ?_
      refine JaaldR (i := 1) (b := 46) hx (show mx_Sn _ _ 16 (mx_aald 17) from sn_130 16) a34 s34 (by omega) (show Z 34 1 = 46 by have hq := GI_ex hG 34 1; replace hq : ((0 : Int) ≤ 1 → (1 : Int) ≤ 3 → (Z 34 1) = 44 + 2 * 1) := hq; omega) ?_
      have b5 : 0 ≤ Z 46 3 ∧ Z 46 3 ≤ 1 := hG.pr 46 3
      refine JgetI (g := 3) (z := Z 46 3) hx (show mx_Sn _ _ 17 (mx_getf 10 3 20) from sn_130 17) a46 s46 rfl rfl rfl ?_
      refine Jif_eq (show mx_Sn _ _ 20 (mx_if_eq 26 23) from sn_130 20) (by omega) (fun q6 => ?_) (fun q6 => ?_)
      · skip
        refine mx_J.step (sn_130 26) (fun _ _ => rfl) ?_
        have c41 : mx_J (tB l D b0 ad Hb tau) mt_130 (d + 2) 41 [some (.ref 1), some (xI 1), some (xI x1), none, none] [] h Post := by
          refine JcI (z := (-3)) (show mx_Sn _ _ 41 (mx_const (.int (-3)) 43) from sn_130 41) rfl ?_
          exact mx_J.ret (sn_130 43) (fun _ _ => rfl) (hP (-3) Z h hx hG fr_rf (by omega))
        refine Jif_lt (show mx_Sn _ _ 27 (mx_if_lt 41 30) from sn_130 27) (by omega) (fun q8 => ?_) (fun q8 => ?_)
        · skip
          exact c41 
        · skip
          refine mx_J.step (sn_130 30) (fun _ _ => rfl) ?_
          refine mx_J.step (sn_130 31) (fun _ _ => rfl) ?_
          refine JgetR (g := 5) (b := 7) hx (show mx_Sn _ _ 32 (mx_getf 11 5 35) from sn_130 32) a1 s1 rfl rfl (hG.prr 1 5 rfl) ?_
          have b11 : 0 ≤ Z 7 5 ∧ Z 7 5 ≤ 385 := hG.pr 7 5
          refine JgetI (g := 5) (z := Z 7 5) hx (show mx_Sn _ _ 35 (mx_getf 0 5 38) from sn_130 35) a7 s7 rfl rfl rfl ?_
          refine Jicmp_lt (show mx_Sn _ _ 38 (mx_icmp_lt 44 41) from sn_130 38) (by omega) (by omega) (fun q12 => ?_) (fun q12 => ?_)
          · skip
            refine mx_J.step (sn_130 44) (fun _ _ => rfl) ?_
            refine JgetR (g := 5) (b := 7) hx (show mx_Sn _ _ 45 (mx_getf 11 5 48) from sn_130 45) a1 s1 rfl rfl (hG.prr 1 5 rfl) ?_
            refine mx_J.step (sn_130 48) (fun _ _ => rfl) ?_
            have b15 : 0 ≤ Z 7 5 ∧ Z 7 5 ≤ 385 := hG.pr 7 5
            have b16 : 0 ≤ Z 10 x1 ∧ Z 10 x1 ≤ 18 := hG.pr 10 x1
            obtain ⟨z14, hc14, b14⟩ := ct_5_7 (d := d + 1) (l := l) (D := D) (b0 := b0) (ad := ad) (Hb := Hb) (tau := tau) hx hG (show (-2147483648) ≤ x1 ∧ x1 ≤ 2147483647 by omega)
            refine Jcv hx (show mx_Sn _ _ 49 (mx_callv 5 2 0 52) from sn_130 49) a7 s7 hc14 rfl rfl rfl ?_
            refine mx_J.step (sn_130 52) (fun _ _ => rfl) ?_
            refine JgetR (g := 10) (b := 34) hx (show mx_Sn _ _ 53 (mx_getf 11 10 56) from sn_130 53) a1 s1 rfl rfl (hG.prr 1 10 rfl) ?_
            refine mx_J.step (sn_130 56) (fun _ _ => rfl) ?_
            refine JaaldR (i := 1) (b := 46) hx (show mx_Sn _ _ 57 (mx_aald 58) from sn_130 57) a34 s34 (by omega) (show Z 34 1 = 46 by have hq := GI_ex hG 34 1; replace hq : ((0 : Int) ≤ 1 → (1 : Int) ≤ 3 → (Z 34 1) = 44 + 2 * 1) := hq; omega) ?_
            have b19 : 0 ≤ Z 46 2 ∧ Z 46 2 ≤ 40 := hG.pr 46 2
            refine JgetI (g := 2) (z := Z 46 2) hx (show mx_Sn _ _ 58 (mx_getf 10 2 61) from sn_130 58) a46 s46 rfl rfl rfl ?_
            refine Jmmin (show mx_Sn _ _ 61 (mx_mmin 64) from sn_130 61) (by omega) (by omega) ⟨_, rfl⟩ rfl (fun y20 hy20 => ?_)
            refine mx_J.step (ls2 := [some (.ref 1), some (xI 1), some (xI x1), some (xI y20), none]) (sn_130 64) (fun _ _ => rfl) ?_
            refine JcI (z := 0) (show mx_Sn _ _ 65 (mx_const (.int 0) 66) from sn_130 65) rfl ?_
            refine mx_J.step (ls2 := [some (.ref 1), some (xI 1), some (xI x1), some (xI y20), some (xI 0)]) (sn_130 66) (fun _ _ => rfl) ?_
            have c68 : ∀ (m21 : Nat) (w21_4 : Int) (Z22 : xZ) (h22 : mx_H), 18 - w21_4 < (m21 : Int) → 0 ≤ w21_4 ∧ w21_4 ≤ 18 → XH n s S Z22 h22 → GI n S Z22 → fr' [(47, (-1))] Z Z22 → mx_J (tB l D b0 ad Hb tau) mt_130 (d + 2) 68 [some (.ref 1), some (xI 1), some (xI x1), some (xI y20), some (xI w21_4)] [] h22 Post := by
              intro m21
              induction m21 with
              | zero => intro w21_4 Z22 h22 q21 f21_0 hx22 hG22 hf22; exact absurd q21 (by omega)
              | succ m21 ih21 =>
                intro w21_4 Z22 h22 q21 f21_0 hx22 hG22 hf22
                refine mx_J.step (sn_130 68) (fun _ _ => rfl) ?_
                refine mx_J.step (sn_130 70) (fun _ _ => rfl) ?_
                refine Jicmp_ge (show mx_Sn _ _ 71 (mx_icmp_ge 102 74) from sn_130 71) (by omega) (by omega) (fun q23 => ?_) (fun q23 => ?_)
                · skip
                  refine mx_J.step (sn_130 102) (fun _ _ => rfl) ?_
                  exact mx_J.ret (sn_130 103) (fun _ _ => rfl) (hP y20 Z22 h22 hx22 hG22 (fr_tr (M := [(47, (-1))]) fr_rf (hf22) (M1 := []) rfl rfl) (by omega))
                · skip
                  refine mx_J.step (sn_130 74) (fun _ _ => rfl) ?_
                  refine JgetR (g := 10) (b := 34) hx22 (show mx_Sn _ _ 75 (mx_getf 11 10 78) from sn_130 75) a1 s1 rfl rfl (hG22.prr 1 10 rfl) ?_
                  refine mx_J.step (sn_130 78) (fun _ _ => rfl) ?_
                  refine JaaldR (i := 1) (b := 46) hx22 (show mx_Sn _ _ 79 (mx_aald 80) from sn_130 79) a34 s34 (by omega) (show Z22 34 1 = 46 by have hq := GI_ex hG22 34 1; replace hq : ((0 : Int) ≤ 1 → (1 : Int) ≤ 3 → (Z22 34 1) = 44 + 2 * 1) := hq; omega) ?_
                  refine mx_J.step (sn_130 80) (fun _ _ => rfl) ?_
                  refine mx_J.step (sn_130 82) (fun _ _ => rfl) ?_
                  refine JgetR (g := 5) (b := 7) hx22 (show mx_Sn _ _ 83 (mx_getf 11 5 86) from sn_130 83) a1 s1 rfl rfl (hG22.prr 1 5 rfl) ?_
                  refine mx_J.step (sn_130 86) (fun _ _ => rfl) ?_
                  refine mx_J.step (sn_130 87) (fun _ _ => rfl) ?_
                  have eq27 : Z22 9 (x1 * 18 + w21_4) = Z 9 (x1 * 18 + w21_4) := (hf22 9 (x1 * 18 + w21_4) rfl)
                  have b28 : 0 ≤ Z 9 (x1 * 18 + w21_4) ∧ Z 9 (x1 * 18 + w21_4) ≤ 18 := hG.pr 9 (x1 * 18 + w21_4)
                  have eq29 : Z22 10 x1 = Z 10 x1 := (hf22 10 x1 rfl)
                  have b30 : 0 ≤ Z 10 x1 ∧ Z 10 x1 ≤ 18 := hG.pr 10 x1
                  have eq31 : Z22 7 5 = Z 7 5 := (hf22 7 5 rfl)
                  have b32 : 0 ≤ Z 7 5 ∧ Z 7 5 ≤ 385 := hG.pr 7 5
                  obtain ⟨z26, hc26, b26⟩ := ct_6_7 (d := d + 0) (l := l) (D := D) (b0 := b0) (ad := ad) (Hb := Hb) (tau := tau) hx22 hG22 (show (-2147483648) ≤ x1 ∧ x1 ≤ 2147483647 by omega) (show (-2147483648) ≤ w21_4 ∧ w21_4 ≤ 2147483647 by omega)
                  try rw [eq27] at b26
                  try rw [eq29] at b26
                  try rw [eq31] at b26
                  refine Jcv hx22 (show mx_Sn _ _ 89 (mx_callv 6 3 0 92) from sn_130 89) a7 s7 hc26 rfl rfl rfl ?_
                  refine Ji2l (show mx_Sn _ _ 92 (mx_i2l 93) from sn_130 92) (by omega) ?_
                  obtain ⟨Z33, h33, hc33, hx33, hG33, hf33⟩ := ct_84_46 (d := d + 1) (l := l) (D := D) (b0 := b0) (ad := ad) (Hb := Hb) (tau := tau) hx22 hG22 (show (-2147483648) ≤ w21_4 ∧ w21_4 ≤ 2147483647 by omega) (show (-9223372036854775808) ≤ z26 ∧ z26 ≤ 9223372036854775807 by omega)
                  refine Jcv0 hx22 (show mx_Sn _ _ 93 (mx_callv 84 3 10 96) from sn_130 93) a46 s46 hc33 rfl rfl rfl ?_
                  refine Jiinc (z := w21_4) (cz := 1) (ls2 := [some (.ref 1), some (xI 1), some (xI x1), some (xI y20), some (xI (w21_4 + 1))]) (show mx_Sn _ _ 96 (mx_iinc 4 1 99) from sn_130 96) rfl rfl rfl rfl ?_
                  refine mx_J.step (sn_130 99) (fun _ _ => rfl) ?_
                  exact ih21 (w21_4 + 1) Z33 h33 (by omega) (by omega) hx33 hG33 (fr_tr (M := [(47, (-1))]) (fr_tr (M := [(47, (-1))]) fr_rf (hf22) (M1 := []) rfl rfl) (hf33) rfl rfl)
            exact c68 (Int.toNat (18 - 0) + 1) 0 Z h (by omega) (by omega) hx hG fr_rf
          · skip
            exact c41 
      · skip
        refine JcI (z := (-6)) (show mx_Sn _ _ 23 (mx_const (.int (-6)) 25) from sn_130 23) rfl ?_
        exact mx_J.ret (sn_130 25) (fun _ _ => rfl) (hP (-6) Z h hx hG fr_rf (by omega))
    · skip
      exfalso; omega
theorem ct_130_1_i1 {l : Launch} {D : va_G} {b0 : Nat} {ad : Nat → Nat} {Hb : Heap} {tau : Nat → Int64} {d n s : Nat} {S : Nat → xS} {Z : xZ} {h : mx_H} (hx : XH n s S Z h) (hG : GI n S Z)  {x1 : Int} (p1 : (-2147483648) ≤ x1 ∧ x1 ≤ 2147483647) : ∃ (z : Int) (Z' : xZ) (h' : mx_H), mx_Ca (tB l D b0 ad Hb tau) (d + 3) 130 [.ref 1, xI 1, xI x1] h (some (xI z), h') ∧ XH n s S Z' h' ∧ GI n S Z' ∧ fr' [(47, (-1))] Z Z' ∧ ((-6) ≤ z ∧ z ≤ 18) := by
  obtain ⟨r, hca, z, Z', h', e, q⟩ := Jmt (B := tB l D b0 ad Hb tau) (M := mt_130) (mi := 130) (as := [.ref 1, xI 1, xI x1]) (d := d + 2) (ls := [some (.ref 1), some (xI 1), some (xI x1), none, none]) rfl rfl rfl rfl rfl rfl (cw_130_1_i1 (l := l) (D := D) (b0 := b0) (ad := ad) (Hb := Hb) (tau := tau) (d := d) (Post := fun r => ∃ (z : Int) (Z' : xZ) (h' : mx_H), r = (some (xI z), h') ∧ XH n s S Z' h' ∧ GI n S Z' ∧ fr' [(47, (-1))] Z Z' ∧ ((-6) ≤ z ∧ z ≤ 18)) hx hG p1 (fun z Z' h' q1 q2 q3 q4 => ⟨z, Z', h', rfl, q1, q2, q3, q4⟩))
  subst e; exact ⟨z, Z', h', hca, q⟩
set_option maxRecDepth 100000 in
theorem cw_130_1_i2 {l : Launch} {D : va_G} {b0 : Nat} {ad : Nat → Nat} {Hb : Heap} {tau : Nat → Int64} {d n s : Nat} {S : Nat → xS} {Z : xZ} {h : mx_H} {Post : mx_R → Prop} (hx : XH n s S Z h) (hG : GI n S Z)  {x1 : Int} (p1 : (-2147483648) ≤ x1 ∧ x1 ≤ 2147483647) (hP : ∀ (z : Int) (Z' : xZ) (h' : mx_H), XH n s S Z' h' → GI n S Z' → fr' [(49, (-1))] Z Z' → (-6) ≤ z ∧ z ≤ 18 → Post (some (xI z), h')) : mx_J (tB l D b0 ad Hb tau) mt_130 (d + 2) 0 [some (.ref 1), some (xI 2), some (xI x1), none, none] [] h Post := by
    have a1 : 1 < n := lt83 (GI_n hG) rfl
    have s1 : S 1 = .inl (11, [2, 0, 0, 0, 2, 2, 2, 2, 2, 2, 2, 2, 2, 2, 2, 2, 2]) := GI_s hG 1 rfl
    have a7 : 7 < n := lt83 (GI_n hG) rfl
    have s7 : S 7 = .inl (0, [2, 2, 2, 2, 0, 0]) := GI_s hG 7 rfl
    have a34 : 34 < n := lt83 (GI_n hG) rfl
    have s34 : S 34 = .inr ((.object "TitheHeap$Tray"), 4, 2) := GI_s hG 34 rfl
    have a48 : 48 < n := lt83 (GI_n hG) rfl
    have s48 : S 48 = .inl (10, [2, 0, 0, 0]) := GI_s hG 48 rfl
    refine mx_J.step (sn_130 0) (fun _ _ => rfl) ?_
    refine mx_J.step (sn_130 1) (fun _ _ => rfl) ?_
    obtain ⟨z1, hc1, b1⟩ := ct_144_1_y (d := d + 1) (l := l) (D := D) (b0 := b0) (ad := ad) (Hb := Hb) (tau := tau) hx hG (show 0 ≤ 2 ∧ 2 ≤ 3 by omega)
    refine Jcv hx (show mx_Sn _ _ 2 (mx_callv 144 2 11 5) from sn_130 2) a1 s1 hc1 rfl rfl rfl ?_
    refine Jif_eq (show mx_Sn _ _ 5 (mx_if_eq 11 8) from sn_130 5) (by omega) (fun q2 => ?_) (fun q2 => ?_)
    · skip
      refine mx_J.step (sn_130 11) (fun _ _ => rfl) ?_
      refine JgetR (g := 10) (b := 34) hx (show mx_Sn _ _ 12 (mx_getf 11 10 15) from sn_130 12) a1 s1 rfl rfl (hG.prr 1 10 rfl) ?_
      refine mx_J.step (sn_130 15) (fun _ _ => rfl) ?_
      refine JaaldR (i := 2) (b := 48) hx (show mx_Sn _ _ 16 (mx_aald 17) from sn_130 16) a34 s34 (by omega) (show Z 34 2 = 48 by have hq := GI_ex hG 34 2; replace hq : ((0 : Int) ≤ 2 → (2 : Int) ≤ 3 → (Z 34 2) = 44 + 2 * 2) := hq; omega) ?_
      have b5 : 0 ≤ Z 48 3 ∧ Z 48 3 ≤ 1 := hG.pr 48 3
      refine JgetI (g := 3) (z := Z 48 3) hx (show mx_Sn _ _ 17 (mx_getf 10 3 20) from sn_130 17) a48 s48 rfl rfl rfl ?_
      refine Jif_eq (show mx_Sn _ _ 20 (mx_if_eq 26 23) from sn_130 20) (by omega) (fun q6 => ?_) (fun q6 => ?_)
      · skip
        refine mx_J.step (sn_130 26) (fun _ _ => rfl) ?_
        have c41 : mx_J (tB l D b0 ad Hb tau) mt_130 (d + 2) 41 [some (.ref 1), some (xI 2), some (xI x1), none, none] [] h Post := by
          refine JcI (z := (-3)) (show mx_Sn _ _ 41 (mx_const (.int (-3)) 43) from sn_130 41) rfl ?_
          exact mx_J.ret (sn_130 43) (fun _ _ => rfl) (hP (-3) Z h hx hG fr_rf (by omega))
        refine Jif_lt (show mx_Sn _ _ 27 (mx_if_lt 41 30) from sn_130 27) (by omega) (fun q8 => ?_) (fun q8 => ?_)
        · skip
          exact c41 
        · skip
          refine mx_J.step (sn_130 30) (fun _ _ => rfl) ?_
          refine mx_J.step (sn_130 31) (fun _ _ => rfl) ?_
          refine JgetR (g := 5) (b := 7) hx (show mx_Sn _ _ 32 (mx_getf 11 5 35) from sn_130 32) a1 s1 rfl rfl (hG.prr 1 5 rfl) ?_
          have b11 : 0 ≤ Z 7 5 ∧ Z 7 5 ≤ 385 := hG.pr 7 5
          refine JgetI (g := 5) (z := Z 7 5) hx (show mx_Sn _ _ 35 (mx_getf 0 5 38) from sn_130 35) a7 s7 rfl rfl rfl ?_
          refine Jicmp_lt (show mx_Sn _ _ 38 (mx_icmp_lt 44 41) from sn_130 38) (by omega) (by omega) (fun q12 => ?_) (fun q12 => ?_)
          · skip
            refine mx_J.step (sn_130 44) (fun _ _ => rfl) ?_
            refine JgetR (g := 5) (b := 7) hx (show mx_Sn _ _ 45 (mx_getf 11 5 48) from sn_130 45) a1 s1 rfl rfl (hG.prr 1 5 rfl) ?_
            refine mx_J.step (sn_130 48) (fun _ _ => rfl) ?_
            have b15 : 0 ≤ Z 7 5 ∧ Z 7 5 ≤ 385 := hG.pr 7 5
            have b16 : 0 ≤ Z 10 x1 ∧ Z 10 x1 ≤ 18 := hG.pr 10 x1
            obtain ⟨z14, hc14, b14⟩ := ct_5_7 (d := d + 1) (l := l) (D := D) (b0 := b0) (ad := ad) (Hb := Hb) (tau := tau) hx hG (show (-2147483648) ≤ x1 ∧ x1 ≤ 2147483647 by omega)
            refine Jcv hx (show mx_Sn _ _ 49 (mx_callv 5 2 0 52) from sn_130 49) a7 s7 hc14 rfl rfl rfl ?_
            refine mx_J.step (sn_130 52) (fun _ _ => rfl) ?_
            refine JgetR (g := 10) (b := 34) hx (show mx_Sn _ _ 53 (mx_getf 11 10 56) from sn_130 53) a1 s1 rfl rfl (hG.prr 1 10 rfl) ?_
            refine mx_J.step (sn_130 56) (fun _ _ => rfl) ?_
            refine JaaldR (i := 2) (b := 48) hx (show mx_Sn _ _ 57 (mx_aald 58) from sn_130 57) a34 s34 (by omega) (show Z 34 2 = 48 by have hq := GI_ex hG 34 2; replace hq : ((0 : Int) ≤ 2 → (2 : Int) ≤ 3 → (Z 34 2) = 44 + 2 * 2) := hq; omega) ?_
            have b19 : 0 ≤ Z 48 2 ∧ Z 48 2 ≤ 40 := hG.pr 48 2
            refine JgetI (g := 2) (z := Z 48 2) hx (show mx_Sn _ _ 58 (mx_getf 10 2 61) from sn_130 58) a48 s48 rfl rfl rfl ?_
            refine Jmmin (show mx_Sn _ _ 61 (mx_mmin 64) from sn_130 61) (by omega) (by omega) ⟨_, rfl⟩ rfl (fun y20 hy20 => ?_)
            refine mx_J.step (ls2 := [some (.ref 1), some (xI 2), some (xI x1), some (xI y20), none]) (sn_130 64) (fun _ _ => rfl) ?_
            refine JcI (z := 0) (show mx_Sn _ _ 65 (mx_const (.int 0) 66) from sn_130 65) rfl ?_
            refine mx_J.step (ls2 := [some (.ref 1), some (xI 2), some (xI x1), some (xI y20), some (xI 0)]) (sn_130 66) (fun _ _ => rfl) ?_
            have c68 : ∀ (m21 : Nat) (w21_4 : Int) (Z22 : xZ) (h22 : mx_H), 18 - w21_4 < (m21 : Int) → 0 ≤ w21_4 ∧ w21_4 ≤ 18 → XH n s S Z22 h22 → GI n S Z22 → fr' [(49, (-1))] Z Z22 → mx_J (tB l D b0 ad Hb tau) mt_130 (d + 2) 68 [some (.ref 1), some (xI 2), some (xI x1), some (xI y20), some (xI w21_4)] [] h22 Post := by
              intro m21
              induction m21 with
              | zero => intro w21_4 Z22 h22 q21 f21_0 hx22 hG22 hf22; exact absurd q21 (by omega)
              | succ m21 ih21 =>
                intro w21_4 Z22 h22 q21 f21_0 hx22 hG22 hf22
                refine mx_J.step (sn_130 68) (fun _ _ => rfl) ?_
                refine mx_J.step (sn_130 70) (fun _ _ => rfl) ?_
                refine Jicmp_ge (show mx_Sn _ _ 71 (mx_icmp_ge 102 74) from sn_130 71) (by omega) (by omega) (fun q23 => ?_) (fun q23 => ?_)
                · skip
                  refine mx_J.step (sn_130 102) (fun _ _ => rfl) ?_
                  exact mx_J.ret (sn_130 103) (fun _ _ => rfl) (hP y20 Z22 h22 hx22 hG22 (fr_tr (M := [(49, (-1))]) fr_rf (hf22) (M1 := []) rfl rfl) (by omega))
                · skip
                  refine mx_J.step (sn_130 74) (fun _ _ => rfl) ?_
                  refine JgetR (g := 10) (b := 34) hx22 (show mx_Sn _ _ 75 (mx_getf 11 10 78) from sn_130 75) a1 s1 rfl rfl (hG22.prr 1 10 rfl) ?_
                  refine mx_J.step (sn_130 78) (fun _ _ => rfl) ?_
                  refine JaaldR (i := 2) (b := 48) hx22 (show mx_Sn _ _ 79 (mx_aald 80) from sn_130 79) a34 s34 (by omega) (show Z22 34 2 = 48 by have hq := GI_ex hG22 34 2; replace hq : ((0 : Int) ≤ 2 → (2 : Int) ≤ 3 → (Z22 34 2) = 44 + 2 * 2) := hq; omega) ?_
                  refine mx_J.step (sn_130 80) (fun _ _ => rfl) ?_
                  refine mx_J.step (sn_130 82) (fun _ _ => rfl) ?_
                  refine JgetR (g := 5) (b := 7) hx22 (show mx_Sn _ _ 83 (mx_getf 11 5 86) from sn_130 83) a1 s1 rfl rfl (hG22.prr 1 5 rfl) ?_
                  refine mx_J.step (sn_130 86) (fun _ _ => rfl) ?_
                  refine mx_J.step (sn_130 87) (fun _ _ => rfl) ?_
                  have eq27 : Z22 9 (x1 * 18 + w21_4) = Z 9 (x1 * 18 + w21_4) := (hf22 9 (x1 * 18 + w21_4) rfl)
                  have b28 : 0 ≤ Z 9 (x1 * 18 + w21_4) ∧ Z 9 (x1 * 18 + w21_4) ≤ 18 := hG.pr 9 (x1 * 18 + w21_4)
                  have eq29 : Z22 10 x1 = Z 10 x1 := (hf22 10 x1 rfl)
                  have b30 : 0 ≤ Z 10 x1 ∧ Z 10 x1 ≤ 18 := hG.pr 10 x1
                  have eq31 : Z22 7 5 = Z 7 5 := (hf22 7 5 rfl)
                  have b32 : 0 ≤ Z 7 5 ∧ Z 7 5 ≤ 385 := hG.pr 7 5
                  obtain ⟨z26, hc26, b26⟩ := ct_6_7 (d := d + 0) (l := l) (D := D) (b0 := b0) (ad := ad) (Hb := Hb) (tau := tau) hx22 hG22 (show (-2147483648) ≤ x1 ∧ x1 ≤ 2147483647 by omega) (show (-2147483648) ≤ w21_4 ∧ w21_4 ≤ 2147483647 by omega)
                  try rw [eq27] at b26
                  try rw [eq29] at b26
                  try rw [eq31] at b26
                  refine Jcv hx22 (show mx_Sn _ _ 89 (mx_callv 6 3 0 92) from sn_130 89) a7 s7 hc26 rfl rfl rfl ?_
                  refine Ji2l (show mx_Sn _ _ 92 (mx_i2l 93) from sn_130 92) (by omega) ?_
                  obtain ⟨Z33, h33, hc33, hx33, hG33, hf33⟩ := ct_84_48 (d := d + 1) (l := l) (D := D) (b0 := b0) (ad := ad) (Hb := Hb) (tau := tau) hx22 hG22 (show (-2147483648) ≤ w21_4 ∧ w21_4 ≤ 2147483647 by omega) (show (-9223372036854775808) ≤ z26 ∧ z26 ≤ 9223372036854775807 by omega)
                  refine Jcv0 hx22 (show mx_Sn _ _ 93 (mx_callv 84 3 10 96) from sn_130 93) a48 s48 hc33 rfl rfl rfl ?_
                  refine Jiinc (z := w21_4) (cz := 1) (ls2 := [some (.ref 1), some (xI 2), some (xI x1), some (xI y20), some (xI (w21_4 + 1))]) (show mx_Sn _ _ 96 (mx_iinc 4 1 99) from sn_130 96) rfl rfl rfl rfl ?_
                  refine mx_J.step (sn_130 99) (fun _ _ => rfl) ?_
                  exact ih21 (w21_4 + 1) Z33 h33 (by omega) (by omega) hx33 hG33 (fr_tr (M := [(49, (-1))]) (fr_tr (M := [(49, (-1))]) fr_rf (hf22) (M1 := []) rfl rfl) (hf33) rfl rfl)
            exact c68 (Int.toNat (18 - 0) + 1) 0 Z h (by omega) (by omega) hx hG fr_rf
          · skip
            exact c41 
      · skip
        refine JcI (z := (-6)) (show mx_Sn _ _ 23 (mx_const (.int (-6)) 25) from sn_130 23) rfl ?_
        exact mx_J.ret (sn_130 25) (fun _ _ => rfl) (hP (-6) Z h hx hG fr_rf (by omega))
    · skip
      exfalso; omega
theorem ct_130_1_i2 {l : Launch} {D : va_G} {b0 : Nat} {ad : Nat → Nat} {Hb : Heap} {tau : Nat → Int64} {d n s : Nat} {S : Nat → xS} {Z : xZ} {h : mx_H} (hx : XH n s S Z h) (hG : GI n S Z)  {x1 : Int} (p1 : (-2147483648) ≤ x1 ∧ x1 ≤ 2147483647) : ∃ (z : Int) (Z' : xZ) (h' : mx_H), mx_Ca (tB l D b0 ad Hb tau) (d + 3) 130 [.ref 1, xI 2, xI x1] h (some (xI z), h') ∧ XH n s S Z' h' ∧ GI n S Z' ∧ fr' [(49, (-1))] Z Z' ∧ ((-6) ≤ z ∧ z ≤ 18) := by
  obtain ⟨r, hca, z, Z', h', e, q⟩ := Jmt (B := tB l D b0 ad Hb tau) (M := mt_130) (mi := 130) (as := [.ref 1, xI 2, xI x1]) (d := d + 2) (ls := [some (.ref 1), some (xI 2), some (xI x1), none, none]) rfl rfl rfl rfl rfl rfl (cw_130_1_i2 (l := l) (D := D) (b0 := b0) (ad := ad) (Hb := Hb) (tau := tau) (d := d) (Post := fun r => ∃ (z : Int) (Z' : xZ) (h' : mx_H), r = (some (xI z), h') ∧ XH n s S Z' h' ∧ GI n S Z' ∧ fr' [(49, (-1))] Z Z' ∧ ((-6) ≤ z ∧ z ≤ 18)) hx hG p1 (fun z Z' h' q1 q2 q3 q4 => ⟨z, Z', h', rfl, q1, q2, q3, q4⟩))
  subst e; exact ⟨z, Z', h', hca, q⟩
set_option maxRecDepth 100000 in
theorem cw_130_1_i3 {l : Launch} {D : va_G} {b0 : Nat} {ad : Nat → Nat} {Hb : Heap} {tau : Nat → Int64} {d n s : Nat} {S : Nat → xS} {Z : xZ} {h : mx_H} {Post : mx_R → Prop} (hx : XH n s S Z h) (hG : GI n S Z)  {x1 : Int} (p1 : (-2147483648) ≤ x1 ∧ x1 ≤ 2147483647) (hP : ∀ (z : Int) (Z' : xZ) (h' : mx_H), XH n s S Z' h' → GI n S Z' → fr' [(51, (-1))] Z Z' → (-6) ≤ z ∧ z ≤ 18 → Post (some (xI z), h')) : mx_J (tB l D b0 ad Hb tau) mt_130 (d + 2) 0 [some (.ref 1), some (xI 3), some (xI x1), none, none] [] h Post := by
    have a1 : 1 < n := lt83 (GI_n hG) rfl
    have s1 : S 1 = .inl (11, [2, 0, 0, 0, 2, 2, 2, 2, 2, 2, 2, 2, 2, 2, 2, 2, 2]) := GI_s hG 1 rfl
    have a7 : 7 < n := lt83 (GI_n hG) rfl
    have s7 : S 7 = .inl (0, [2, 2, 2, 2, 0, 0]) := GI_s hG 7 rfl
    have a34 : 34 < n := lt83 (GI_n hG) rfl
    have s34 : S 34 = .inr ((.object "TitheHeap$Tray"), 4, 2) := GI_s hG 34 rfl
    have a50 : 50 < n := lt83 (GI_n hG) rfl
    have s50 : S 50 = .inl (10, [2, 0, 0, 0]) := GI_s hG 50 rfl
    refine mx_J.step (sn_130 0) (fun _ _ => rfl) ?_
    refine mx_J.step (sn_130 1) (fun _ _ => rfl) ?_
    obtain ⟨z1, hc1, b1⟩ := ct_144_1_y (d := d + 1) (l := l) (D := D) (b0 := b0) (ad := ad) (Hb := Hb) (tau := tau) hx hG (show 0 ≤ 3 ∧ 3 ≤ 3 by omega)
    refine Jcv hx (show mx_Sn _ _ 2 (mx_callv 144 2 11 5) from sn_130 2) a1 s1 hc1 rfl rfl rfl ?_
    refine Jif_eq (show mx_Sn _ _ 5 (mx_if_eq 11 8) from sn_130 5) (by omega) (fun q2 => ?_) (fun q2 => ?_)
    · skip
      refine mx_J.step (sn_130 11) (fun _ _ => rfl) ?_
      refine JgetR (g := 10) (b := 34) hx (show mx_Sn _ _ 12 (mx_getf 11 10 15) from sn_130 12) a1 s1 rfl rfl (hG.prr 1 10 rfl) ?_
      refine mx_J.step (sn_130 15) (fun _ _ => rfl) ?_
      refine JaaldR (i := 3) (b := 50) hx (show mx_Sn _ _ 16 (mx_aald 17) from sn_130 16) a34 s34 (by omega) (show Z 34 3 = 50 by have hq := GI_ex hG 34 3; replace hq : ((0 : Int) ≤ 3 → (3 : Int) ≤ 3 → (Z 34 3) = 44 + 2 * 3) := hq; omega) ?_
      have b5 : 0 ≤ Z 50 3 ∧ Z 50 3 ≤ 1 := hG.pr 50 3
      refine JgetI (g := 3) (z := Z 50 3) hx (show mx_Sn _ _ 17 (mx_getf 10 3 20) from sn_130 17) a50 s50 rfl rfl rfl ?_
      refine Jif_eq (show mx_Sn _ _ 20 (mx_if_eq 26 23) from sn_130 20) (by omega) (fun q6 => ?_) (fun q6 => ?_)
      · skip
        refine mx_J.step (sn_130 26) (fun _ _ => rfl) ?_
        have c41 : mx_J (tB l D b0 ad Hb tau) mt_130 (d + 2) 41 [some (.ref 1), some (xI 3), some (xI x1), none, none] [] h Post := by
          refine JcI (z := (-3)) (show mx_Sn _ _ 41 (mx_const (.int (-3)) 43) from sn_130 41) rfl ?_
          exact mx_J.ret (sn_130 43) (fun _ _ => rfl) (hP (-3) Z h hx hG fr_rf (by omega))
        refine Jif_lt (show mx_Sn _ _ 27 (mx_if_lt 41 30) from sn_130 27) (by omega) (fun q8 => ?_) (fun q8 => ?_)
        · skip
          exact c41 
        · skip
          refine mx_J.step (sn_130 30) (fun _ _ => rfl) ?_
          refine mx_J.step (sn_130 31) (fun _ _ => rfl) ?_
          refine JgetR (g := 5) (b := 7) hx (show mx_Sn _ _ 32 (mx_getf 11 5 35) from sn_130 32) a1 s1 rfl rfl (hG.prr 1 5 rfl) ?_
          have b11 : 0 ≤ Z 7 5 ∧ Z 7 5 ≤ 385 := hG.pr 7 5
          refine JgetI (g := 5) (z := Z 7 5) hx (show mx_Sn _ _ 35 (mx_getf 0 5 38) from sn_130 35) a7 s7 rfl rfl rfl ?_
          refine Jicmp_lt (show mx_Sn _ _ 38 (mx_icmp_lt 44 41) from sn_130 38) (by omega) (by omega) (fun q12 => ?_) (fun q12 => ?_)
          · skip
            refine mx_J.step (sn_130 44) (fun _ _ => rfl) ?_
            refine JgetR (g := 5) (b := 7) hx (show mx_Sn _ _ 45 (mx_getf 11 5 48) from sn_130 45) a1 s1 rfl rfl (hG.prr 1 5 rfl) ?_
            refine mx_J.step (sn_130 48) (fun _ _ => rfl) ?_
            have b15 : 0 ≤ Z 7 5 ∧ Z 7 5 ≤ 385 := hG.pr 7 5
            have b16 : 0 ≤ Z 10 x1 ∧ Z 10 x1 ≤ 18 := hG.pr 10 x1
            obtain ⟨z14, hc14, b14⟩ := ct_5_7 (d := d + 1) (l := l) (D := D) (b0 := b0) (ad := ad) (Hb := Hb) (tau := tau) hx hG (show (-2147483648) ≤ x1 ∧ x1 ≤ 2147483647 by omega)
            refine Jcv hx (show mx_Sn _ _ 49 (mx_callv 5 2 0 52) from sn_130 49) a7 s7 hc14 rfl rfl rfl ?_
            refine mx_J.step (sn_130 52) (fun _ _ => rfl) ?_
            refine JgetR (g := 10) (b := 34) hx (show mx_Sn _ _ 53 (mx_getf 11 10 56) from sn_130 53) a1 s1 rfl rfl (hG.prr 1 10 rfl) ?_
            refine mx_J.step (sn_130 56) (fun _ _ => rfl) ?_
            refine JaaldR (i := 3) (b := 50) hx (show mx_Sn _ _ 57 (mx_aald 58) from sn_130 57) a34 s34 (by omega) (show Z 34 3 = 50 by have hq := GI_ex hG 34 3; replace hq : ((0 : Int) ≤ 3 → (3 : Int) ≤ 3 → (Z 34 3) = 44 + 2 * 3) := hq; omega) ?_
            have b19 : 0 ≤ Z 50 2 ∧ Z 50 2 ≤ 40 := hG.pr 50 2
            refine JgetI (g := 2) (z := Z 50 2) hx (show mx_Sn _ _ 58 (mx_getf 10 2 61) from sn_130 58) a50 s50 rfl rfl rfl ?_
            refine Jmmin (show mx_Sn _ _ 61 (mx_mmin 64) from sn_130 61) (by omega) (by omega) ⟨_, rfl⟩ rfl (fun y20 hy20 => ?_)
            refine mx_J.step (ls2 := [some (.ref 1), some (xI 3), some (xI x1), some (xI y20), none]) (sn_130 64) (fun _ _ => rfl) ?_
            refine JcI (z := 0) (show mx_Sn _ _ 65 (mx_const (.int 0) 66) from sn_130 65) rfl ?_
            refine mx_J.step (ls2 := [some (.ref 1), some (xI 3), some (xI x1), some (xI y20), some (xI 0)]) (sn_130 66) (fun _ _ => rfl) ?_
            have c68 : ∀ (m21 : Nat) (w21_4 : Int) (Z22 : xZ) (h22 : mx_H), 18 - w21_4 < (m21 : Int) → 0 ≤ w21_4 ∧ w21_4 ≤ 18 → XH n s S Z22 h22 → GI n S Z22 → fr' [(51, (-1))] Z Z22 → mx_J (tB l D b0 ad Hb tau) mt_130 (d + 2) 68 [some (.ref 1), some (xI 3), some (xI x1), some (xI y20), some (xI w21_4)] [] h22 Post := by
              intro m21
              induction m21 with
              | zero => intro w21_4 Z22 h22 q21 f21_0 hx22 hG22 hf22; exact absurd q21 (by omega)
              | succ m21 ih21 =>
                intro w21_4 Z22 h22 q21 f21_0 hx22 hG22 hf22
                refine mx_J.step (sn_130 68) (fun _ _ => rfl) ?_
                refine mx_J.step (sn_130 70) (fun _ _ => rfl) ?_
                refine Jicmp_ge (show mx_Sn _ _ 71 (mx_icmp_ge 102 74) from sn_130 71) (by omega) (by omega) (fun q23 => ?_) (fun q23 => ?_)
                · skip
                  refine mx_J.step (sn_130 102) (fun _ _ => rfl) ?_
                  exact mx_J.ret (sn_130 103) (fun _ _ => rfl) (hP y20 Z22 h22 hx22 hG22 (fr_tr (M := [(51, (-1))]) fr_rf (hf22) (M1 := []) rfl rfl) (by omega))
                · skip
                  refine mx_J.step (sn_130 74) (fun _ _ => rfl) ?_
                  refine JgetR (g := 10) (b := 34) hx22 (show mx_Sn _ _ 75 (mx_getf 11 10 78) from sn_130 75) a1 s1 rfl rfl (hG22.prr 1 10 rfl) ?_
                  refine mx_J.step (sn_130 78) (fun _ _ => rfl) ?_
                  refine JaaldR (i := 3) (b := 50) hx22 (show mx_Sn _ _ 79 (mx_aald 80) from sn_130 79) a34 s34 (by omega) (show Z22 34 3 = 50 by have hq := GI_ex hG22 34 3; replace hq : ((0 : Int) ≤ 3 → (3 : Int) ≤ 3 → (Z22 34 3) = 44 + 2 * 3) := hq; omega) ?_
                  refine mx_J.step (sn_130 80) (fun _ _ => rfl) ?_
                  refine mx_J.step (sn_130 82) (fun _ _ => rfl) ?_
                  refine JgetR (g := 5) (b := 7) hx22 (show mx_Sn _ _ 83 (mx_getf 11 5 86) from sn_130 83) a1 s1 rfl rfl (hG22.prr 1 5 rfl) ?_
                  refine mx_J.step (sn_130 86) (fun _ _ => rfl) ?_
                  refine mx_J.step (sn_130 87) (fun _ _ => rfl) ?_
                  have eq27 : Z22 9 (x1 * 18 + w21_4) = Z 9 (x1 * 18 + w21_4) := (hf22 9 (x1 * 18 + w21_4) rfl)
                  have b28 : 0 ≤ Z 9 (x1 * 18 + w21_4) ∧ Z 9 (x1 * 18 + w21_4) ≤ 18 := hG.pr 9 (x1 * 18 + w21_4)
                  have eq29 : Z22 10 x1 = Z 10 x1 := (hf22 10 x1 rfl)
                  have b30 : 0 ≤ Z 10 x1 ∧ Z 10 x1 ≤ 18 := hG.pr 10 x1
                  have eq31 : Z22 7 5 = Z 7 5 := (hf22 7 5 rfl)
                  have b32 : 0 ≤ Z 7 5 ∧ Z 7 5 ≤ 385 := hG.pr 7 5
                  obtain ⟨z26, hc26, b26⟩ := ct_6_7 (d := d + 0) (l := l) (D := D) (b0 := b0) (ad := ad) (Hb := Hb) (tau := tau) hx22 hG22 (show (-2147483648) ≤ x1 ∧ x1 ≤ 2147483647 by omega) (show (-2147483648) ≤ w21_4 ∧ w21_4 ≤ 2147483647 by omega)
                  try rw [eq27] at b26
                  try rw [eq29] at b26
                  try rw [eq31] at b26
                  refine Jcv hx22 (show mx_Sn _ _ 89 (mx_callv 6 3 0 92) from sn_130 89) a7 s7 hc26 rfl rfl rfl ?_
                  refine Ji2l (show mx_Sn _ _ 92 (mx_i2l 93) from sn_130 92) (by omega) ?_
                  obtain ⟨Z33, h33, hc33, hx33, hG33, hf33⟩ := ct_84_50 (d := d + 1) (l := l) (D := D) (b0 := b0) (ad := ad) (Hb := Hb) (tau := tau) hx22 hG22 (show (-2147483648) ≤ w21_4 ∧ w21_4 ≤ 2147483647 by omega) (show (-9223372036854775808) ≤ z26 ∧ z26 ≤ 9223372036854775807 by omega)
                  refine Jcv0 hx22 (show mx_Sn _ _ 93 (mx_callv 84 3 10 96) from sn_130 93) a50 s50 hc33 rfl rfl rfl ?_
                  refine Jiinc (z := w21_4) (cz := 1) (ls2 := [some (.ref 1), some (xI 3), some (xI x1), some (xI y20), some (xI (w21_4 + 1))]) (show mx_Sn _ _ 96 (mx_iinc 4 1 99) from sn_130 96) rfl rfl rfl rfl ?_
                  refine mx_J.step (sn_130 99) (fun _ _ => rfl) ?_
                  exact ih21 (w21_4 + 1) Z33 h33 (by omega) (by omega) hx33 hG33 (fr_tr (M := [(51, (-1))]) (fr_tr (M := [(51, (-1))]) fr_rf (hf22) (M1 := []) rfl rfl) (hf33) rfl rfl)
            exact c68 (Int.toNat (18 - 0) + 1) 0 Z h (by omega) (by omega) hx hG fr_rf
          · skip
            exact c41 
      · skip
        refine JcI (z := (-6)) (show mx_Sn _ _ 23 (mx_const (.int (-6)) 25) from sn_130 23) rfl ?_
        exact mx_J.ret (sn_130 25) (fun _ _ => rfl) (hP (-6) Z h hx hG fr_rf (by omega))
    · skip
      exfalso; omega
theorem ct_130_1_i3 {l : Launch} {D : va_G} {b0 : Nat} {ad : Nat → Nat} {Hb : Heap} {tau : Nat → Int64} {d n s : Nat} {S : Nat → xS} {Z : xZ} {h : mx_H} (hx : XH n s S Z h) (hG : GI n S Z)  {x1 : Int} (p1 : (-2147483648) ≤ x1 ∧ x1 ≤ 2147483647) : ∃ (z : Int) (Z' : xZ) (h' : mx_H), mx_Ca (tB l D b0 ad Hb tau) (d + 3) 130 [.ref 1, xI 3, xI x1] h (some (xI z), h') ∧ XH n s S Z' h' ∧ GI n S Z' ∧ fr' [(51, (-1))] Z Z' ∧ ((-6) ≤ z ∧ z ≤ 18) := by
  obtain ⟨r, hca, z, Z', h', e, q⟩ := Jmt (B := tB l D b0 ad Hb tau) (M := mt_130) (mi := 130) (as := [.ref 1, xI 3, xI x1]) (d := d + 2) (ls := [some (.ref 1), some (xI 3), some (xI x1), none, none]) rfl rfl rfl rfl rfl rfl (cw_130_1_i3 (l := l) (D := D) (b0 := b0) (ad := ad) (Hb := Hb) (tau := tau) (d := d) (Post := fun r => ∃ (z : Int) (Z' : xZ) (h' : mx_H), r = (some (xI z), h') ∧ XH n s S Z' h' ∧ GI n S Z' ∧ fr' [(51, (-1))] Z Z' ∧ ((-6) ≤ z ∧ z ≤ 18)) hx hG p1 (fun z Z' h' q1 q2 q3 q4 => ⟨z, Z', h', rfl, q1, q2, q3, q4⟩))
  subst e; exact ⟨z, Z', h', hca, q⟩
set_option maxRecDepth 100000 in
theorem cw_130_1_n {l : Launch} {D : va_G} {b0 : Nat} {ad : Nat → Nat} {Hb : Heap} {tau : Nat → Int64} {d n s : Nat} {S : Nat → xS} {Z : xZ} {h : mx_H} {Post : mx_R → Prop} (hx : XH n s S Z h) (hG : GI n S Z)  {x0 x1 : Int} (p0 : (-2147483648) ≤ x0 ∧ x0 ≤ (-1)) (p1 : (-2147483648) ≤ x1 ∧ x1 ≤ 2147483647) (hP : ∀ z : Int, (-2) ≤ z ∧ z ≤ (-2) → Post (some (xI z), h)) : mx_J (tB l D b0 ad Hb tau) mt_130 (d + 1) 0 [some (.ref 1), some (xI x0), some (xI x1), none, none] [] h Post := by
    have a1 : 1 < n := lt83 (GI_n hG) rfl
    have s1 : S 1 = .inl (11, [2, 0, 0, 0, 2, 2, 2, 2, 2, 2, 2, 2, 2, 2, 2, 2, 2]) := GI_s hG 1 rfl
    refine mx_J.step (sn_130 0) (fun _ _ => rfl) ?_
    refine mx_J.step (sn_130 1) (fun _ _ => rfl) ?_
    obtain ⟨z1, hc1, b1⟩ := ct_144_1_n (d := d + 0) (l := l) (D := D) (b0 := b0) (ad := ad) (Hb := Hb) (tau := tau) hx hG (show (-2147483648) ≤ x0 ∧ x0 ≤ (-1) by omega)
    refine Jcv hx (show mx_Sn _ _ 2 (mx_callv 144 2 11 5) from sn_130 2) a1 s1 hc1 rfl rfl rfl ?_
    refine Jif_eq (show mx_Sn _ _ 5 (mx_if_eq 11 8) from sn_130 5) (by omega) (fun q2 => ?_) (fun q2 => ?_)
    · skip
      exfalso; omega
    · skip
      refine JcI (z := (-2)) (show mx_Sn _ _ 8 (mx_const (.int (-2)) 10) from sn_130 8) rfl ?_
      exact mx_J.ret (sn_130 10) (fun _ _ => rfl) (hP (-2) (by omega))
theorem ct_130_1_n {l : Launch} {D : va_G} {b0 : Nat} {ad : Nat → Nat} {Hb : Heap} {tau : Nat → Int64} {d n s : Nat} {S : Nat → xS} {Z : xZ} {h : mx_H} (hx : XH n s S Z h) (hG : GI n S Z)  {x0 x1 : Int} (p0 : (-2147483648) ≤ x0 ∧ x0 ≤ (-1)) (p1 : (-2147483648) ≤ x1 ∧ x1 ≤ 2147483647) : ∃ z : Int, mx_Ca (tB l D b0 ad Hb tau) (d + 2) 130 [.ref 1, xI x0, xI x1] h (some (xI z), h) ∧ ((-2) ≤ z ∧ z ≤ (-2)) := by
  obtain ⟨r, hca, z, e, hp⟩ := Jmt (B := tB l D b0 ad Hb tau) (M := mt_130) (mi := 130) (as := [.ref 1, xI x0, xI x1]) (d := d + 1) (ls := [some (.ref 1), some (xI x0), some (xI x1), none, none]) rfl rfl rfl rfl rfl rfl (cw_130_1_n (l := l) (D := D) (b0 := b0) (ad := ad) (Hb := Hb) (tau := tau) (d := d) (Post := fun r => ∃ z : Int, r = (some (xI z), h) ∧ ((-2) ≤ z ∧ z ≤ (-2))) hx hG p0 p1 (fun z hz => ⟨z, rfl, hz⟩))
  subst e; exact ⟨z, hca, hp⟩
set_option maxRecDepth 100000 in
theorem cw_130_1_p {l : Launch} {D : va_G} {b0 : Nat} {ad : Nat → Nat} {Hb : Heap} {tau : Nat → Int64} {d n s : Nat} {S : Nat → xS} {Z : xZ} {h : mx_H} {Post : mx_R → Prop} (hx : XH n s S Z h) (hG : GI n S Z)  {x0 x1 : Int} (p0 : 4 ≤ x0 ∧ x0 ≤ 2147483647) (p1 : (-2147483648) ≤ x1 ∧ x1 ≤ 2147483647) (hP : ∀ z : Int, (-2) ≤ z ∧ z ≤ (-2) → Post (some (xI z), h)) : mx_J (tB l D b0 ad Hb tau) mt_130 (d + 1) 0 [some (.ref 1), some (xI x0), some (xI x1), none, none] [] h Post := by
    have a1 : 1 < n := lt83 (GI_n hG) rfl
    have s1 : S 1 = .inl (11, [2, 0, 0, 0, 2, 2, 2, 2, 2, 2, 2, 2, 2, 2, 2, 2, 2]) := GI_s hG 1 rfl
    refine mx_J.step (sn_130 0) (fun _ _ => rfl) ?_
    refine mx_J.step (sn_130 1) (fun _ _ => rfl) ?_
    obtain ⟨z1, hc1, b1⟩ := ct_144_1_p (d := d + 0) (l := l) (D := D) (b0 := b0) (ad := ad) (Hb := Hb) (tau := tau) hx hG (show 4 ≤ x0 ∧ x0 ≤ 2147483647 by omega)
    refine Jcv hx (show mx_Sn _ _ 2 (mx_callv 144 2 11 5) from sn_130 2) a1 s1 hc1 rfl rfl rfl ?_
    refine Jif_eq (show mx_Sn _ _ 5 (mx_if_eq 11 8) from sn_130 5) (by omega) (fun q2 => ?_) (fun q2 => ?_)
    · skip
      exfalso; omega
    · skip
      refine JcI (z := (-2)) (show mx_Sn _ _ 8 (mx_const (.int (-2)) 10) from sn_130 8) rfl ?_
      exact mx_J.ret (sn_130 10) (fun _ _ => rfl) (hP (-2) (by omega))
theorem ct_130_1_p {l : Launch} {D : va_G} {b0 : Nat} {ad : Nat → Nat} {Hb : Heap} {tau : Nat → Int64} {d n s : Nat} {S : Nat → xS} {Z : xZ} {h : mx_H} (hx : XH n s S Z h) (hG : GI n S Z)  {x0 x1 : Int} (p0 : 4 ≤ x0 ∧ x0 ≤ 2147483647) (p1 : (-2147483648) ≤ x1 ∧ x1 ≤ 2147483647) : ∃ z : Int, mx_Ca (tB l D b0 ad Hb tau) (d + 2) 130 [.ref 1, xI x0, xI x1] h (some (xI z), h) ∧ ((-2) ≤ z ∧ z ≤ (-2)) := by
  obtain ⟨r, hca, z, e, hp⟩ := Jmt (B := tB l D b0 ad Hb tau) (M := mt_130) (mi := 130) (as := [.ref 1, xI x0, xI x1]) (d := d + 1) (ls := [some (.ref 1), some (xI x0), some (xI x1), none, none]) rfl rfl rfl rfl rfl rfl (cw_130_1_p (l := l) (D := D) (b0 := b0) (ad := ad) (Hb := Hb) (tau := tau) (d := d) (Post := fun r => ∃ z : Int, r = (some (xI z), h) ∧ ((-2) ≤ z ∧ z ≤ (-2))) hx hG p0 p1 (fun z hz => ⟨z, rfl, hz⟩))
  subst e; exact ⟨z, hca, hp⟩
theorem ct_130_1 {l : Launch} {D : va_G} {b0 : Nat} {ad : Nat → Nat} {Hb : Heap} {tau : Nat → Int64} {d n s : Nat} {S : Nat → xS} {Z : xZ} {h : mx_H} (hx : XH n s S Z h) (hG : GI n S Z) {x0 x1 : Int} (p0 : (-2147483648) ≤ x0 ∧ x0 ≤ 2147483647) (p1 : (-2147483648) ≤ x1 ∧ x1 ≤ 2147483647) : ∃ (z : Int) (Z' : xZ) (h' : mx_H), mx_Ca (tB l D b0 ad Hb tau) (d + 3) 130 [.ref 1, xI x0, xI x1] h (some (xI z), h') ∧ XH n s S Z' h' ∧ GI n S Z' ∧ fr' [(45, (-1)), (47, (-1)), (49, (-1)), (51, (-1))] Z Z' ∧ ((-6) ≤ z ∧ z ≤ 18) := by
  have hc : x0 = 0 ∨ x0 = 1 ∨ x0 = 2 ∨ x0 = 3 ∨ ((-2147483648) ≤ x0 ∧ x0 ≤ (-1)) ∨ (4 ≤ x0 ∧ x0 ≤ 2147483647) := by omega
  rcases hc with hc | hc | hc | hc | hc | hc
  · subst hc
    obtain ⟨z, Z', h', hca, q1, q2, q3, b⟩ := ct_130_1_i0 (d := d + 0) (l := l) (D := D) (b0 := b0) (ad := ad) (Hb := Hb) (tau := tau) hx hG p1
    exact ⟨z, Z', h', hca, q1, q2, fr_tr (M1 := []) fr_rf q3 rfl rfl, by omega⟩
  · subst hc
    obtain ⟨z, Z', h', hca, q1, q2, q3, b⟩ := ct_130_1_i1 (d := d + 0) (l := l) (D := D) (b0 := b0) (ad := ad) (Hb := Hb) (tau := tau) hx hG p1
    exact ⟨z, Z', h', hca, q1, q2, fr_tr (M1 := []) fr_rf q3 rfl rfl, by omega⟩
  · subst hc
    obtain ⟨z, Z', h', hca, q1, q2, q3, b⟩ := ct_130_1_i2 (d := d + 0) (l := l) (D := D) (b0 := b0) (ad := ad) (Hb := Hb) (tau := tau) hx hG p1
    exact ⟨z, Z', h', hca, q1, q2, fr_tr (M1 := []) fr_rf q3 rfl rfl, by omega⟩
  · subst hc
    obtain ⟨z, Z', h', hca, q1, q2, q3, b⟩ := ct_130_1_i3 (d := d + 0) (l := l) (D := D) (b0 := b0) (ad := ad) (Hb := Hb) (tau := tau) hx hG p1
    exact ⟨z, Z', h', hca, q1, q2, fr_tr (M1 := []) fr_rf q3 rfl rfl, by omega⟩
  · skip
    obtain ⟨z, hca, b⟩ := ct_130_1_n (d := d + 1) (l := l) (D := D) (b0 := b0) (ad := ad) (Hb := Hb) (tau := tau) hx hG hc p1
    exact ⟨z, Z, h, hca, hx, hG, fr_rf, by omega⟩
  · skip
    obtain ⟨z, hca, b⟩ := ct_130_1_p (d := d + 1) (l := l) (D := D) (b0 := b0) (ad := ad) (Hb := Hb) (tau := tau) hx hG hc p1
    exact ⟨z, Z, h, hca, hx, hG, fr_rf, by omega⟩
set_option maxRecDepth 100000 in
theorem cw_287_ {l : Launch} {D : va_G} {b0 : Nat} {ad : Nat → Nat} {Hb : Heap} {tau : Nat → Int64} {d n s : Nat} {S : Nat → xS} {Z : xZ} {h : mx_H} {Post : mx_R → Prop} (hx : XH n s S Z h) (hG : GI n S Z)  {x0 x1 : Int} (p0 : 0 ≤ x0 ∧ x0 ≤ 100) (p1 : 0 ≤ x1 ∧ x1 ≤ 100) (k0 : x0 < x1) (hP : Post (none, h)) : mx_J (tB l D b0 ad Hb tau) mt_287 (d + 1) 0 [some (xI x0), some (xI x1)] [] h Post := by
    refine mx_J.step (sn_287 0) (fun _ _ => rfl) ?_
    refine mx_J.step (sn_287 1) (fun _ _ => rfl) ?_
    refine Jsio (show mx_Sn _ _ 2 (mx_sio 9) from sn_287 2) (by omega) (by omega) ⟨_, rfl⟩ rfl ?_
    exact mx_J.ret (sn_287 9) (fun _ _ => rfl) hP
theorem ct_287_ {l : Launch} {D : va_G} {b0 : Nat} {ad : Nat → Nat} {Hb : Heap} {tau : Nat → Int64} {d n s : Nat} {S : Nat → xS} {Z : xZ} {h : mx_H} (hx : XH n s S Z h) (hG : GI n S Z)  {x0 x1 : Int} (p0 : 0 ≤ x0 ∧ x0 ≤ 100) (p1 : 0 ≤ x1 ∧ x1 ≤ 100) (k0 : x0 < x1) : mx_Ca (tB l D b0 ad Hb tau) (d + 2) 287 [xI x0, xI x1] h (none, h) := by
  obtain ⟨r, hca, e⟩ := Jmt (B := tB l D b0 ad Hb tau) (M := mt_287) (mi := 287) (as := [xI x0, xI x1]) (d := d + 1) (ls := [some (xI x0), some (xI x1)]) rfl rfl rfl rfl rfl rfl (cw_287_ (l := l) (D := D) (b0 := b0) (ad := ad) (Hb := Hb) (tau := tau) (d := d) (Post := fun r => r = (none, h)) hx hG p0 p1 k0 rfl)
  subst e; exact hca
set_option maxRecDepth 100000 in
theorem cw_290_4096 {l : Launch} {D : va_G} {b0 : Nat} {ad : Nat → Nat} {Hb : Heap} {tau : Nat → Int64} {d n s : Nat} {S : Nat → xS} {Z : xZ} {h : mx_H} {Post : mx_R → Prop} (hx : XH n s S Z h) (hG : GI n S Z)   (hP : ∀ z : Int, 0 ≤ z ∧ z ≤ 0 → Post (some (xI z), h)) : mx_J (tB l D b0 ad Hb tau) mt_290 (d + 0) 0 [some (.ref 4096)] [] h Post := by
    refine JcI (z := 1) (show mx_Sn _ _ 0 (mx_const (.int 1) 3) from sn_290 0) rfl ?_
    refine Jif_eq (show mx_Sn _ _ 3 (mx_if_eq 13 6) from sn_290 3) (by omega) (fun q1 => ?_) (fun q1 => ?_)
    · skip
      exfalso; omega
    · skip
      refine mx_J.step (sn_290 6) (fun _ _ => rfl) ?_
      refine Jscod (L := sb_0) (show mx_Sn _ _ 7 (mx_scod 10) from sn_290 7) rfl ?_
      refine mx_J.step (sn_290 10) (fun _ _ => rfl) ?_
      exact mx_J.ret (show mx_Sn _ _ 14 (mx_nret .byte) from sn_290 14) (fun _ _ => nr_ok_byte (by omega)) (hP 0 (by omega))
theorem ct_290_4096 {l : Launch} {D : va_G} {b0 : Nat} {ad : Nat → Nat} {Hb : Heap} {tau : Nat → Int64} {d n s : Nat} {S : Nat → xS} {Z : xZ} {h : mx_H} (hx : XH n s S Z h) (hG : GI n S Z)   : ∃ z : Int, mx_Ca (tB l D b0 ad Hb tau) (d + 1) 290 [.ref 4096] h (some (xI z), h) ∧ (0 ≤ z ∧ z ≤ 0) := by
  obtain ⟨r, hca, z, e, hp⟩ := Jmt (B := tB l D b0 ad Hb tau) (M := mt_290) (mi := 290) (as := [.ref 4096]) (d := d + 0) (ls := [some (.ref 4096)]) rfl rfl rfl rfl rfl rfl (cw_290_4096 (l := l) (D := D) (b0 := b0) (ad := ad) (Hb := Hb) (tau := tau) (d := d) (Post := fun r => ∃ z : Int, r = (some (xI z), h) ∧ (0 ≤ z ∧ z ≤ 0)) hx hG  (fun z hz => ⟨z, rfl, hz⟩))
  subst e; exact ⟨z, hca, hp⟩
set_option maxRecDepth 100000 in
theorem cw_289_4096 {l : Launch} {D : va_G} {b0 : Nat} {ad : Nat → Nat} {Hb : Heap} {tau : Nat → Int64} {d n s : Nat} {S : Nat → xS} {Z : xZ} {h : mx_H} {Post : mx_R → Prop} (hx : XH n s S Z h) (hG : GI n S Z)   (hP : ∀ z : Int, 1 ≤ z ∧ z ≤ 1 → Post (some (xI z), h)) : mx_J (tB l D b0 ad Hb tau) mt_289 (d + 0) 0 [some (.ref 4096)] [] h Post := by
    refine JcI (z := 1) (show mx_Sn _ _ 0 (mx_const (.int 1) 3) from sn_289 0) rfl ?_
    refine Jif_eq (show mx_Sn _ _ 3 (mx_if_eq 17 6) from sn_289 3) (by omega) (fun q1 => ?_) (fun q1 => ?_)
    · skip
      exfalso; omega
    · skip
      refine mx_J.step (sn_289 6) (fun _ _ => rfl) ?_
      refine Jscod (L := sb_0) (show mx_Sn _ _ 7 (mx_scod 10) from sn_289 7) rfl ?_
      refine Jif_ne (show mx_Sn _ _ 10 (mx_if_ne 17 13) from sn_289 10) (by omega) (fun q2 => ?_) (fun q2 => ?_)
      · skip
        exfalso; omega
      · skip
        refine JcI (z := 1) (show mx_Sn _ _ 13 (mx_const (.int 1) 14) from sn_289 13) rfl ?_
        refine mx_J.step (sn_289 14) (fun _ _ => rfl) ?_
        exact mx_J.ret (show mx_Sn _ _ 18 (mx_zret) from sn_289 18) (fun _ _ => zr_ok (by omega)) (hP 1 (by omega))
theorem ct_289_4096 {l : Launch} {D : va_G} {b0 : Nat} {ad : Nat → Nat} {Hb : Heap} {tau : Nat → Int64} {d n s : Nat} {S : Nat → xS} {Z : xZ} {h : mx_H} (hx : XH n s S Z h) (hG : GI n S Z)   : ∃ z : Int, mx_Ca (tB l D b0 ad Hb tau) (d + 1) 289 [.ref 4096] h (some (xI z), h) ∧ (1 ≤ z ∧ z ≤ 1) := by
  obtain ⟨r, hca, z, e, hp⟩ := Jmt (B := tB l D b0 ad Hb tau) (M := mt_289) (mi := 289) (as := [.ref 4096]) (d := d + 0) (ls := [some (.ref 4096)]) rfl rfl rfl rfl rfl rfl (cw_289_4096 (l := l) (D := D) (b0 := b0) (ad := ad) (Hb := Hb) (tau := tau) (d := d) (Post := fun r => ∃ z : Int, r = (some (xI z), h) ∧ (1 ≤ z ∧ z ≤ 1)) hx hG  (fun z hz => ⟨z, rfl, hz⟩))
  subst e; exact ⟨z, hca, hp⟩
set_option maxRecDepth 100000 in
theorem cw_291_4096 {l : Launch} {D : va_G} {b0 : Nat} {ad : Nat → Nat} {Hb : Heap} {tau : Nat → Int64} {d n s : Nat} {S : Nat → xS} {Z : xZ} {h : mx_H} {Post : mx_R → Prop} (hx : XH n s S Z h) (hG : GI n S Z)   (hP : ∀ z : Int, 76 ≤ z ∧ z ≤ 76 → Post (some (xI z), h)) : mx_J (tB l D b0 ad Hb tau) mt_291 (d + 1) 0 [some (.ref 4096)] [] h Post := by
    refine mx_J.step (sn_291 0) (fun _ _ => rfl) ?_
    refine mx_J.step (sn_291 1) (fun _ _ => rfl) ?_
    refine Jsalen (L := sb_0) (z := 76) (show mx_Sn _ _ 4 (mx_salen 5) from sn_291 4) rfl rfl ?_
    refine mx_J.step (sn_291 5) (fun _ _ => rfl) ?_
    obtain ⟨z1, hc1, b1⟩ := ct_290_4096 (d := d + 0) (l := l) (D := D) (b0 := b0) (ad := ad) (Hb := Hb) (tau := tau) hx hG 
    refine Jck (show mx_Sn _ _ 6 (mx_callk 290 1 9) from sn_291 6) rfl hc1 rfl rfl rfl ?_
    refine Jishr0 (show mx_Sn _ _ 9 (mx_ishr 10) from sn_291 9) (by omega) ?_
    exact mx_J.ret (sn_291 10) (fun _ _ => rfl) (hP 76 (by omega))
theorem ct_291_4096 {l : Launch} {D : va_G} {b0 : Nat} {ad : Nat → Nat} {Hb : Heap} {tau : Nat → Int64} {d n s : Nat} {S : Nat → xS} {Z : xZ} {h : mx_H} (hx : XH n s S Z h) (hG : GI n S Z)   : ∃ z : Int, mx_Ca (tB l D b0 ad Hb tau) (d + 2) 291 [.ref 4096] h (some (xI z), h) ∧ (76 ≤ z ∧ z ≤ 76) := by
  obtain ⟨r, hca, z, e, hp⟩ := Jmt (B := tB l D b0 ad Hb tau) (M := mt_291) (mi := 291) (as := [.ref 4096]) (d := d + 1) (ls := [some (.ref 4096)]) rfl rfl rfl rfl rfl rfl (cw_291_4096 (l := l) (D := D) (b0 := b0) (ad := ad) (Hb := Hb) (tau := tau) (d := d) (Post := fun r => ∃ z : Int, r = (some (xI z), h) ∧ (76 ≤ z ∧ z ≤ 76)) hx hG  (fun z hz => ⟨z, rfl, hz⟩))
  subst e; exact ⟨z, hca, hp⟩
set_option maxRecDepth 100000 in
theorem cw_288_4097 {l : Launch} {D : va_G} {b0 : Nat} {ad : Nat → Nat} {Hb : Heap} {tau : Nat → Int64} {d n s : Nat} {S : Nat → xS} {Z : xZ} {h : mx_H} {Post : mx_R → Prop} (hx : XH n s S Z h) (hG : GI n S Z)  {x0 : Int} (p0 : 0 ≤ x0 ∧ x0 ≤ 75) (hP : ∀ z : Int, 32 ≤ z ∧ z ≤ 122 → Post (some (xI z), h)) : mx_J (tB l D b0 ad Hb tau) mt_288 (d + 2) 0 [some (.ref 4097), some (xI x0)] [] h Post := by
    refine mx_J.step (sn_288 0) (fun _ _ => rfl) ?_
    refine mx_J.step (sn_288 1) (fun _ _ => rfl) ?_
    refine Jsalen (L := sb_0) (z := 76) (show mx_Sn _ _ 2 (mx_salen 3) from sn_288 2) rfl rfl ?_
    have hc1 := ct_287_ (d := d + 0) (l := l) (D := D) (b0 := b0) (ad := ad) (Hb := Hb) (tau := tau) hx hG (show 0 ≤ x0 ∧ x0 ≤ 100 by omega) (show 0 ≤ 76 ∧ 76 ≤ 100 by omega) (show x0 < 76 by omega)
    refine Jcs0 (show mx_Sn _ _ 3 (mx_calls 287 2 6) from sn_288 3) hc1 rfl rfl rfl ?_
    refine mx_J.step (sn_288 6) (fun _ _ => rfl) ?_
    refine mx_J.step (sn_288 7) (fun _ _ => rfl) ?_
    refine Jsb_0 (show mx_Sn _ _ 8 (mx_sbald 9) from sn_288 8) rfl (by omega) (fun y2 hy2 => ?_)
    refine JcI (z := 255) (show mx_Sn _ _ 9 (mx_const (.int 255) 12) from sn_288 9) rfl ?_
    refine JiandM (q := 256) 8 (show mx_Sn _ _ 12 (mx_iand 13) from sn_288 12) rfl rfl rfl ?_
    refine Ji2c (show mx_Sn _ _ 13 (mx_i2c 14) from sn_288 13) (by omega) ?_
    exact mx_J.ret (show mx_Sn _ _ 14 (mx_nret .char) from sn_288 14) (fun _ _ => nr_ok_char (by omega)) (hP (y2 % 256) (by omega))
theorem ct_288_4097 {l : Launch} {D : va_G} {b0 : Nat} {ad : Nat → Nat} {Hb : Heap} {tau : Nat → Int64} {d n s : Nat} {S : Nat → xS} {Z : xZ} {h : mx_H} (hx : XH n s S Z h) (hG : GI n S Z)  {x0 : Int} (p0 : 0 ≤ x0 ∧ x0 ≤ 75) : ∃ z : Int, mx_Ca (tB l D b0 ad Hb tau) (d + 3) 288 [.ref 4097, xI x0] h (some (xI z), h) ∧ (32 ≤ z ∧ z ≤ 122) := by
  obtain ⟨r, hca, z, e, hp⟩ := Jmt (B := tB l D b0 ad Hb tau) (M := mt_288) (mi := 288) (as := [.ref 4097, xI x0]) (d := d + 2) (ls := [some (.ref 4097), some (xI x0)]) rfl rfl rfl rfl rfl rfl (cw_288_4097 (l := l) (D := D) (b0 := b0) (ad := ad) (Hb := Hb) (tau := tau) (d := d) (Post := fun r => ∃ z : Int, r = (some (xI z), h) ∧ (32 ≤ z ∧ z ≤ 122)) hx hG p0 (fun z hz => ⟨z, rfl, hz⟩))
  subst e; exact ⟨z, hca, hp⟩
set_option maxRecDepth 100000 in
theorem cw_292_4096 {l : Launch} {D : va_G} {b0 : Nat} {ad : Nat → Nat} {Hb : Heap} {tau : Nat → Int64} {d n s : Nat} {S : Nat → xS} {Z : xZ} {h : mx_H} {Post : mx_R → Prop} (hx : XH n s S Z h) (hG : GI n S Z)  {x0 : Int} (p0 : 0 ≤ x0 ∧ x0 ≤ 75) (hP : ∀ z : Int, 32 ≤ z ∧ z ≤ 122 → Post (some (xI z), h)) : mx_J (tB l D b0 ad Hb tau) mt_292 (d + 3) 0 [some (.ref 4096), some (xI x0)] [] h Post := by
    refine mx_J.step (sn_292 0) (fun _ _ => rfl) ?_
    obtain ⟨z1, hc1, b1⟩ := ct_289_4096 (d := d + 2) (l := l) (D := D) (b0 := b0) (ad := ad) (Hb := Hb) (tau := tau) hx hG 
    refine Jck (show mx_Sn _ _ 1 (mx_callk 289 1 4) from sn_292 1) rfl hc1 rfl rfl rfl ?_
    refine Jif_eq (show mx_Sn _ _ 4 (mx_if_eq 16 7) from sn_292 4) (by omega) (fun q2 => ?_) (fun q2 => ?_)
    · skip
      exfalso; omega
    · skip
      refine mx_J.step (sn_292 7) (fun _ _ => rfl) ?_
      refine mx_J.step (sn_292 8) (fun _ _ => rfl) ?_
      refine mx_J.step (sn_292 11) (fun _ _ => rfl) ?_
      obtain ⟨z3, hc3, b3⟩ := ct_288_4097 (d := d + 0) (l := l) (D := D) (b0 := b0) (ad := ad) (Hb := Hb) (tau := tau) hx hG (show 0 ≤ x0 ∧ x0 ≤ 75 by omega)
      refine Jcs (show mx_Sn _ _ 12 (mx_calls 288 2 15) from sn_292 12) hc3 rfl rfl rfl ?_
      exact mx_J.ret (show mx_Sn _ _ 15 (mx_nret .char) from sn_292 15) (fun _ _ => nr_ok_char (by omega)) (hP z3 (by omega))
theorem ct_292_4096 {l : Launch} {D : va_G} {b0 : Nat} {ad : Nat → Nat} {Hb : Heap} {tau : Nat → Int64} {d n s : Nat} {S : Nat → xS} {Z : xZ} {h : mx_H} (hx : XH n s S Z h) (hG : GI n S Z)  {x0 : Int} (p0 : 0 ≤ x0 ∧ x0 ≤ 75) : ∃ z : Int, mx_Ca (tB l D b0 ad Hb tau) (d + 4) 292 [.ref 4096, xI x0] h (some (xI z), h) ∧ (32 ≤ z ∧ z ≤ 122) := by
  obtain ⟨r, hca, z, e, hp⟩ := Jmt (B := tB l D b0 ad Hb tau) (M := mt_292) (mi := 292) (as := [.ref 4096, xI x0]) (d := d + 3) (ls := [some (.ref 4096), some (xI x0)]) rfl rfl rfl rfl rfl rfl (cw_292_4096 (l := l) (D := D) (b0 := b0) (ad := ad) (Hb := Hb) (tau := tau) (d := d) (Post := fun r => ∃ z : Int, r = (some (xI z), h) ∧ (32 ≤ z ∧ z ≤ 122)) hx hG p0 (fun z hz => ⟨z, rfl, hz⟩))
  subst e; exact ⟨z, hca, hp⟩
set_option maxRecDepth 100000 in
theorem cw_290_4098 {l : Launch} {D : va_G} {b0 : Nat} {ad : Nat → Nat} {Hb : Heap} {tau : Nat → Int64} {d n s : Nat} {S : Nat → xS} {Z : xZ} {h : mx_H} {Post : mx_R → Prop} (hx : XH n s S Z h) (hG : GI n S Z)   (hP : ∀ z : Int, 0 ≤ z ∧ z ≤ 0 → Post (some (xI z), h)) : mx_J (tB l D b0 ad Hb tau) mt_290 (d + 0) 0 [some (.ref 4098)] [] h Post := by
    refine JcI (z := 1) (show mx_Sn _ _ 0 (mx_const (.int 1) 3) from sn_290 0) rfl ?_
    refine Jif_eq (show mx_Sn _ _ 3 (mx_if_eq 13 6) from sn_290 3) (by omega) (fun q1 => ?_) (fun q1 => ?_)
    · skip
      exfalso; omega
    · skip
      refine mx_J.step (sn_290 6) (fun _ _ => rfl) ?_
      refine Jscod (L := sb_1) (show mx_Sn _ _ 7 (mx_scod 10) from sn_290 7) rfl ?_
      refine mx_J.step (sn_290 10) (fun _ _ => rfl) ?_
      exact mx_J.ret (show mx_Sn _ _ 14 (mx_nret .byte) from sn_290 14) (fun _ _ => nr_ok_byte (by omega)) (hP 0 (by omega))
theorem ct_290_4098 {l : Launch} {D : va_G} {b0 : Nat} {ad : Nat → Nat} {Hb : Heap} {tau : Nat → Int64} {d n s : Nat} {S : Nat → xS} {Z : xZ} {h : mx_H} (hx : XH n s S Z h) (hG : GI n S Z)   : ∃ z : Int, mx_Ca (tB l D b0 ad Hb tau) (d + 1) 290 [.ref 4098] h (some (xI z), h) ∧ (0 ≤ z ∧ z ≤ 0) := by
  obtain ⟨r, hca, z, e, hp⟩ := Jmt (B := tB l D b0 ad Hb tau) (M := mt_290) (mi := 290) (as := [.ref 4098]) (d := d + 0) (ls := [some (.ref 4098)]) rfl rfl rfl rfl rfl rfl (cw_290_4098 (l := l) (D := D) (b0 := b0) (ad := ad) (Hb := Hb) (tau := tau) (d := d) (Post := fun r => ∃ z : Int, r = (some (xI z), h) ∧ (0 ≤ z ∧ z ≤ 0)) hx hG  (fun z hz => ⟨z, rfl, hz⟩))
  subst e; exact ⟨z, hca, hp⟩
set_option maxRecDepth 100000 in
theorem cw_289_4098 {l : Launch} {D : va_G} {b0 : Nat} {ad : Nat → Nat} {Hb : Heap} {tau : Nat → Int64} {d n s : Nat} {S : Nat → xS} {Z : xZ} {h : mx_H} {Post : mx_R → Prop} (hx : XH n s S Z h) (hG : GI n S Z)   (hP : ∀ z : Int, 1 ≤ z ∧ z ≤ 1 → Post (some (xI z), h)) : mx_J (tB l D b0 ad Hb tau) mt_289 (d + 0) 0 [some (.ref 4098)] [] h Post := by
    refine JcI (z := 1) (show mx_Sn _ _ 0 (mx_const (.int 1) 3) from sn_289 0) rfl ?_
    refine Jif_eq (show mx_Sn _ _ 3 (mx_if_eq 17 6) from sn_289 3) (by omega) (fun q1 => ?_) (fun q1 => ?_)
    · skip
      exfalso; omega
    · skip
      refine mx_J.step (sn_289 6) (fun _ _ => rfl) ?_
      refine Jscod (L := sb_1) (show mx_Sn _ _ 7 (mx_scod 10) from sn_289 7) rfl ?_
      refine Jif_ne (show mx_Sn _ _ 10 (mx_if_ne 17 13) from sn_289 10) (by omega) (fun q2 => ?_) (fun q2 => ?_)
      · skip
        exfalso; omega
      · skip
        refine JcI (z := 1) (show mx_Sn _ _ 13 (mx_const (.int 1) 14) from sn_289 13) rfl ?_
        refine mx_J.step (sn_289 14) (fun _ _ => rfl) ?_
        exact mx_J.ret (show mx_Sn _ _ 18 (mx_zret) from sn_289 18) (fun _ _ => zr_ok (by omega)) (hP 1 (by omega))
theorem ct_289_4098 {l : Launch} {D : va_G} {b0 : Nat} {ad : Nat → Nat} {Hb : Heap} {tau : Nat → Int64} {d n s : Nat} {S : Nat → xS} {Z : xZ} {h : mx_H} (hx : XH n s S Z h) (hG : GI n S Z)   : ∃ z : Int, mx_Ca (tB l D b0 ad Hb tau) (d + 1) 289 [.ref 4098] h (some (xI z), h) ∧ (1 ≤ z ∧ z ≤ 1) := by
  obtain ⟨r, hca, z, e, hp⟩ := Jmt (B := tB l D b0 ad Hb tau) (M := mt_289) (mi := 289) (as := [.ref 4098]) (d := d + 0) (ls := [some (.ref 4098)]) rfl rfl rfl rfl rfl rfl (cw_289_4098 (l := l) (D := D) (b0 := b0) (ad := ad) (Hb := Hb) (tau := tau) (d := d) (Post := fun r => ∃ z : Int, r = (some (xI z), h) ∧ (1 ≤ z ∧ z ≤ 1)) hx hG  (fun z hz => ⟨z, rfl, hz⟩))
  subst e; exact ⟨z, hca, hp⟩
set_option maxRecDepth 100000 in
theorem cw_291_4098 {l : Launch} {D : va_G} {b0 : Nat} {ad : Nat → Nat} {Hb : Heap} {tau : Nat → Int64} {d n s : Nat} {S : Nat → xS} {Z : xZ} {h : mx_H} {Post : mx_R → Prop} (hx : XH n s S Z h) (hG : GI n S Z)   (hP : ∀ z : Int, 12 ≤ z ∧ z ≤ 12 → Post (some (xI z), h)) : mx_J (tB l D b0 ad Hb tau) mt_291 (d + 1) 0 [some (.ref 4098)] [] h Post := by
    refine mx_J.step (sn_291 0) (fun _ _ => rfl) ?_
    refine mx_J.step (sn_291 1) (fun _ _ => rfl) ?_
    refine Jsalen (L := sb_1) (z := 12) (show mx_Sn _ _ 4 (mx_salen 5) from sn_291 4) rfl rfl ?_
    refine mx_J.step (sn_291 5) (fun _ _ => rfl) ?_
    obtain ⟨z1, hc1, b1⟩ := ct_290_4098 (d := d + 0) (l := l) (D := D) (b0 := b0) (ad := ad) (Hb := Hb) (tau := tau) hx hG 
    refine Jck (show mx_Sn _ _ 6 (mx_callk 290 1 9) from sn_291 6) rfl hc1 rfl rfl rfl ?_
    refine Jishr0 (show mx_Sn _ _ 9 (mx_ishr 10) from sn_291 9) (by omega) ?_
    exact mx_J.ret (sn_291 10) (fun _ _ => rfl) (hP 12 (by omega))
theorem ct_291_4098 {l : Launch} {D : va_G} {b0 : Nat} {ad : Nat → Nat} {Hb : Heap} {tau : Nat → Int64} {d n s : Nat} {S : Nat → xS} {Z : xZ} {h : mx_H} (hx : XH n s S Z h) (hG : GI n S Z)   : ∃ z : Int, mx_Ca (tB l D b0 ad Hb tau) (d + 2) 291 [.ref 4098] h (some (xI z), h) ∧ (12 ≤ z ∧ z ≤ 12) := by
  obtain ⟨r, hca, z, e, hp⟩ := Jmt (B := tB l D b0 ad Hb tau) (M := mt_291) (mi := 291) (as := [.ref 4098]) (d := d + 1) (ls := [some (.ref 4098)]) rfl rfl rfl rfl rfl rfl (cw_291_4098 (l := l) (D := D) (b0 := b0) (ad := ad) (Hb := Hb) (tau := tau) (d := d) (Post := fun r => ∃ z : Int, r = (some (xI z), h) ∧ (12 ≤ z ∧ z ≤ 12)) hx hG  (fun z hz => ⟨z, rfl, hz⟩))
  subst e; exact ⟨z, hca, hp⟩
set_option maxRecDepth 100000 in
theorem cw_288_4099 {l : Launch} {D : va_G} {b0 : Nat} {ad : Nat → Nat} {Hb : Heap} {tau : Nat → Int64} {d n s : Nat} {S : Nat → xS} {Z : xZ} {h : mx_H} {Post : mx_R → Prop} (hx : XH n s S Z h) (hG : GI n S Z)  {x0 : Int} (p0 : 0 ≤ x0 ∧ x0 ≤ 11) (hP : ∀ z : Int, 32 ≤ z ∧ z ≤ 122 → Post (some (xI z), h)) : mx_J (tB l D b0 ad Hb tau) mt_288 (d + 2) 0 [some (.ref 4099), some (xI x0)] [] h Post := by
    refine mx_J.step (sn_288 0) (fun _ _ => rfl) ?_
    refine mx_J.step (sn_288 1) (fun _ _ => rfl) ?_
    refine Jsalen (L := sb_1) (z := 12) (show mx_Sn _ _ 2 (mx_salen 3) from sn_288 2) rfl rfl ?_
    have hc1 := ct_287_ (d := d + 0) (l := l) (D := D) (b0 := b0) (ad := ad) (Hb := Hb) (tau := tau) hx hG (show 0 ≤ x0 ∧ x0 ≤ 100 by omega) (show 0 ≤ 12 ∧ 12 ≤ 100 by omega) (show x0 < 12 by omega)
    refine Jcs0 (show mx_Sn _ _ 3 (mx_calls 287 2 6) from sn_288 3) hc1 rfl rfl rfl ?_
    refine mx_J.step (sn_288 6) (fun _ _ => rfl) ?_
    refine mx_J.step (sn_288 7) (fun _ _ => rfl) ?_
    refine Jsb_1 (show mx_Sn _ _ 8 (mx_sbald 9) from sn_288 8) rfl (by omega) (fun y2 hy2 => ?_)
    refine JcI (z := 255) (show mx_Sn _ _ 9 (mx_const (.int 255) 12) from sn_288 9) rfl ?_
    refine JiandM (q := 256) 8 (show mx_Sn _ _ 12 (mx_iand 13) from sn_288 12) rfl rfl rfl ?_
    refine Ji2c (show mx_Sn _ _ 13 (mx_i2c 14) from sn_288 13) (by omega) ?_
    exact mx_J.ret (show mx_Sn _ _ 14 (mx_nret .char) from sn_288 14) (fun _ _ => nr_ok_char (by omega)) (hP (y2 % 256) (by omega))
theorem ct_288_4099 {l : Launch} {D : va_G} {b0 : Nat} {ad : Nat → Nat} {Hb : Heap} {tau : Nat → Int64} {d n s : Nat} {S : Nat → xS} {Z : xZ} {h : mx_H} (hx : XH n s S Z h) (hG : GI n S Z)  {x0 : Int} (p0 : 0 ≤ x0 ∧ x0 ≤ 11) : ∃ z : Int, mx_Ca (tB l D b0 ad Hb tau) (d + 3) 288 [.ref 4099, xI x0] h (some (xI z), h) ∧ (32 ≤ z ∧ z ≤ 122) := by
  obtain ⟨r, hca, z, e, hp⟩ := Jmt (B := tB l D b0 ad Hb tau) (M := mt_288) (mi := 288) (as := [.ref 4099, xI x0]) (d := d + 2) (ls := [some (.ref 4099), some (xI x0)]) rfl rfl rfl rfl rfl rfl (cw_288_4099 (l := l) (D := D) (b0 := b0) (ad := ad) (Hb := Hb) (tau := tau) (d := d) (Post := fun r => ∃ z : Int, r = (some (xI z), h) ∧ (32 ≤ z ∧ z ≤ 122)) hx hG p0 (fun z hz => ⟨z, rfl, hz⟩))
  subst e; exact ⟨z, hca, hp⟩
set_option maxRecDepth 100000 in
theorem cw_292_4098 {l : Launch} {D : va_G} {b0 : Nat} {ad : Nat → Nat} {Hb : Heap} {tau : Nat → Int64} {d n s : Nat} {S : Nat → xS} {Z : xZ} {h : mx_H} {Post : mx_R → Prop} (hx : XH n s S Z h) (hG : GI n S Z)  {x0 : Int} (p0 : 0 ≤ x0 ∧ x0 ≤ 11) (hP : ∀ z : Int, 32 ≤ z ∧ z ≤ 122 → Post (some (xI z), h)) : mx_J (tB l D b0 ad Hb tau) mt_292 (d + 3) 0 [some (.ref 4098), some (xI x0)] [] h Post := by
    refine mx_J.step (sn_292 0) (fun _ _ => rfl) ?_
    obtain ⟨z1, hc1, b1⟩ := ct_289_4098 (d := d + 2) (l := l) (D := D) (b0 := b0) (ad := ad) (Hb := Hb) (tau := tau) hx hG 
    refine Jck (show mx_Sn _ _ 1 (mx_callk 289 1 4) from sn_292 1) rfl hc1 rfl rfl rfl ?_
    refine Jif_eq (show mx_Sn _ _ 4 (mx_if_eq 16 7) from sn_292 4) (by omega) (fun q2 => ?_) (fun q2 => ?_)
    · skip
      exfalso; omega
    · skip
      refine mx_J.step (sn_292 7) (fun _ _ => rfl) ?_
      refine mx_J.step (sn_292 8) (fun _ _ => rfl) ?_
      refine mx_J.step (sn_292 11) (fun _ _ => rfl) ?_
      obtain ⟨z3, hc3, b3⟩ := ct_288_4099 (d := d + 0) (l := l) (D := D) (b0 := b0) (ad := ad) (Hb := Hb) (tau := tau) hx hG (show 0 ≤ x0 ∧ x0 ≤ 11 by omega)
      refine Jcs (show mx_Sn _ _ 12 (mx_calls 288 2 15) from sn_292 12) hc3 rfl rfl rfl ?_
      exact mx_J.ret (show mx_Sn _ _ 15 (mx_nret .char) from sn_292 15) (fun _ _ => nr_ok_char (by omega)) (hP z3 (by omega))
theorem ct_292_4098 {l : Launch} {D : va_G} {b0 : Nat} {ad : Nat → Nat} {Hb : Heap} {tau : Nat → Int64} {d n s : Nat} {S : Nat → xS} {Z : xZ} {h : mx_H} (hx : XH n s S Z h) (hG : GI n S Z)  {x0 : Int} (p0 : 0 ≤ x0 ∧ x0 ≤ 11) : ∃ z : Int, mx_Ca (tB l D b0 ad Hb tau) (d + 4) 292 [.ref 4098, xI x0] h (some (xI z), h) ∧ (32 ≤ z ∧ z ≤ 122) := by
  obtain ⟨r, hca, z, e, hp⟩ := Jmt (B := tB l D b0 ad Hb tau) (M := mt_292) (mi := 292) (as := [.ref 4098, xI x0]) (d := d + 3) (ls := [some (.ref 4098), some (xI x0)]) rfl rfl rfl rfl rfl rfl (cw_292_4098 (l := l) (D := D) (b0 := b0) (ad := ad) (Hb := Hb) (tau := tau) (d := d) (Post := fun r => ∃ z : Int, r = (some (xI z), h) ∧ (32 ≤ z ∧ z ≤ 122)) hx hG p0 (fun z hz => ⟨z, rfl, hz⟩))
  subst e; exact ⟨z, hca, hp⟩
set_option maxRecDepth 100000 in
theorem cw_293_ {l : Launch} {D : va_G} {b0 : Nat} {ad : Nat → Nat} {Hb : Heap} {tau : Nat → Int64} {d n s : Nat} {S : Nat → xS} {Z : xZ} {h : mx_H} {Post : mx_R → Prop} (hx : XH n s S Z h) (hG : GI n S Z)  {x0 : Int} (p0 : 0 ≤ x0 ∧ x0 ≤ 255) (hP : ∀ z : Int, 1 ≤ z ∧ z ≤ 1 → Post (some (xI z), h)) : mx_J (tB l D b0 ad Hb tau) mt_293 (d + 0) 0 [some (xI x0)] [] h Post := by
    refine mx_J.step (sn_293 0) (fun _ _ => rfl) ?_
    refine Jif_lt (show mx_Sn _ _ 1 (mx_if_lt 15 4) from sn_293 1) (by omega) (fun q1 => ?_) (fun q1 => ?_)
    · skip
      exfalso; omega
    · skip
      refine mx_J.step (sn_293 4) (fun _ _ => rfl) ?_
      refine JcI (z := 255) (show mx_Sn _ _ 5 (mx_const (.int 255) 8) from sn_293 5) rfl ?_
      refine Jicmp_gt (show mx_Sn _ _ 8 (mx_icmp_gt 15 11) from sn_293 8) (by omega) (by omega) (fun q2 => ?_) (fun q2 => ?_)
      · skip
        exfalso; omega
      · skip
        refine JcI (z := 1) (show mx_Sn _ _ 11 (mx_const (.int 1) 12) from sn_293 11) rfl ?_
        refine mx_J.step (sn_293 12) (fun _ _ => rfl) ?_
        exact mx_J.ret (show mx_Sn _ _ 16 (mx_zret) from sn_293 16) (fun _ _ => zr_ok (by omega)) (hP 1 (by omega))
theorem ct_293_ {l : Launch} {D : va_G} {b0 : Nat} {ad : Nat → Nat} {Hb : Heap} {tau : Nat → Int64} {d n s : Nat} {S : Nat → xS} {Z : xZ} {h : mx_H} (hx : XH n s S Z h) (hG : GI n S Z)  {x0 : Int} (p0 : 0 ≤ x0 ∧ x0 ≤ 255) : ∃ z : Int, mx_Ca (tB l D b0 ad Hb tau) (d + 1) 293 [xI x0] h (some (xI z), h) ∧ (1 ≤ z ∧ z ≤ 1) := by
  obtain ⟨r, hca, z, e, hp⟩ := Jmt (B := tB l D b0 ad Hb tau) (M := mt_293) (mi := 293) (as := [xI x0]) (d := d + 0) (ls := [some (xI x0)]) rfl rfl rfl rfl rfl rfl (cw_293_ (l := l) (D := D) (b0 := b0) (ad := ad) (Hb := Hb) (tau := tau) (d := d) (Post := fun r => ∃ z : Int, r = (some (xI z), h) ∧ (1 ≤ z ∧ z ≤ 1)) hx hG p0 (fun z hz => ⟨z, rfl, hz⟩))
  subst e; exact ⟨z, hca, hp⟩
set_option maxRecDepth 100000 in
theorem cw_294_4099_i0_i12 {l : Launch} {D : va_G} {b0 : Nat} {ad : Nat → Nat} {Hb : Heap} {tau : Nat → Int64} {d n s : Nat} {S : Nat → xS} {Z : xZ} {h : mx_H} {Post : mx_R → Prop} (hx : XH n s S Z h) (hG : GI n S Z)  {x0 : Int} (p0 : 0 ≤ x0 ∧ x0 ≤ 255) (hP : ∀ z : Int, (-1) ≤ z ∧ z ≤ 11 → Post (some (xI z), h)) : mx_J (tB l D b0 ad Hb tau) mt_294 (d + 0) 0 [some (.ref 4099), some (xI x0), some (xI 0), some (xI 12), none, none] [] h Post := by
    refine mx_J.step (sn_294 0) (fun _ _ => rfl) ?_
    refine Ji2bX (show mx_Sn _ _ 1 (mx_i2b 2) from sn_294 1) (fun y1 hy1 => ?_)
    refine mx_J.step (ls2 := [some (.ref 4099), some (xI x0), some (xI 0), some (xI 12), some (xI y1), none]) (sn_294 2) (fun _ _ => rfl) ?_
    refine mx_J.step (sn_294 4) (fun _ _ => rfl) ?_
    refine mx_J.step (ls2 := [some (.ref 4099), some (xI x0), some (xI 0), some (xI 12), some (xI y1), some (xI 0)]) (sn_294 5) (fun _ _ => rfl) ?_
    have c7 : ∀ (m2 : Nat) (w2_5 : Int), 12 - w2_5 < (m2 : Int) → 0 ≤ w2_5 ∧ w2_5 ≤ 12 → mx_J (tB l D b0 ad Hb tau) mt_294 (d + 0) 7 [some (.ref 4099), some (xI x0), some (xI 0), some (xI 12), some (xI y1), some (xI w2_5)] [] h Post := by
      intro m2
      induction m2 with
      | zero => intro w2_5 q2 f2_0; exact absurd q2 (by omega)
      | succ m2 ih2 =>
        intro w2_5 q2 f2_0
        refine mx_J.step (sn_294 7) (fun _ _ => rfl) ?_
        refine mx_J.step (sn_294 9) (fun _ _ => rfl) ?_
        refine Jicmp_ge (show mx_Sn _ _ 10 (mx_icmp_ge 31 13) from sn_294 10) (by omega) (by omega) (fun q3 => ?_) (fun q3 => ?_)
        · skip
          refine JcI (z := (-1)) (show mx_Sn _ _ 31 (mx_const (.int (-1)) 32) from sn_294 31) rfl ?_
          exact mx_J.ret (sn_294 32) (fun _ _ => rfl) (hP (-1) (by omega))
        · skip
          refine mx_J.step (sn_294 13) (fun _ _ => rfl) ?_
          refine mx_J.step (sn_294 14) (fun _ _ => rfl) ?_
          refine Jsb_1 (show mx_Sn _ _ 16 (mx_sbald 17) from sn_294 16) rfl (by omega) (fun y4 hy4 => ?_)
          refine mx_J.step (sn_294 17) (fun _ _ => rfl) ?_
          refine Jicmp_ne (show mx_Sn _ _ 19 (mx_icmp_ne 25 22) from sn_294 19) (by omega) (by omega) (fun q5 => ?_) (fun q5 => ?_)
          · skip
            refine Jiinc (z := w2_5) (cz := 1) (ls2 := [some (.ref 4099), some (xI x0), some (xI 0), some (xI 12), some (xI y1), some (xI (w2_5 + 1))]) (show mx_Sn _ _ 25 (mx_iinc 5 1 28) from sn_294 25) rfl rfl rfl rfl ?_
            refine mx_J.step (sn_294 28) (fun _ _ => rfl) ?_
            exact ih2 (w2_5 + 1) (by omega) (by omega)
          · skip
            refine mx_J.step (sn_294 22) (fun _ _ => rfl) ?_
            exact mx_J.ret (sn_294 24) (fun _ _ => rfl) (hP w2_5 (by omega))
    exact c7 (Int.toNat (12 - 0) + 1) 0 (by omega) (by omega)
theorem ct_294_4099_i0_i12 {l : Launch} {D : va_G} {b0 : Nat} {ad : Nat → Nat} {Hb : Heap} {tau : Nat → Int64} {d n s : Nat} {S : Nat → xS} {Z : xZ} {h : mx_H} (hx : XH n s S Z h) (hG : GI n S Z)  {x0 : Int} (p0 : 0 ≤ x0 ∧ x0 ≤ 255) : ∃ z : Int, mx_Ca (tB l D b0 ad Hb tau) (d + 1) 294 [.ref 4099, xI x0, xI 0, xI 12] h (some (xI z), h) ∧ ((-1) ≤ z ∧ z ≤ 11) := by
  obtain ⟨r, hca, z, e, hp⟩ := Jmt (B := tB l D b0 ad Hb tau) (M := mt_294) (mi := 294) (as := [.ref 4099, xI x0, xI 0, xI 12]) (d := d + 0) (ls := [some (.ref 4099), some (xI x0), some (xI 0), some (xI 12), none, none]) rfl rfl rfl rfl rfl rfl (cw_294_4099_i0_i12 (l := l) (D := D) (b0 := b0) (ad := ad) (Hb := Hb) (tau := tau) (d := d) (Post := fun r => ∃ z : Int, r = (some (xI z), h) ∧ ((-1) ≤ z ∧ z ≤ 11)) hx hG p0 (fun z hz => ⟨z, rfl, hz⟩))
  subst e; exact ⟨z, hca, hp⟩
set_option maxRecDepth 100000 in
theorem cw_295_4099_i0_i12 {l : Launch} {D : va_G} {b0 : Nat} {ad : Nat → Nat} {Hb : Heap} {tau : Nat → Int64} {d n s : Nat} {S : Nat → xS} {Z : xZ} {h : mx_H} {Post : mx_R → Prop} (hx : XH n s S Z h) (hG : GI n S Z)  {x0 : Int} (p0 : 0 ≤ x0 ∧ x0 ≤ 255) (hP : ∀ z : Int, (-1) ≤ z ∧ z ≤ 11 → Post (some (xI z), h)) : mx_J (tB l D b0 ad Hb tau) mt_295 (d + 1) 0 [some (.ref 4099), some (xI x0), some (xI 0), some (xI 12)] [] h Post := by
    refine mx_J.step (sn_295 0) (fun _ _ => rfl) ?_
    obtain ⟨z1, hc1, b1⟩ := ct_293_ (d := d + 0) (l := l) (D := D) (b0 := b0) (ad := ad) (Hb := Hb) (tau := tau) hx hG (show 0 ≤ x0 ∧ x0 ≤ 255 by omega)
    refine Jcs (show mx_Sn _ _ 1 (mx_calls 293 1 4) from sn_295 1) hc1 rfl rfl rfl ?_
    refine Jif_ne (show mx_Sn _ _ 4 (mx_if_ne 9 7) from sn_295 4) (by omega) (fun q2 => ?_) (fun q2 => ?_)
    · skip
      refine mx_J.step (sn_295 9) (fun _ _ => rfl) ?_
      refine JcI (z := 0) (show mx_Sn _ _ 10 (mx_const (.int 0) 11) from sn_295 10) rfl ?_
      refine Jmmax (show mx_Sn _ _ 11 (mx_mmax 14) from sn_295 11) (by omega) (by omega) ⟨_, rfl⟩ rfl (fun y3 hy3 => ?_)
      refine mx_J.step (ls2 := [some (.ref 4099), some (xI x0), some (xI y3), some (xI 12)]) (sn_295 14) (fun _ _ => rfl) ?_
      refine mx_J.step (sn_295 15) (fun _ _ => rfl) ?_
      refine mx_J.step (sn_295 16) (fun _ _ => rfl) ?_
      refine Jsalen (L := sb_1) (z := 12) (show mx_Sn _ _ 17 (mx_salen 18) from sn_295 17) rfl rfl ?_
      refine Jmmin (show mx_Sn _ _ 18 (mx_mmin 21) from sn_295 18) (by omega) (by omega) ⟨_, rfl⟩ rfl (fun y4 hy4 => ?_)
      refine mx_J.step (ls2 := [some (.ref 4099), some (xI x0), some (xI y3), some (xI y4)]) (sn_295 21) (fun _ _ => rfl) ?_
      refine mx_J.step (sn_295 22) (fun _ _ => rfl) ?_
      refine mx_J.step (sn_295 23) (fun _ _ => rfl) ?_
      refine Jicmp_lt (show mx_Sn _ _ 24 (mx_icmp_lt 29 27) from sn_295 24) (by omega) (by omega) (fun q5 => ?_) (fun q5 => ?_)
      · skip
        refine mx_J.step (sn_295 29) (fun _ _ => rfl) ?_
        refine mx_J.step (sn_295 30) (fun _ _ => rfl) ?_
        refine mx_J.step (sn_295 31) (fun _ _ => rfl) ?_
        refine mx_J.step (sn_295 32) (fun _ _ => rfl) ?_
        have el6 : y3 = 0 := by omega
        rw [el6]
        have el6 : y4 = 12 := by omega
        rw [el6]
        obtain ⟨z6, hc6, b6⟩ := ct_294_4099_i0_i12 (d := d + 0) (l := l) (D := D) (b0 := b0) (ad := ad) (Hb := Hb) (tau := tau) hx hG (show 0 ≤ x0 ∧ x0 ≤ 255 by omega)
        refine Jcs (show mx_Sn _ _ 33 (mx_calls 294 4 36) from sn_295 33) hc6 rfl rfl rfl ?_
        exact mx_J.ret (sn_295 36) (fun _ _ => rfl) (hP z6 (by omega))
      · skip
        exfalso; omega
    · skip
      exfalso; omega
theorem ct_295_4099_i0_i12 {l : Launch} {D : va_G} {b0 : Nat} {ad : Nat → Nat} {Hb : Heap} {tau : Nat → Int64} {d n s : Nat} {S : Nat → xS} {Z : xZ} {h : mx_H} (hx : XH n s S Z h) (hG : GI n S Z)  {x0 : Int} (p0 : 0 ≤ x0 ∧ x0 ≤ 255) : ∃ z : Int, mx_Ca (tB l D b0 ad Hb tau) (d + 2) 295 [.ref 4099, xI x0, xI 0, xI 12] h (some (xI z), h) ∧ ((-1) ≤ z ∧ z ≤ 11) := by
  obtain ⟨r, hca, z, e, hp⟩ := Jmt (B := tB l D b0 ad Hb tau) (M := mt_295) (mi := 295) (as := [.ref 4099, xI x0, xI 0, xI 12]) (d := d + 1) (ls := [some (.ref 4099), some (xI x0), some (xI 0), some (xI 12)]) rfl rfl rfl rfl rfl rfl (cw_295_4099_i0_i12 (l := l) (D := D) (b0 := b0) (ad := ad) (Hb := Hb) (tau := tau) (d := d) (Post := fun r => ∃ z : Int, r = (some (xI z), h) ∧ ((-1) ≤ z ∧ z ≤ 11)) hx hG p0 (fun z hz => ⟨z, rfl, hz⟩))
  subst e; exact ⟨z, hca, hp⟩
set_option maxRecDepth 100000 in
theorem cw_296_4098_i0 {l : Launch} {D : va_G} {b0 : Nat} {ad : Nat → Nat} {Hb : Heap} {tau : Nat → Int64} {d n s : Nat} {S : Nat → xS} {Z : xZ} {h : mx_H} {Post : mx_R → Prop} (hx : XH n s S Z h) (hG : GI n S Z)  {x0 : Int} (p0 : 0 ≤ x0 ∧ x0 ≤ 255) (hP : ∀ z : Int, (-1) ≤ z ∧ z ≤ 11 → Post (some (xI z), h)) : mx_J (tB l D b0 ad Hb tau) mt_296 (d + 2) 0 [some (.ref 4098), some (xI x0), some (xI 0)] [] h Post := by
    refine mx_J.step (sn_296 0) (fun _ _ => rfl) ?_
    obtain ⟨z1, hc1, b1⟩ := ct_289_4098 (d := d + 1) (l := l) (D := D) (b0 := b0) (ad := ad) (Hb := Hb) (tau := tau) hx hG 
    refine Jck (show mx_Sn _ _ 1 (mx_callk 289 1 4) from sn_296 1) rfl hc1 rfl rfl rfl ?_
    refine Jif_eq (show mx_Sn _ _ 4 (mx_if_eq 23 7) from sn_296 4) (by omega) (fun q2 => ?_) (fun q2 => ?_)
    · skip
      exfalso; omega
    · skip
      refine mx_J.step (sn_296 7) (fun _ _ => rfl) ?_
      refine mx_J.step (sn_296 8) (fun _ _ => rfl) ?_
      refine mx_J.step (sn_296 11) (fun _ _ => rfl) ?_
      refine mx_J.step (sn_296 12) (fun _ _ => rfl) ?_
      refine mx_J.step (sn_296 13) (fun _ _ => rfl) ?_
      obtain ⟨z3, hc3, b3⟩ := ct_291_4098 (d := d + 0) (l := l) (D := D) (b0 := b0) (ad := ad) (Hb := Hb) (tau := tau) hx hG 
      refine Jck (show mx_Sn _ _ 14 (mx_callk 291 1 17) from sn_296 14) rfl hc3 rfl rfl rfl ?_
      have el4 : z3 = 12 := by omega
      rw [el4]
      obtain ⟨z4, hc4, b4⟩ := ct_295_4099_i0_i12 (d := d + 0) (l := l) (D := D) (b0 := b0) (ad := ad) (Hb := Hb) (tau := tau) hx hG (show 0 ≤ x0 ∧ x0 ≤ 255 by omega)
      refine Jcs (show mx_Sn _ _ 17 (mx_calls 295 4 20) from sn_296 17) hc4 rfl rfl rfl ?_
      refine mx_J.step (sn_296 20) (fun _ _ => rfl) ?_
      exact mx_J.ret (sn_296 36) (fun _ _ => rfl) (hP z4 (by omega))
theorem ct_296_4098_i0 {l : Launch} {D : va_G} {b0 : Nat} {ad : Nat → Nat} {Hb : Heap} {tau : Nat → Int64} {d n s : Nat} {S : Nat → xS} {Z : xZ} {h : mx_H} (hx : XH n s S Z h) (hG : GI n S Z)  {x0 : Int} (p0 : 0 ≤ x0 ∧ x0 ≤ 255) : ∃ z : Int, mx_Ca (tB l D b0 ad Hb tau) (d + 3) 296 [.ref 4098, xI x0, xI 0] h (some (xI z), h) ∧ ((-1) ≤ z ∧ z ≤ 11) := by
  obtain ⟨r, hca, z, e, hp⟩ := Jmt (B := tB l D b0 ad Hb tau) (M := mt_296) (mi := 296) (as := [.ref 4098, xI x0, xI 0]) (d := d + 2) (ls := [some (.ref 4098), some (xI x0), some (xI 0)]) rfl rfl rfl rfl rfl rfl (cw_296_4098_i0 (l := l) (D := D) (b0 := b0) (ad := ad) (Hb := Hb) (tau := tau) (d := d) (Post := fun r => ∃ z : Int, r = (some (xI z), h) ∧ ((-1) ≤ z ∧ z ≤ 11)) hx hG p0 (fun z hz => ⟨z, rfl, hz⟩))
  subst e; exact ⟨z, hca, hp⟩
set_option maxRecDepth 100000 in
theorem cw_297_4098 {l : Launch} {D : va_G} {b0 : Nat} {ad : Nat → Nat} {Hb : Heap} {tau : Nat → Int64} {d n s : Nat} {S : Nat → xS} {Z : xZ} {h : mx_H} {Post : mx_R → Prop} (hx : XH n s S Z h) (hG : GI n S Z)  {x0 : Int} (p0 : 0 ≤ x0 ∧ x0 ≤ 255) (hP : ∀ z : Int, (-1) ≤ z ∧ z ≤ 11 → Post (some (xI z), h)) : mx_J (tB l D b0 ad Hb tau) mt_297 (d + 3) 0 [some (.ref 4098), some (xI x0)] [] h Post := by
    refine mx_J.step (sn_297 0) (fun _ _ => rfl) ?_
    refine mx_J.step (sn_297 1) (fun _ _ => rfl) ?_
    refine JcI (z := 0) (show mx_Sn _ _ 2 (mx_const (.int 0) 3) from sn_297 2) rfl ?_
    obtain ⟨z1, hc1, b1⟩ := ct_296_4098_i0 (d := d + 0) (l := l) (D := D) (b0 := b0) (ad := ad) (Hb := Hb) (tau := tau) hx hG (show 0 ≤ x0 ∧ x0 ≤ 255 by omega)
    refine Jck (show mx_Sn _ _ 3 (mx_callk 296 3 6) from sn_297 3) rfl hc1 rfl rfl rfl ?_
    exact mx_J.ret (sn_297 6) (fun _ _ => rfl) (hP z1 (by omega))
theorem ct_297_4098 {l : Launch} {D : va_G} {b0 : Nat} {ad : Nat → Nat} {Hb : Heap} {tau : Nat → Int64} {d n s : Nat} {S : Nat → xS} {Z : xZ} {h : mx_H} (hx : XH n s S Z h) (hG : GI n S Z)  {x0 : Int} (p0 : 0 ≤ x0 ∧ x0 ≤ 255) : ∃ z : Int, mx_Ca (tB l D b0 ad Hb tau) (d + 4) 297 [.ref 4098, xI x0] h (some (xI z), h) ∧ ((-1) ≤ z ∧ z ≤ 11) := by
  obtain ⟨r, hca, z, e, hp⟩ := Jmt (B := tB l D b0 ad Hb tau) (M := mt_297) (mi := 297) (as := [.ref 4098, xI x0]) (d := d + 3) (ls := [some (.ref 4098), some (xI x0)]) rfl rfl rfl rfl rfl rfl (cw_297_4098 (l := l) (D := D) (b0 := b0) (ad := ad) (Hb := Hb) (tau := tau) (d := d) (Post := fun r => ∃ z : Int, r = (some (xI z), h) ∧ ((-1) ≤ z ∧ z ≤ 11)) hx hG p0 (fun z hz => ⟨z, rfl, hz⟩))
  subst e; exact ⟨z, hca, hp⟩
set_option maxRecDepth 100000 in
theorem cw_57_3 {l : Launch} {D : va_G} {b0 : Nat} {ad : Nat → Nat} {Hb : Heap} {tau : Nat → Int64} {d n s : Nat} {S : Nat → xS} {Z : xZ} {h : mx_H} {Post : mx_R → Prop} (hx : XH n s S Z h) (hG : GI n S Z)  {x0 x1 x2 : Int} (p0 : 0 ≤ x0 ∧ x0 ≤ 900) (p1 : 48 ≤ x1 ∧ x1 ≤ 97) (p2 : 57 ≤ x2 ∧ x2 ≤ 122) (k0 : Z 3 0 = 2) (hP : ∀ z : Int, 0 ≤ z ∧ z ≤ 1 ∧ ((z = 1 ∧ x0 < Z 3 1 ∧ x1 ≤ Z 2 x0 ∧ Z 2 x0 ≤ x2) ∨ (z = 0 ∧ ¬ (x0 < Z 3 1 ∧ x1 ≤ Z 2 x0 ∧ Z 2 x0 ≤ x2))) → Post (some (xI z), h)) : mx_J (tB l D b0 ad Hb tau) mt_57 (d + 0) 0 [some (.ref 3), some (xI x0), some (xI x1), some (xI x2)] [] h Post := by
    have a2 : 2 < n := lt83 (GI_n hG) rfl
    have s2 : S 2 = .inr (.byte, 900, 0) := GI_s hG 2 rfl
    have a3 : 3 < n := lt83 (GI_n hG) rfl
    have s3 : S 3 = .inl (7, [2, 0, 0, 0, 0, 0, 2, 0, 2, 2, 0, 2, 0, 0, 0, 0]) := GI_s hG 3 rfl
    have b1 : 0 ≤ Z 3 1 ∧ Z 3 1 ≤ 900 := hG.pr 3 1
    have b2 : (-128) ≤ Z 2 x0 ∧ Z 2 x0 ≤ 127 := hG.pr 2 x0
    refine mx_J.step (sn_57 0) (fun _ _ => rfl) ?_
    refine mx_J.step (sn_57 1) (fun _ _ => rfl) ?_
    have b4 : 0 ≤ Z 3 1 ∧ Z 3 1 ≤ 900 := hG.pr 3 1
    refine JgetI (g := 1) (z := Z 3 1) hx (show mx_Sn _ _ 2 (mx_getf 7 1 5) from sn_57 2) a3 s3 rfl rfl rfl ?_
    have c33 : ∀ (k5_0 : Int), 0 ≤ k5_0 ∧ k5_0 ≤ 1 → ((k5_0 = 1 ∧ x0 < Z 3 1 ∧ x1 ≤ Z 2 x0 ∧ Z 2 x0 ≤ x2) ∨ (k5_0 = 0 ∧ ¬ (x0 < Z 3 1 ∧ x1 ≤ Z 2 x0 ∧ Z 2 x0 ≤ x2))) → mx_J (tB l D b0 ad Hb tau) mt_57 (d + 0) 33 [some (.ref 3), some (xI x0), some (xI x1), some (xI x2)] [xI k5_0] h Post := by
      intro k5_0 f5_0 f5_1
      have b6 : 2 ≤ Z 3 0 ∧ Z 3 0 ≤ 4 := hG.pr 3 0
      have b7 : 0 ≤ Z 3 1 ∧ Z 3 1 ≤ 900 := hG.pr 3 1
      have b8 : (-128) ≤ Z 2 x0 ∧ Z 2 x0 ≤ 127 := hG.pr 2 x0
      exact mx_J.ret (show mx_Sn _ _ 33 (mx_zret) from sn_57 33) (fun _ _ => zr_ok (by omega)) (hP k5_0 (by omega))
    have c32 : ¬ (x0 < Z 3 1 ∧ x1 ≤ Z 2 x0 ∧ Z 2 x0 ≤ x2) → mx_J (tB l D b0 ad Hb tau) mt_57 (d + 0) 32 [some (.ref 3), some (xI x0), some (xI x1), some (xI x2)] [] h Post := by
      intro f9_0
      refine JcI (z := 0) (show mx_Sn _ _ 32 (mx_const (.int 0) 33) from sn_57 32) rfl ?_
      exact c33 0 (by omega) (by omega)
    refine Jicmp_ge (show mx_Sn _ _ 5 (mx_icmp_ge 32 8) from sn_57 5) (by omega) (by omega) (fun q10 => ?_) (fun q10 => ?_)
    · skip
      exact c32 (by omega)
    · skip
      refine mx_J.step (sn_57 8) (fun _ _ => rfl) ?_
      refine JgetR (g := 0) (b := 2) hx (show mx_Sn _ _ 9 (mx_getf 7 0 12) from sn_57 9) a3 s3 rfl rfl (show Z 3 0 = ((2 : Nat) : Int) from k0) ?_
      refine mx_J.step (sn_57 12) (fun _ _ => rfl) ?_
      have b12 : (-128) ≤ Z 2 x0 ∧ Z 2 x0 ≤ 127 := hG.pr 2 x0
      refine JbaldI (z := Z 2 x0) hx (show mx_Sn _ _ 13 (mx_bald 14) from sn_57 13) a2 s2 (by omega) rfl ?_
      refine mx_J.step (sn_57 14) (fun _ _ => rfl) ?_
      refine Jicmp_lt (show mx_Sn _ _ 15 (mx_icmp_lt 32 18) from sn_57 15) (by omega) (by omega) (fun q13 => ?_) (fun q13 => ?_)
      · skip
        exact c32 (by omega)
      · skip
        refine mx_J.step (sn_57 18) (fun _ _ => rfl) ?_
        refine JgetR (g := 0) (b := 2) hx (show mx_Sn _ _ 19 (mx_getf 7 0 22) from sn_57 19) a3 s3 rfl rfl (show Z 3 0 = ((2 : Nat) : Int) from k0) ?_
        refine mx_J.step (sn_57 22) (fun _ _ => rfl) ?_
        have b15 : (-128) ≤ Z 2 x0 ∧ Z 2 x0 ≤ 127 := hG.pr 2 x0
        refine JbaldI (z := Z 2 x0) hx (show mx_Sn _ _ 23 (mx_bald 24) from sn_57 23) a2 s2 (by omega) rfl ?_
        refine mx_J.step (sn_57 24) (fun _ _ => rfl) ?_
        refine Jicmp_gt (show mx_Sn _ _ 25 (mx_icmp_gt 32 28) from sn_57 25) (by omega) (by omega) (fun q16 => ?_) (fun q16 => ?_)
        · skip
          exact c32 (by omega)
        · skip
          refine JcI (z := 1) (show mx_Sn _ _ 28 (mx_const (.int 1) 29) from sn_57 28) rfl ?_
          refine mx_J.step (sn_57 29) (fun _ _ => rfl) ?_
          exact c33 1 (by omega) (by omega)
theorem ct_57_3 {l : Launch} {D : va_G} {b0 : Nat} {ad : Nat → Nat} {Hb : Heap} {tau : Nat → Int64} {d n s : Nat} {S : Nat → xS} {Z : xZ} {h : mx_H} (hx : XH n s S Z h) (hG : GI n S Z)  {x0 x1 x2 : Int} (p0 : 0 ≤ x0 ∧ x0 ≤ 900) (p1 : 48 ≤ x1 ∧ x1 ≤ 97) (p2 : 57 ≤ x2 ∧ x2 ≤ 122) (k0 : Z 3 0 = 2) : ∃ z : Int, mx_Ca (tB l D b0 ad Hb tau) (d + 1) 57 [.ref 3, xI x0, xI x1, xI x2] h (some (xI z), h) ∧ (0 ≤ z ∧ z ≤ 1 ∧ ((z = 1 ∧ x0 < Z 3 1 ∧ x1 ≤ Z 2 x0 ∧ Z 2 x0 ≤ x2) ∨ (z = 0 ∧ ¬ (x0 < Z 3 1 ∧ x1 ≤ Z 2 x0 ∧ Z 2 x0 ≤ x2)))) := by
  obtain ⟨r, hca, z, e, hp⟩ := Jmt (B := tB l D b0 ad Hb tau) (M := mt_57) (mi := 57) (as := [.ref 3, xI x0, xI x1, xI x2]) (d := d + 0) (ls := [some (.ref 3), some (xI x0), some (xI x1), some (xI x2)]) rfl rfl rfl rfl rfl rfl (cw_57_3 (l := l) (D := D) (b0 := b0) (ad := ad) (Hb := Hb) (tau := tau) (d := d) (Post := fun r => ∃ z : Int, r = (some (xI z), h) ∧ (0 ≤ z ∧ z ≤ 1 ∧ ((z = 1 ∧ x0 < Z 3 1 ∧ x1 ≤ Z 2 x0 ∧ Z 2 x0 ≤ x2) ∨ (z = 0 ∧ ¬ (x0 < Z 3 1 ∧ x1 ≤ Z 2 x0 ∧ Z 2 x0 ≤ x2))))) hx hG p0 p1 p2 k0 (fun z hz => ⟨z, rfl, hz⟩))
  subst e; exact ⟨z, hca, hp⟩
set_option maxRecDepth 100000 in
theorem cw_59_3 {l : Launch} {D : va_G} {b0 : Nat} {ad : Nat → Nat} {Hb : Heap} {tau : Nat → Int64} {d n s : Nat} {S : Nat → xS} {Z : xZ} {h : mx_H} {Post : mx_R → Prop} (hx : XH n s S Z h) (hG : GI n S Z)   (k0 : Z 3 0 = 2) (k1 : Z 3 3 = Z 3 2) (k2 : Z 3 2 < Z 3 1) (k3 : (97 ≤ Z 2 (Z 3 2) ∧ Z 2 (Z 3 2) ≤ 122)) (hP : ∀ (z : Int) (Z' : xZ) (h' : mx_H), XH n s S Z' h' → GI n S Z' → fr' [(3, 2)] Z Z' → 299 ≤ z ∧ z ≤ 376 ∧ (Z 3 2 < Z' 3 2 ∧ Z' 3 2 ≤ Z 3 1) → Post (some (xI z), h')) : mx_J (tB l D b0 ad Hb tau) mt_59 (d + 4) 0 [some (.ref 3), none, none, none, none, none, none] [] h Post := by
    have a2 : 2 < n := lt83 (GI_n hG) rfl
    have s2 : S 2 = .inr (.byte, 900, 0) := GI_s hG 2 rfl
    have a3 : 3 < n := lt83 (GI_n hG) rfl
    have s3 : S 3 = .inl (7, [2, 0, 0, 0, 0, 0, 2, 0, 2, 2, 0, 2, 0, 0, 0, 0]) := GI_s hG 3 rfl
    have c0 : ∀ (m1 : Nat)  (Z2 : xZ) (h2 : mx_H), Z 3 1 - Z2 3 2 < (m1 : Int) → (Z 3 2 ≤ Z2 3 2 ∧ Z2 3 2 ≤ Z 3 1) → XH n s S Z2 h2 → GI n S Z2 → fr' [(3, 2)] Z Z2 → mx_J (tB l D b0 ad Hb tau) mt_59 (d + 4) 0 [some (.ref 3), none, none, none, none, none, none] [] h2 Post := by
      intro m1
      induction m1 with
      | zero => intro Z2 h2 q1 f1_0 hx2 hG2 hf2; exact absurd q1 (by omega)
      | succ m1 ih1 =>
        intro Z2 h2 q1 f1_0 hx2 hG2 hf2
        have b3 : 0 ≤ Z2 3 2 ∧ Z2 3 2 ≤ 900 := hG2.pr 3 2
        have b4 : 0 ≤ Z2 3 2 ∧ Z2 3 2 ≤ 900 := hG2.pr 3 2
        have cg2 : (Z2 3 2) = Z 3 2 → Z 2 (Z2 3 2) = Z 2 (Z 3 2) := fun e => by rw [e]
        refine mx_J.step (sn_59 0) (fun _ _ => rfl) ?_
        have b6 : 0 ≤ Z2 3 2 ∧ Z2 3 2 ≤ 900 := hG2.pr 3 2
        refine JgetI (g := 2) (z := Z2 3 2) hx2 (show mx_Sn _ _ 1 (mx_getf 7 2 4) from sn_59 1) a3 s3 rfl rfl rfl ?_
        refine mx_J.step (sn_59 4) (fun _ _ => rfl) ?_
        have b8 : 0 ≤ Z 3 1 ∧ Z 3 1 ≤ 900 := hG.pr 3 1
        refine JgetI (g := 1) (z := Z 3 1) hx2 (show mx_Sn _ _ 5 (mx_getf 7 1 8) from sn_59 5) a3 s3 rfl rfl (hf2 3 1 rfl) ?_
        have c39 : (Z 3 2 < Z2 3 2) → mx_J (tB l D b0 ad Hb tau) mt_59 (d + 4) 39 [some (.ref 3), none, none, none, none, none, none] [] h2 Post := by
          intro f9_0
          have b10 : 0 ≤ Z2 3 2 ∧ Z2 3 2 ≤ 900 := hG2.pr 3 2
          refine JcI (z := 300) (show mx_Sn _ _ 39 (mx_const (.int 300) 42) from sn_59 39) rfl ?_
          refine mx_J.step (ls2 := [some (.ref 3), some (xI 300), none, none, none, none, none]) (sn_59 42) (fun _ _ => rfl) ?_
          refine JcI (z := 0) (show mx_Sn _ _ 43 (mx_const (.int 0) 44) from sn_59 43) rfl ?_
          refine mx_J.step (ls2 := [some (.ref 3), some (xI 300), some (xI 0), none, none, none, none]) (sn_59 44) (fun _ _ => rfl) ?_
          refine JcI (z := 1) (show mx_Sn _ _ 45 (mx_const (.int 1) 46) from sn_59 45) rfl ?_
          refine mx_J.step (ls2 := [some (.ref 3), some (xI 300), some (xI 0), some (xI 1), none, none, none]) (sn_59 46) (fun _ _ => rfl) ?_
          refine JcI (z := 0) (show mx_Sn _ _ 47 (mx_const (.int 0) 48) from sn_59 47) rfl ?_
          refine mx_J.step (ls2 := [some (.ref 3), some (xI 300), some (xI 0), some (xI 1), some (xI 0), none, none]) (sn_59 48) (fun _ _ => rfl) ?_
          have c50 : ∀ (m11 : Nat) (w11_1 : Int) (w11_2 : Int) (w11_3 : Int) (w11_4 : Int) (u11_5 : Option Value) (u11_6 : Option Value), 76 - w11_4 < (m11 : Int) → 300 ≤ w11_1 ∧ w11_1 ≤ 376 → 0 ≤ w11_2 ∧ w11_2 ≤ 76 → 0 ≤ w11_3 ∧ w11_3 ≤ 1 → 0 ≤ w11_4 ∧ w11_4 ≤ 76 → (w11_2 ≤ w11_4 ∧ w11_1 ≤ 300 + w11_4) → mx_J (tB l D b0 ad Hb tau) mt_59 (d + 4) 50 [some (.ref 3), some (xI w11_1), some (xI w11_2), some (xI w11_3), some (xI w11_4), u11_5, u11_6] [] h2 Post := by
            intro m11
            induction m11 with
            | zero => intro w11_1 w11_2 w11_3 w11_4 u11_5 u11_6 q11 f11_0 f11_1 f11_2 f11_3 f11_4; exact absurd q11 (by omega)
            | succ m11 ih11 =>
              intro w11_1 w11_2 w11_3 w11_4 u11_5 u11_6 q11 f11_0 f11_1 f11_2 f11_3 f11_4
              refine mx_J.step (sn_59 50) (fun _ _ => rfl) ?_
              refine mx_J.step (sn_59 52) (fun _ _ => rfl) ?_
              obtain ⟨z12, hc12, b12⟩ := ct_291_4096 (d := d + 2) (l := l) (D := D) (b0 := b0) (ad := ad) (Hb := Hb) (tau := tau) hx2 hG2 
              refine Jck (show mx_Sn _ _ 54 (mx_callk 291 1 57) from sn_59 54) rfl hc12 rfl rfl rfl ?_
              refine Jicmp_ge (show mx_Sn _ _ 57 (mx_icmp_ge 152 60) from sn_59 57) (by omega) (by omega) (fun q13 => ?_) (fun q13 => ?_)
              · skip
                refine JcI (z := 299) (show mx_Sn _ _ 152 (mx_const (.int 299) 155) from sn_59 152) rfl ?_
                have b14 : 0 ≤ Z2 3 2 ∧ Z2 3 2 ≤ 900 := hG2.pr 3 2
                have eq15 : Z2 3 0 = Z 3 0 := (hf2 3 0 rfl)
                have b16 : 2 ≤ Z 3 0 ∧ Z 3 0 ≤ 4 := hG.pr 3 0
                have eq17 : Z2 3 1 = Z 3 1 := (hf2 3 1 rfl)
                have b18 : 0 ≤ Z 3 1 ∧ Z 3 1 ≤ 900 := hG.pr 3 1
                have b19 : 0 ≤ Z2 3 2 ∧ Z2 3 2 ≤ 900 := hG2.pr 3 2
                have eq20 : Z2 3 3 = Z 3 3 := (hf2 3 3 rfl)
                have b21 : 0 ≤ Z 3 3 ∧ Z 3 3 ≤ 900 := hG.pr 3 3
                exact mx_J.ret (sn_59 155) (fun _ _ => rfl) (hP 299 Z2 h2 hx2 hG2 (fr_tr (M := [(3, 2)]) fr_rf (hf2) (M1 := []) rfl rfl) (by omega))
              · skip
                refine mx_J.step (sn_59 60) (fun _ _ => rfl) ?_
                refine mx_J.step (sn_59 62) (fun _ _ => rfl) ?_
                obtain ⟨z22, hc22, b22⟩ := ct_292_4096 (d := d + 0) (l := l) (D := D) (b0 := b0) (ad := ad) (Hb := Hb) (tau := tau) hx2 hG2 (show 0 ≤ w11_4 ∧ w11_4 ≤ 75 by omega)
                refine Jck (show mx_Sn _ _ 64 (mx_callk 292 2 67) from sn_59 64) rfl hc22 rfl rfl rfl ?_
                refine mx_J.step (ls2 := [some (.ref 3), some (xI w11_1), some (xI w11_2), some (xI w11_3), some (xI w11_4), some (xI z22), u11_6]) (sn_59 67) (fun _ _ => rfl) ?_
                refine mx_J.step (sn_59 69) (fun _ _ => rfl) ?_
                have b24 : 0 ≤ Z 3 3 ∧ Z 3 3 ≤ 900 := hG.pr 3 3
                refine JgetI (g := 3) (z := Z 3 3) hx2 (show mx_Sn _ _ 70 (mx_getf 7 3 73) from sn_59 70) a3 s3 rfl rfl (hf2 3 3 rfl) ?_
                refine mx_J.step (sn_59 73) (fun _ _ => rfl) ?_
                refine Jiadd (show mx_Sn _ _ 75 (mx_iadd 76) from sn_59 75) ?_
                refine mx_J.step (sn_59 76) (fun _ _ => rfl) ?_
                refine Jisub (show mx_Sn _ _ 77 (mx_isub 78) from sn_59 77) ?_
                refine mx_J.step (ls2 := [some (.ref 3), some (xI w11_1), some (xI w11_2), some (xI w11_3), some (xI w11_4), some (xI z22), some (xI (((Z 3 3) + w11_4) - w11_2))]) (sn_59 78) (fun _ _ => rfl) ?_
                refine mx_J.step (sn_59 80) (fun _ _ => rfl) ?_
                refine JcI (z := 32) (show mx_Sn _ _ 82 (mx_const (.int 32) 84) from sn_59 82) rfl ?_
                have c146 : ∀ (w25_1 : Int) (w25_2 : Int) (w25_3 : Int), 300 ≤ w25_1 ∧ w25_1 ≤ 376 → 0 ≤ w25_2 ∧ w25_2 ≤ 76 → 0 ≤ w25_3 ∧ w25_3 ≤ 1 → (w25_1 ≤ 301 + w11_4 ∧ w25_2 ≤ w11_4 + 1) → mx_J (tB l D b0 ad Hb tau) mt_59 (d + 4) 146 [some (.ref 3), some (xI w25_1), some (xI w25_2), some (xI w25_3), some (xI w11_4), some (xI z22), some (xI (((Z 3 3) + w11_4) - w11_2))] [] h2 Post := by
                  intro w25_1 w25_2 w25_3 f25_0 f25_1 f25_2 f25_3
                  refine Jiinc (z := w11_4) (cz := 1) (ls2 := [some (.ref 3), some (xI w25_1), some (xI w25_2), some (xI w25_3), some (xI (w11_4 + 1)), some (xI z22), some (xI (((Z 3 3) + w11_4) - w11_2))]) (show mx_Sn _ _ 146 (mx_iinc 4 1 149) from sn_59 146) rfl rfl rfl rfl ?_
                  refine mx_J.step (sn_59 149) (fun _ _ => rfl) ?_
                  exact ih11 w25_1 w25_2 w25_3 (w11_4 + 1) (some (xI z22)) (some (xI (((Z 3 3) + w11_4) - w11_2))) (by omega) (by omega) (by omega) (by omega) (by omega) (by omega)
                refine Jicmp_eq (show mx_Sn _ _ 84 (mx_icmp_eq 121 87) from sn_59 84) (by omega) (by omega) (fun q26 => ?_) (fun q26 => ?_)
                · skip
                  refine mx_J.step (sn_59 121) (fun _ _ => rfl) ?_
                  have c136 : mx_J (tB l D b0 ad Hb tau) mt_59 (d + 4) 136 [some (.ref 3), some (xI w11_1), some (xI w11_2), some (xI w11_3), some (xI w11_4), some (xI z22), some (xI (((Z 3 3) + w11_4) - w11_2))] [] h2 Post := by
                    refine Jiinc (z := w11_1) (cz := 1) (ls2 := [some (.ref 3), some (xI (w11_1 + 1)), some (xI w11_2), some (xI w11_3), some (xI w11_4), some (xI z22), some (xI (((Z 3 3) + w11_4) - w11_2))]) (show mx_Sn _ _ 136 (mx_iinc 1 1 139) from sn_59 136) rfl rfl rfl rfl ?_
                    refine mx_J.step (sn_59 139) (fun _ _ => rfl) ?_
                    refine JcI (z := 1) (show mx_Sn _ _ 141 (mx_const (.int 1) 142) from sn_59 141) rfl ?_
                    refine Jiadd (show mx_Sn _ _ 142 (mx_iadd 143) from sn_59 142) ?_
                    refine mx_J.step (ls2 := [some (.ref 3), some (xI (w11_1 + 1)), some (xI (w11_4 + 1)), some (xI w11_3), some (xI w11_4), some (xI z22), some (xI (((Z 3 3) + w11_4) - w11_2))]) (sn_59 143) (fun _ _ => rfl) ?_
                    refine JcI (z := 1) (show mx_Sn _ _ 144 (mx_const (.int 1) 145) from sn_59 144) rfl ?_
                    refine mx_J.step (ls2 := [some (.ref 3), some (xI (w11_1 + 1)), some (xI (w11_4 + 1)), some (xI 1), some (xI w11_4), some (xI z22), some (xI (((Z 3 3) + w11_4) - w11_2))]) (sn_59 145) (fun _ _ => rfl) ?_
                    exact c146 (w11_1 + 1) (w11_4 + 1) 1 (by omega) (by omega) (by omega) (by omega)
                  refine Jif_eq (show mx_Sn _ _ 122 (mx_if_eq 136 125) from sn_59 122) (by omega) (fun q28 => ?_) (fun q28 => ?_)
                  · skip
                    exact c136 
                  · skip
                    refine mx_J.step (sn_59 125) (fun _ _ => rfl) ?_
                    refine mx_J.step (sn_59 127) (fun _ _ => rfl) ?_
                    have b30 : 0 ≤ Z2 3 2 ∧ Z2 3 2 ≤ 900 := hG2.pr 3 2
                    refine JgetI (g := 2) (z := Z2 3 2) hx2 (show mx_Sn _ _ 128 (mx_getf 7 2 131) from sn_59 128) a3 s3 rfl rfl rfl ?_
                    refine Jicmp_ne (show mx_Sn _ _ 131 (mx_icmp_ne 136 134) from sn_59 131) (by omega) (by omega) (fun q31 => ?_) (fun q31 => ?_)
                    · skip
                      exact c136 
                    · skip
                      refine mx_J.step (sn_59 134) (fun _ _ => rfl) ?_
                      have b32 : 0 ≤ Z2 3 2 ∧ Z2 3 2 ≤ 900 := hG2.pr 3 2
                      have eq33 : Z2 3 0 = Z 3 0 := (hf2 3 0 rfl)
                      have b34 : 2 ≤ Z 3 0 ∧ Z 3 0 ≤ 4 := hG.pr 3 0
                      have eq35 : Z2 3 1 = Z 3 1 := (hf2 3 1 rfl)
                      have b36 : 0 ≤ Z 3 1 ∧ Z 3 1 ≤ 900 := hG.pr 3 1
                      have b37 : 0 ≤ Z2 3 2 ∧ Z2 3 2 ≤ 900 := hG2.pr 3 2
                      have eq38 : Z2 3 3 = Z 3 3 := (hf2 3 3 rfl)
                      have b39 : 0 ≤ Z 3 3 ∧ Z 3 3 ≤ 900 := hG.pr 3 3
                      exact mx_J.ret (sn_59 135) (fun _ _ => rfl) (hP w11_1 Z2 h2 hx2 hG2 (fr_tr (M := [(3, 2)]) fr_rf (hf2) (M1 := []) rfl rfl) (by omega))
                · skip
                  refine mx_J.step (sn_59 87) (fun _ _ => rfl) ?_
                  have c117 : ∀ (k40_0 : Int), 0 ≤ k40_0 ∧ k40_0 ≤ 1 → mx_J (tB l D b0 ad Hb tau) mt_59 (d + 4) 117 [some (.ref 3), some (xI w11_1), some (xI w11_2), some (xI w11_3), some (xI w11_4), some (xI z22), some (xI (((Z 3 3) + w11_4) - w11_2))] [xI k40_0] h2 Post := by
                    intro k40_0 f40_0
                    refine mx_J.step (ls2 := [some (.ref 3), some (xI w11_1), some (xI w11_2), some (xI k40_0), some (xI w11_4), some (xI z22), some (xI (((Z 3 3) + w11_4) - w11_2))]) (sn_59 117) (fun _ _ => rfl) ?_
                    refine mx_J.step (sn_59 118) (fun _ _ => rfl) ?_
                    exact c146 w11_1 w11_2 k40_0 (by omega) (by omega) (by omega) (by omega)
                  have c116 : mx_J (tB l D b0 ad Hb tau) mt_59 (d + 4) 116 [some (.ref 3), some (xI w11_1), some (xI w11_2), some (xI w11_3), some (xI w11_4), some (xI z22), some (xI (((Z 3 3) + w11_4) - w11_2))] [] h2 Post := by
                    refine JcI (z := 0) (show mx_Sn _ _ 116 (mx_const (.int 0) 117) from sn_59 116) rfl ?_
                    exact c117 0 (by omega)
                  refine Jif_eq (show mx_Sn _ _ 88 (mx_if_eq 116 91) from sn_59 88) (by omega) (fun q42 => ?_) (fun q42 => ?_)
                  · skip
                    exact c116 
                  · skip
                    refine mx_J.step (sn_59 91) (fun _ _ => rfl) ?_
                    refine mx_J.step (sn_59 93) (fun _ _ => rfl) ?_
                    have b44 : 0 ≤ Z2 3 2 ∧ Z2 3 2 ≤ 900 := hG2.pr 3 2
                    refine JgetI (g := 2) (z := Z2 3 2) hx2 (show mx_Sn _ _ 94 (mx_getf 7 2 97) from sn_59 94) a3 s3 rfl rfl rfl ?_
                    refine Jicmp_ge (show mx_Sn _ _ 97 (mx_icmp_ge 116 100) from sn_59 97) (by omega) (by omega) (fun q45 => ?_) (fun q45 => ?_)
                    · skip
                      exact c116 
                    · skip
                      refine mx_J.step (sn_59 100) (fun _ _ => rfl) ?_
                      refine JgetR (g := 0) (b := 2) hx2 (show mx_Sn _ _ 101 (mx_getf 7 0 104) from sn_59 101) a3 s3 rfl rfl (show Z2 3 0 = ((2 : Nat) : Int) from ((hf2 3 0 rfl)).trans k0) ?_
                      refine mx_J.step (sn_59 104) (fun _ _ => rfl) ?_
                      have b47 : (-128) ≤ Z 2 (((Z 3 3) + w11_4) - w11_2) ∧ Z 2 (((Z 3 3) + w11_4) - w11_2) ≤ 127 := hG.pr 2 (((Z 3 3) + w11_4) - w11_2)
                      refine JbaldI (z := Z 2 (((Z 3 3) + w11_4) - w11_2)) hx2 (show mx_Sn _ _ 106 (mx_bald 107) from sn_59 106) a2 s2 (by omega) (hf2 2 (((Z 3 3) + w11_4) - w11_2) rfl) ?_
                      refine mx_J.step (sn_59 107) (fun _ _ => rfl) ?_
                      refine Jicmp_ne (show mx_Sn _ _ 109 (mx_icmp_ne 116 112) from sn_59 109) (by omega) (by omega) (fun q48 => ?_) (fun q48 => ?_)
                      · skip
                        exact c116 
                      · skip
                        refine JcI (z := 1) (show mx_Sn _ _ 112 (mx_const (.int 1) 113) from sn_59 112) rfl ?_
                        refine mx_J.step (sn_59 113) (fun _ _ => rfl) ?_
                        exact c117 1 (by omega)
          exact c50 (Int.toNat (76 - 0) + 1) 300 0 1 0 none none (by omega) (by omega) (by omega) (by omega) (by omega) (by omega)
        refine Jicmp_ge (show mx_Sn _ _ 8 (mx_icmp_ge 39 11) from sn_59 8) (by omega) (by omega) (fun q49 => ?_) (fun q49 => ?_)
        · skip
          have b50 : 0 ≤ Z2 3 2 ∧ Z2 3 2 ≤ 900 := hG2.pr 3 2
          exact c39 (by omega)
        · skip
          refine mx_J.step (sn_59 11) (fun _ _ => rfl) ?_
          refine mx_J.step (sn_59 12) (fun _ _ => rfl) ?_
          have b52 : 0 ≤ Z2 3 2 ∧ Z2 3 2 ≤ 900 := hG2.pr 3 2
          refine JgetI (g := 2) (z := Z2 3 2) hx2 (show mx_Sn _ _ 13 (mx_getf 7 2 16) from sn_59 13) a3 s3 rfl rfl rfl ?_
          refine JcI (z := 97) (show mx_Sn _ _ 16 (mx_const (.int 97) 18) from sn_59 16) rfl ?_
          refine JcI (z := 122) (show mx_Sn _ _ 18 (mx_const (.int 122) 20) from sn_59 18) rfl ?_
          have eq54 : Z2 3 0 = Z 3 0 := (hf2 3 0 rfl)
          have b55 : 2 ≤ Z 3 0 ∧ Z 3 0 ≤ 4 := hG.pr 3 0
          have eq56 : Z2 3 1 = Z 3 1 := (hf2 3 1 rfl)
          have b57 : 0 ≤ Z 3 1 ∧ Z 3 1 ≤ 900 := hG.pr 3 1
          have eq58 : Z2 2 (Z2 3 2) = Z 2 (Z2 3 2) := (hf2 2 (Z2 3 2) rfl)
          have b59 : (-128) ≤ Z 2 (Z2 3 2) ∧ Z 2 (Z2 3 2) ≤ 127 := hG.pr 2 (Z2 3 2)
          obtain ⟨z53, hc53, b53⟩ := ct_57_3 (d := d + 3) (l := l) (D := D) (b0 := b0) (ad := ad) (Hb := Hb) (tau := tau) hx2 hG2 (show 0 ≤ Z2 3 2 ∧ Z2 3 2 ≤ 900 by omega) (show 48 ≤ 97 ∧ 97 ≤ 97 by omega) (show 57 ≤ 122 ∧ 122 ≤ 122 by omega) (show Z2 3 0 = 2 by first | omega | (simp only [eq54, eq56, eq58]; omega))
          try rw [eq54] at b53
          try rw [eq56] at b53
          try rw [eq58] at b53
          refine Jcv hx2 (show mx_Sn _ _ 20 (mx_callv 57 4 7 23) from sn_59 20) a3 s3 hc53 rfl rfl rfl ?_
          refine Jif_eq (show mx_Sn _ _ 23 (mx_if_eq 39 26) from sn_59 23) (by omega) (fun q60 => ?_) (fun q60 => ?_)
          · skip
            have b61 : 0 ≤ Z2 3 2 ∧ Z2 3 2 ≤ 900 := hG2.pr 3 2
            exact c39 (by omega)
          · skip
            refine mx_J.step (sn_59 26) (fun _ _ => rfl) ?_
            refine mx_J.step (sn_59 27) (fun _ _ => rfl) ?_
            have b63 : 0 ≤ Z2 3 2 ∧ Z2 3 2 ≤ 900 := hG2.pr 3 2
            refine JgetI (g := 2) (z := Z2 3 2) hx2 (show mx_Sn _ _ 28 (mx_getf 7 2 31) from sn_59 28) a3 s3 rfl rfl rfl ?_
            refine JcI (z := 1) (show mx_Sn _ _ 31 (mx_const (.int 1) 32) from sn_59 31) rfl ?_
            refine Jiadd (show mx_Sn _ _ 32 (mx_iadd 33) from sn_59 32) ?_
            refine JputI (g := 2) hx2 (show mx_Sn _ _ 33 (mx_putf 1 7 2 (.int) 36) from sn_59 33) a3 s3 rfl rfl rfl rfl (fun Z64 h64 hx64 hE64 => ?_)
            have hG64 := GI_up hG2 hE64 (show 0 ≤ (Z2 3 2) + 1 ∧ (Z2 3 2) + 1 ≤ 900 by omega) trivial rfl
            refine mx_J.step (sn_59 36) (fun _ _ => rfl) ?_
            have eq65 : Z64 3 2 = (Z2 3 2) + 1 := (up_at hE64)
            have eq66 : Z64 3 2 = (Z2 3 2) + 1 := (up_at hE64)
            exact ih1 Z64 h64 (by omega) (by omega) hx64 hG64 (fr_tr (M := [(3, 2)]) (fr_tr (M := [(3, 2)]) fr_rf (hf2) (M1 := []) rfl rfl) (fr_up hE64) rfl rfl)
    have b67 : 0 ≤ Z 3 2 ∧ Z 3 2 ≤ 900 := hG.pr 3 2
    have b68 : 0 ≤ Z 3 2 ∧ Z 3 2 ≤ 900 := hG.pr 3 2
    exact c0 (Int.toNat (Z 3 1 - Z 3 2) + 1) Z h (by omega) (by omega) hx hG fr_rf
theorem ct_59_3 {l : Launch} {D : va_G} {b0 : Nat} {ad : Nat → Nat} {Hb : Heap} {tau : Nat → Int64} {d n s : Nat} {S : Nat → xS} {Z : xZ} {h : mx_H} (hx : XH n s S Z h) (hG : GI n S Z)   (k0 : Z 3 0 = 2) (k1 : Z 3 3 = Z 3 2) (k2 : Z 3 2 < Z 3 1) (k3 : (97 ≤ Z 2 (Z 3 2) ∧ Z 2 (Z 3 2) ≤ 122)) : ∃ (z : Int) (Z' : xZ) (h' : mx_H), mx_Ca (tB l D b0 ad Hb tau) (d + 5) 59 [.ref 3] h (some (xI z), h') ∧ XH n s S Z' h' ∧ GI n S Z' ∧ fr' [(3, 2)] Z Z' ∧ (299 ≤ z ∧ z ≤ 376 ∧ (Z 3 2 < Z' 3 2 ∧ Z' 3 2 ≤ Z 3 1)) := by
  obtain ⟨r, hca, z, Z', h', e, q⟩ := Jmt (B := tB l D b0 ad Hb tau) (M := mt_59) (mi := 59) (as := [.ref 3]) (d := d + 4) (ls := [some (.ref 3), none, none, none, none, none, none]) rfl rfl rfl rfl rfl rfl (cw_59_3 (l := l) (D := D) (b0 := b0) (ad := ad) (Hb := Hb) (tau := tau) (d := d) (Post := fun r => ∃ (z : Int) (Z' : xZ) (h' : mx_H), r = (some (xI z), h') ∧ XH n s S Z' h' ∧ GI n S Z' ∧ fr' [(3, 2)] Z Z' ∧ (299 ≤ z ∧ z ≤ 376 ∧ (Z 3 2 < Z' 3 2 ∧ Z' 3 2 ≤ Z 3 1))) hx hG k0 k1 k2 k3 (fun z Z' h' q1 q2 q3 q4 => ⟨z, Z', h', rfl, q1, q2, q3, q4⟩))
  subst e; exact ⟨z, Z', h', hca, q⟩
set_option maxRecDepth 100000 in
theorem cw_58_3 {l : Launch} {D : va_G} {b0 : Nat} {ad : Nat → Nat} {Hb : Heap} {tau : Nat → Int64} {d n s : Nat} {S : Nat → xS} {Z : xZ} {h : mx_H} {Post : mx_R → Prop} (hx : XH n s S Z h) (hG : GI n S Z)   (k0 : Z 3 0 = 2) (k1 : Z 3 3 = Z 3 2) (k2 : Z 3 2 < Z 3 1) (k3 : (48 ≤ Z 2 (Z 3 2) ∧ Z 2 (Z 3 2) ≤ 57)) (hP : ∀ (z : Int) (Z' : xZ) (h' : mx_H), XH n s S Z' h' → GI n S Z' → fr' [(3, 2), (3, 5)] Z Z' → 1 ≤ z ∧ z ≤ 2 ∧ (Z 3 2 < Z' 3 2 ∧ Z' 3 2 ≤ Z 3 1) → Post (some (xI z), h')) : mx_J (tB l D b0 ad Hb tau) mt_58 (d + 1) 0 [some (.ref 3)] [] h Post := by
    have a2 : 2 < n := lt83 (GI_n hG) rfl
    have s2 : S 2 = .inr (.byte, 900, 0) := GI_s hG 2 rfl
    have a3 : 3 < n := lt83 (GI_n hG) rfl
    have s3 : S 3 = .inl (7, [2, 0, 0, 0, 0, 0, 2, 0, 2, 2, 0, 2, 0, 0, 0, 0]) := GI_s hG 3 rfl
    have b1 : 0 ≤ Z 3 3 ∧ Z 3 3 ≤ 900 := hG.pr 3 3
    refine mx_J.step (sn_58 0) (fun _ _ => rfl) ?_
    refine JcI (z := 0) (show mx_Sn _ _ 1 (mx_const (.int 0) 2) from sn_58 1) rfl ?_
    refine JputI (g := 5) hx (show mx_Sn _ _ 2 (mx_putf 1 7 5 (.int) 5) from sn_58 2) a3 s3 rfl rfl rfl rfl (fun Z2 h2 hx2 hE2 => ?_)
    have hG2 := GI_up hG hE2 (show 0 ≤ 0 ∧ 0 ≤ 999 by omega) trivial rfl
    have c5 : ∀ (m3 : Nat)  (Z4 : xZ) (h4 : mx_H), Z 3 1 - Z4 3 2 < (m3 : Int) → (Z 3 2 ≤ Z4 3 2 ∧ Z4 3 2 ≤ Z 3 1) → (Z4 3 2 = Z 3 2 → Z4 3 5 = 0) → (Z4 3 2 ≤ Z 3 2 + 1 → Z4 3 5 ≤ 9) → (Z4 3 2 ≤ Z 3 2 + 2 → Z4 3 5 ≤ 99) → XH n s S Z4 h4 → GI n S Z4 → fr' [(3, 2), (3, 5)] Z2 Z4 → mx_J (tB l D b0 ad Hb tau) mt_58 (d + 1) 5 [some (.ref 3)] [] h4 Post := by
      intro m3
      induction m3 with
      | zero => intro Z4 h4 q3 f3_0 f3_1 f3_2 f3_3 hx4 hG4 hf4; exact absurd q3 (by omega)
      | succ m3 ih3 =>
        intro Z4 h4 q3 f3_0 f3_1 f3_2 f3_3 hx4 hG4 hf4
        have b5 : 0 ≤ Z4 3 2 ∧ Z4 3 2 ≤ 900 := hG4.pr 3 2
        have b6 : 0 ≤ Z4 3 2 ∧ Z4 3 2 ≤ 900 := hG4.pr 3 2
        have b7 : 0 ≤ Z4 3 5 ∧ Z4 3 5 ≤ 999 := hG4.pr 3 5
        have b8 : 0 ≤ Z4 3 2 ∧ Z4 3 2 ≤ 900 := hG4.pr 3 2
        have b9 : 0 ≤ Z4 3 5 ∧ Z4 3 5 ≤ 999 := hG4.pr 3 5
        have b10 : 0 ≤ Z4 3 2 ∧ Z4 3 2 ≤ 900 := hG4.pr 3 2
        have b11 : 0 ≤ Z4 3 5 ∧ Z4 3 5 ≤ 999 := hG4.pr 3 5
        have b12 : 0 ≤ Z4 3 2 ∧ Z4 3 2 ≤ 900 := hG4.pr 3 2
        have cg4 : (Z4 3 2) = Z 3 2 → Z 2 (Z4 3 2) = Z 2 (Z 3 2) := fun e => by rw [e]
        refine mx_J.step (sn_58 5) (fun _ _ => rfl) ?_
        have b14 : 0 ≤ Z4 3 2 ∧ Z4 3 2 ≤ 900 := hG4.pr 3 2
        refine JgetI (g := 2) (z := Z4 3 2) hx4 (show mx_Sn _ _ 6 (mx_getf 7 2 9) from sn_58 6) a3 s3 rfl rfl rfl ?_
        refine mx_J.step (sn_58 9) (fun _ _ => rfl) ?_
        have b16 : 0 ≤ Z 3 1 ∧ Z 3 1 ≤ 900 := hG.pr 3 1
        refine JgetI (g := 1) (z := Z 3 1) hx4 (show mx_Sn _ _ 10 (mx_getf 7 1 13) from sn_58 10) a3 s3 rfl rfl ((hf4 3 1 rfl).trans (up_ni hE2 (by decide))) ?_
        have c81 : (Z 3 2 < Z4 3 2) → mx_J (tB l D b0 ad Hb tau) mt_58 (d + 1) 81 [some (.ref 3)] [] h4 Post := by
          intro f17_0
          have b18 : 0 ≤ Z4 3 2 ∧ Z4 3 2 ≤ 900 := hG4.pr 3 2
          refine mx_J.step (sn_58 81) (fun _ _ => rfl) ?_
          have b20 : 0 ≤ Z4 3 2 ∧ Z4 3 2 ≤ 900 := hG4.pr 3 2
          refine JgetI (g := 2) (z := Z4 3 2) hx4 (show mx_Sn _ _ 82 (mx_getf 7 2 85) from sn_58 82) a3 s3 rfl rfl rfl ?_
          refine mx_J.step (sn_58 85) (fun _ _ => rfl) ?_
          have b22 : 0 ≤ Z 3 3 ∧ Z 3 3 ≤ 900 := hG.pr 3 3
          refine JgetI (g := 3) (z := Z 3 3) hx4 (show mx_Sn _ _ 86 (mx_getf 7 3 89) from sn_58 86) a3 s3 rfl rfl ((hf4 3 3 rfl).trans (up_ni hE2 (by decide))) ?_
          refine Jisub (show mx_Sn _ _ 89 (mx_isub 90) from sn_58 89) ?_
          refine JcI (z := 3) (show mx_Sn _ _ 90 (mx_const (.int 3) 91) from sn_58 90) rfl ?_
          have c99 : ∀ (k23_0 : Int), 1 ≤ k23_0 ∧ k23_0 ≤ 2 → mx_J (tB l D b0 ad Hb tau) mt_58 (d + 1) 99 [some (.ref 3)] [xI k23_0] h4 Post := by
            intro k23_0 f23_0
            have b24 : 0 ≤ Z4 3 2 ∧ Z4 3 2 ≤ 900 := hG4.pr 3 2
            have eq25 : Z4 3 0 = Z 3 0 := ((hf4 3 0 rfl).trans (up_ni hE2 (by decide)))
            have b26 : 2 ≤ Z 3 0 ∧ Z 3 0 ≤ 4 := hG.pr 3 0
            have eq27 : Z4 3 1 = Z 3 1 := ((hf4 3 1 rfl).trans (up_ni hE2 (by decide)))
            have b28 : 0 ≤ Z 3 1 ∧ Z 3 1 ≤ 900 := hG.pr 3 1
            have b29 : 0 ≤ Z4 3 2 ∧ Z4 3 2 ≤ 900 := hG4.pr 3 2
            have eq30 : Z4 3 3 = Z 3 3 := ((hf4 3 3 rfl).trans (up_ni hE2 (by decide)))
            have b31 : 0 ≤ Z 3 3 ∧ Z 3 3 ≤ 900 := hG.pr 3 3
            exact mx_J.ret (sn_58 99) (fun _ _ => rfl) (hP k23_0 Z4 h4 hx4 hG4 (fr_tr (M := [(3, 2), (3, 5)]) (fr_tr (M := [(3, 2), (3, 5)]) fr_rf (fr_up hE2) (M1 := []) rfl rfl) (hf4) rfl rfl) (by omega))
          refine Jicmp_le (show mx_Sn _ _ 91 (mx_icmp_le 98 94) from sn_58 91) (by omega) (by omega) (fun q32 => ?_) (fun q32 => ?_)
          · skip
            refine JcI (z := 1) (show mx_Sn _ _ 98 (mx_const (.int 1) 99) from sn_58 98) rfl ?_
            exact c99 1 (by omega)
          · skip
            refine JcI (z := 2) (show mx_Sn _ _ 94 (mx_const (.int 2) 95) from sn_58 94) rfl ?_
            refine mx_J.step (sn_58 95) (fun _ _ => rfl) ?_
            exact c99 2 (by omega)
        refine Jicmp_ge (show mx_Sn _ _ 13 (mx_icmp_ge 81 16) from sn_58 13) (by omega) (by omega) (fun q33 => ?_) (fun q33 => ?_)
        · skip
          have b34 : 0 ≤ Z4 3 2 ∧ Z4 3 2 ≤ 900 := hG4.pr 3 2
          exact c81 (by omega)
        · skip
          refine mx_J.step (sn_58 16) (fun _ _ => rfl) ?_
          refine mx_J.step (sn_58 17) (fun _ _ => rfl) ?_
          have b36 : 0 ≤ Z4 3 2 ∧ Z4 3 2 ≤ 900 := hG4.pr 3 2
          refine JgetI (g := 2) (z := Z4 3 2) hx4 (show mx_Sn _ _ 18 (mx_getf 7 2 21) from sn_58 18) a3 s3 rfl rfl rfl ?_
          refine JcI (z := 48) (show mx_Sn _ _ 21 (mx_const (.int 48) 23) from sn_58 21) rfl ?_
          refine JcI (z := 57) (show mx_Sn _ _ 23 (mx_const (.int 57) 25) from sn_58 23) rfl ?_
          have eq38 : Z4 3 0 = Z 3 0 := ((hf4 3 0 rfl).trans (up_ni hE2 (by decide)))
          have b39 : 2 ≤ Z 3 0 ∧ Z 3 0 ≤ 4 := hG.pr 3 0
          have eq40 : Z4 3 1 = Z 3 1 := ((hf4 3 1 rfl).trans (up_ni hE2 (by decide)))
          have b41 : 0 ≤ Z 3 1 ∧ Z 3 1 ≤ 900 := hG.pr 3 1
          have eq42 : Z4 2 (Z4 3 2) = Z 2 (Z4 3 2) := ((hf4 2 (Z4 3 2) rfl).trans (up_nk hE2 rfl))
          have b43 : (-128) ≤ Z 2 (Z4 3 2) ∧ Z 2 (Z4 3 2) ≤ 127 := hG.pr 2 (Z4 3 2)
          obtain ⟨z37, hc37, b37⟩ := ct_57_3 (d := d + 0) (l := l) (D := D) (b0 := b0) (ad := ad) (Hb := Hb) (tau := tau) hx4 hG4 (show 0 ≤ Z4 3 2 ∧ Z4 3 2 ≤ 900 by omega) (show 48 ≤ 48 ∧ 48 ≤ 97 by omega) (show 57 ≤ 57 ∧ 57 ≤ 122 by omega) (show Z4 3 0 = 2 by first | omega | (simp only [eq38, eq40, eq42]; omega))
          try rw [eq38] at b37
          try rw [eq40] at b37
          try rw [eq42] at b37
          refine Jcv hx4 (show mx_Sn _ _ 25 (mx_callv 57 4 7 28) from sn_58 25) a3 s3 hc37 rfl rfl rfl ?_
          refine Jif_eq (show mx_Sn _ _ 28 (mx_if_eq 81 31) from sn_58 28) (by omega) (fun q44 => ?_) (fun q44 => ?_)
          · skip
            have b45 : 0 ≤ Z4 3 2 ∧ Z4 3 2 ≤ 900 := hG4.pr 3 2
            exact c81 (by omega)
          · skip
            refine mx_J.step (sn_58 31) (fun _ _ => rfl) ?_
            have b47 : 0 ≤ Z4 3 2 ∧ Z4 3 2 ≤ 900 := hG4.pr 3 2
            refine JgetI (g := 2) (z := Z4 3 2) hx4 (show mx_Sn _ _ 32 (mx_getf 7 2 35) from sn_58 32) a3 s3 rfl rfl rfl ?_
            refine mx_J.step (sn_58 35) (fun _ _ => rfl) ?_
            have b49 : 0 ≤ Z 3 3 ∧ Z 3 3 ≤ 900 := hG.pr 3 3
            refine JgetI (g := 3) (z := Z 3 3) hx4 (show mx_Sn _ _ 36 (mx_getf 7 3 39) from sn_58 36) a3 s3 rfl rfl ((hf4 3 3 rfl).trans (up_ni hE2 (by decide))) ?_
            refine Jisub (show mx_Sn _ _ 39 (mx_isub 40) from sn_58 39) ?_
            refine JcI (z := 3) (show mx_Sn _ _ 40 (mx_const (.int 3) 41) from sn_58 40) rfl ?_
            have c68 : ∀  (Z51 : xZ) (h51 : mx_H), ((Z51 3 2 ≤ Z 3 2 → Z51 3 5 ≤ 9) ∧ (Z51 3 2 ≤ Z 3 2 + 1 → Z51 3 5 ≤ 99) ∧ Z51 3 2 < Z 3 1) → XH n s S Z51 h51 → GI n S Z51 → fr' [(3, 5)] Z4 Z51 → mx_J (tB l D b0 ad Hb tau) mt_58 (d + 1) 68 [some (.ref 3)] [] h51 Post := by
              intro Z51 h51 f50_0 hx51 hG51 hf51
              have eq52 : Z51 3 2 = Z4 3 2 := (hf51 3 2 rfl)
              have b53 : 0 ≤ Z4 3 2 ∧ Z4 3 2 ≤ 900 := hG4.pr 3 2
              have b54 : 0 ≤ Z51 3 5 ∧ Z51 3 5 ≤ 999 := hG51.pr 3 5
              refine mx_J.step (sn_58 68) (fun _ _ => rfl) ?_
              refine mx_J.step (sn_58 69) (fun _ _ => rfl) ?_
              have b56 : 0 ≤ Z4 3 2 ∧ Z4 3 2 ≤ 900 := hG4.pr 3 2
              refine JgetI (g := 2) (z := Z4 3 2) hx51 (show mx_Sn _ _ 70 (mx_getf 7 2 73) from sn_58 70) a3 s3 rfl rfl (hf51 3 2 rfl) ?_
              refine JcI (z := 1) (show mx_Sn _ _ 73 (mx_const (.int 1) 74) from sn_58 73) rfl ?_
              refine Jiadd (show mx_Sn _ _ 74 (mx_iadd 75) from sn_58 74) ?_
              refine JputI (g := 2) hx51 (show mx_Sn _ _ 75 (mx_putf 1 7 2 (.int) 78) from sn_58 75) a3 s3 rfl rfl rfl rfl (fun Z57 h57 hx57 hE57 => ?_)
              have hG57 := GI_up hG51 hE57 (show 0 ≤ (Z4 3 2) + 1 ∧ (Z4 3 2) + 1 ≤ 900 by omega) trivial rfl
              refine mx_J.step (sn_58 78) (fun _ _ => rfl) ?_
              have eq58 : Z57 3 2 = (Z4 3 2) + 1 := (up_at hE57)
              have eq59 : Z57 3 2 = (Z4 3 2) + 1 := (up_at hE57)
              have eq60 : Z57 3 5 = Z51 3 5 := (up_ni hE57 (by decide))
              have b61 : 0 ≤ Z51 3 5 ∧ Z51 3 5 ≤ 999 := hG51.pr 3 5
              have eq62 : Z57 3 2 = (Z4 3 2) + 1 := (up_at hE57)
              have eq63 : Z57 3 5 = Z51 3 5 := (up_ni hE57 (by decide))
              have b64 : 0 ≤ Z51 3 5 ∧ Z51 3 5 ≤ 999 := hG51.pr 3 5
              have eq65 : Z57 3 2 = (Z4 3 2) + 1 := (up_at hE57)
              have eq66 : Z57 3 5 = Z51 3 5 := (up_ni hE57 (by decide))
              have b67 : 0 ≤ Z51 3 5 ∧ Z51 3 5 ≤ 999 := hG51.pr 3 5
              have eq68 : Z57 3 2 = (Z4 3 2) + 1 := (up_at hE57)
              exact ih3 Z57 h57 (by omega) (by omega) (by omega) (by omega) (by omega) hx57 hG57 (fr_tr (M := [(3, 2), (3, 5)]) (fr_tr (M := [(3, 2), (3, 5)]) (fr_tr (M := [(3, 2), (3, 5)]) fr_rf (hf4) (M1 := []) rfl rfl) (hf51) rfl rfl) (fr_up hE57) rfl rfl)
            refine Jicmp_ge (show mx_Sn _ _ 41 (mx_icmp_ge 68 44) from sn_58 41) (by omega) (by omega) (fun q69 => ?_) (fun q69 => ?_)
            · skip
              have b70 : 0 ≤ Z4 3 2 ∧ Z4 3 2 ≤ 900 := hG4.pr 3 2
              have b71 : 0 ≤ Z4 3 5 ∧ Z4 3 5 ≤ 999 := hG4.pr 3 5
              exact c68 Z4 h4 (by omega) hx4 hG4 fr_rf
            · skip
              refine mx_J.step (sn_58 44) (fun _ _ => rfl) ?_
              refine mx_J.step (sn_58 45) (fun _ _ => rfl) ?_
              have b73 : 0 ≤ Z4 3 5 ∧ Z4 3 5 ≤ 999 := hG4.pr 3 5
              refine JgetI (g := 5) (z := Z4 3 5) hx4 (show mx_Sn _ _ 46 (mx_getf 7 5 49) from sn_58 46) a3 s3 rfl rfl rfl ?_
              refine JcI (z := 10) (show mx_Sn _ _ 49 (mx_const (.int 10) 51) from sn_58 49) rfl ?_
              refine Jimul (show mx_Sn _ _ 51 (mx_imul 52) from sn_58 51) ?_
              refine mx_J.step (sn_58 52) (fun _ _ => rfl) ?_
              refine JgetR (g := 0) (b := 2) hx4 (show mx_Sn _ _ 53 (mx_getf 7 0 56) from sn_58 53) a3 s3 rfl rfl (show Z4 3 0 = ((2 : Nat) : Int) from (((hf4 3 0 rfl).trans (up_ni hE2 (by decide)))).trans k0) ?_
              refine mx_J.step (sn_58 56) (fun _ _ => rfl) ?_
              have b76 : 0 ≤ Z4 3 2 ∧ Z4 3 2 ≤ 900 := hG4.pr 3 2
              refine JgetI (g := 2) (z := Z4 3 2) hx4 (show mx_Sn _ _ 57 (mx_getf 7 2 60) from sn_58 57) a3 s3 rfl rfl rfl ?_
              have b77 : (-128) ≤ Z 2 (Z4 3 2) ∧ Z 2 (Z4 3 2) ≤ 127 := hG.pr 2 (Z4 3 2)
              refine JbaldI (z := Z 2 (Z4 3 2)) hx4 (show mx_Sn _ _ 60 (mx_bald 61) from sn_58 60) a2 s2 (by omega) ((hf4 2 (Z4 3 2) rfl).trans (up_nk hE2 rfl)) ?_
              refine Jiadd (show mx_Sn _ _ 61 (mx_iadd 62) from sn_58 61) ?_
              refine JcI (z := 48) (show mx_Sn _ _ 62 (mx_const (.int 48) 64) from sn_58 62) rfl ?_
              refine Jisub (show mx_Sn _ _ 64 (mx_isub 65) from sn_58 64) ?_
              refine JputI (g := 5) hx4 (show mx_Sn _ _ 65 (mx_putf 1 7 5 (.int) 68) from sn_58 65) a3 s3 rfl rfl rfl rfl (fun Z78 h78 hx78 hE78 => ?_)
              have hG78 := GI_up hG4 hE78 (show 0 ≤ (((Z4 3 5) * 10) + (Z 2 (Z4 3 2))) - 48 ∧ (((Z4 3 5) * 10) + (Z 2 (Z4 3 2))) - 48 ≤ 999 by omega) trivial rfl
              have eq79 : Z78 3 2 = Z4 3 2 := (up_ni hE78 (by decide))
              have b80 : 0 ≤ Z4 3 2 ∧ Z4 3 2 ≤ 900 := hG4.pr 3 2
              have eq81 : Z78 3 5 = (((Z4 3 5) * 10) + (Z 2 (Z4 3 2))) - 48 := (up_at hE78)
              exact c68 Z78 h78 (by omega) hx78 hG78 (fr_tr (M := [(3, 5)]) fr_rf (fr_up hE78) (M1 := []) rfl rfl)
    have eq82 : Z2 3 2 = Z 3 2 := (up_ni hE2 (by decide))
    have b83 : 0 ≤ Z 3 2 ∧ Z 3 2 ≤ 900 := hG.pr 3 2
    have eq84 : Z2 3 2 = Z 3 2 := (up_ni hE2 (by decide))
    have b85 : 0 ≤ Z 3 2 ∧ Z 3 2 ≤ 900 := hG.pr 3 2
    have eq86 : Z2 3 5 = 0 := (up_at hE2)
    have eq87 : Z2 3 2 = Z 3 2 := (up_ni hE2 (by decide))
    have b88 : 0 ≤ Z 3 2 ∧ Z 3 2 ≤ 900 := hG.pr 3 2
    have eq89 : Z2 3 5 = 0 := (up_at hE2)
    have eq90 : Z2 3 2 = Z 3 2 := (up_ni hE2 (by decide))
    have b91 : 0 ≤ Z 3 2 ∧ Z 3 2 ≤ 900 := hG.pr 3 2
    have eq92 : Z2 3 5 = 0 := (up_at hE2)
    have eq93 : Z2 3 2 = Z 3 2 := (up_ni hE2 (by decide))
    have b94 : 0 ≤ Z 3 2 ∧ Z 3 2 ≤ 900 := hG.pr 3 2
    exact c5 (Int.toNat (Z 3 1 - Z2 3 2) + 1) Z2 h2 (by omega) (by omega) (by omega) (by omega) (by omega) hx2 hG2 fr_rf
theorem ct_58_3 {l : Launch} {D : va_G} {b0 : Nat} {ad : Nat → Nat} {Hb : Heap} {tau : Nat → Int64} {d n s : Nat} {S : Nat → xS} {Z : xZ} {h : mx_H} (hx : XH n s S Z h) (hG : GI n S Z)   (k0 : Z 3 0 = 2) (k1 : Z 3 3 = Z 3 2) (k2 : Z 3 2 < Z 3 1) (k3 : (48 ≤ Z 2 (Z 3 2) ∧ Z 2 (Z 3 2) ≤ 57)) : ∃ (z : Int) (Z' : xZ) (h' : mx_H), mx_Ca (tB l D b0 ad Hb tau) (d + 2) 58 [.ref 3] h (some (xI z), h') ∧ XH n s S Z' h' ∧ GI n S Z' ∧ fr' [(3, 2), (3, 5)] Z Z' ∧ (1 ≤ z ∧ z ≤ 2 ∧ (Z 3 2 < Z' 3 2 ∧ Z' 3 2 ≤ Z 3 1)) := by
  obtain ⟨r, hca, z, Z', h', e, q⟩ := Jmt (B := tB l D b0 ad Hb tau) (M := mt_58) (mi := 58) (as := [.ref 3]) (d := d + 1) (ls := [some (.ref 3)]) rfl rfl rfl rfl rfl rfl (cw_58_3 (l := l) (D := D) (b0 := b0) (ad := ad) (Hb := Hb) (tau := tau) (d := d) (Post := fun r => ∃ (z : Int) (Z' : xZ) (h' : mx_H), r = (some (xI z), h') ∧ XH n s S Z' h' ∧ GI n S Z' ∧ fr' [(3, 2), (3, 5)] Z Z' ∧ (1 ≤ z ∧ z ≤ 2 ∧ (Z 3 2 < Z' 3 2 ∧ Z' 3 2 ≤ Z 3 1))) hx hG k0 k1 k2 k3 (fun z Z' h' q1 q2 q3 q4 => ⟨z, Z', h', rfl, q1, q2, q3, q4⟩))
  subst e; exact ⟨z, Z', h', hca, q⟩
