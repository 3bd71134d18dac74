set_option maxRecDepth 100000 in
theorem cw_101_1_i1 {l : Launch} {D : va_G} {b0 : Nat} {ad : Nat → Nat} {Hb : Heap} {tau : Nat → Int64} {d n s : Nat} {S : Nat → xS} {Z : xZ} {h : mx_H} {Post : mx_R → Prop} (hx : XH n s S Z h) (hG : GI n S Z)  {x1 : Int} (p1 : (-2147483648) ≤ x1 ∧ x1 ≤ 2147483647) (hP : ∀ (z : Int) (Z' : xZ) (h' : mx_H), XH n s S Z' h' → GI n S Z' → fr' [(12, 2), (14, (-1)), (16, (-1)), (17, (-1)), (18, (-1)), (19, (-1)), (38, 0), (38, 1), (38, 2), (38, 3), (38, 4), (42, (-1))] Z Z' → (-6) ≤ z ∧ z ≤ 384 → Post (some (xI z), h')) : mx_J (tB l D b0 ad Hb tau) mt_101 (d + 7) 0 [some (.ref 1), some (xI 1), some (xI x1), none, none] [] h Post := by
    have a1 : 1 < n := lt83 (GI_n hG) rfl
    have s1 : S 1 = .inl (11, [2, 0, 0, 0, 2, 2, 2, 2, 2, 2, 2, 2, 2, 2, 2, 2, 2]) := GI_s hG 1 rfl
    have a7 : 7 < n := lt83 (GI_n hG) rfl
    have s7 : S 7 = .inl (0, [2, 2, 2, 2, 0, 0]) := GI_s hG 7 rfl
    have a12 : 12 < n := lt83 (GI_n hG) rfl
    have s12 : S 12 = .inl (4, [2, 2, 0, 2, 2, 2, 2, 2, 2]) := GI_s hG 12 rfl
    have a34 : 34 < n := lt83 (GI_n hG) rfl
    have s34 : S 34 = .inr ((.object "TitheHeap$Tray"), 4, 2) := GI_s hG 34 rfl
    have a36 : 36 < n := lt83 (GI_n hG) rfl
    have s36 : S 36 = .inl (5, [2, 0, 0, 0, 0, 0]) := GI_s hG 36 rfl
    have a38 : 38 < n := lt83 (GI_n hG) rfl
    have s38 : S 38 = .inl (5, [2, 0, 0, 0, 0, 0]) := GI_s hG 38 rfl
    have a46 : 46 < n := lt83 (GI_n hG) rfl
    have s46 : S 46 = .inl (10, [2, 0, 0, 0]) := GI_s hG 46 rfl
    refine mx_J.step (sn_101 0) (fun _ _ => rfl) ?_
    refine mx_J.step (sn_101 1) (fun _ _ => rfl) ?_
    obtain ⟨z1, hc1, b1⟩ := ct_144_1_y (d := d + 6) (l := l) (D := D) (b0 := b0) (ad := ad) (Hb := Hb) (tau := tau) hx hG (show 0 ≤ 1 ∧ 1 ≤ 3 by omega)
    refine Jcv hx (show mx_Sn _ _ 2 (mx_callv 144 2 11 5) from sn_101 2) a1 s1 hc1 rfl rfl rfl ?_
    have c17 : mx_J (tB l D b0 ad Hb tau) mt_101 (d + 7) 17 [some (.ref 1), some (xI 1), some (xI x1), none, none] [] h Post := by
      refine JcI (z := (-2)) (show mx_Sn _ _ 17 (mx_const (.int (-2)) 19) from sn_101 17) rfl ?_
      exact mx_J.ret (sn_101 19) (fun _ _ => rfl) (hP (-2) Z h hx hG fr_rf (by omega))
    refine Jif_ne (show mx_Sn _ _ 5 (mx_if_ne 17 8) from sn_101 5) (by omega) (fun q3 => ?_) (fun q3 => ?_)
    · skip
      exact c17 
    · skip
      refine mx_J.step (sn_101 8) (fun _ _ => rfl) ?_
      refine Jif_lt (show mx_Sn _ _ 9 (mx_if_lt 17 12) from sn_101 9) (by omega) (fun q4 => ?_) (fun q4 => ?_)
      · skip
        exact c17 
      · skip
        refine mx_J.step (sn_101 12) (fun _ _ => rfl) ?_
        refine JcI (z := 3) (show mx_Sn _ _ 13 (mx_const (.int 3) 14) from sn_101 13) rfl ?_
        refine Jicmp_le (show mx_Sn _ _ 14 (mx_icmp_le 20 17) from sn_101 14) (by omega) (by omega) (fun q5 => ?_) (fun q5 => ?_)
        · skip
          refine mx_J.step (sn_101 20) (fun _ _ => rfl) ?_
          refine JgetR (g := 10) (b := 34) hx (show mx_Sn _ _ 21 (mx_getf 11 10 24) from sn_101 21) a1 s1 rfl rfl (hG.prr 1 10 rfl) ?_
          refine mx_J.step (sn_101 24) (fun _ _ => rfl) ?_
          refine JaaldR (i := 1) (b := 46) hx (show mx_Sn _ _ 25 (mx_aald 26) from sn_101 25) a34 s34 (by omega) (show Z 34 1 = 46 by have hq := GI_ex hG 34 1; replace hq : ((0 : Int) ≤ 1 → (1 : Int) ≤ 3 → (Z 34 1) = 44 + 2 * 1) := hq; omega) ?_
          have b8 : 0 ≤ Z 46 3 ∧ Z 46 3 ≤ 1 := hG.pr 46 3
          refine JgetI (g := 3) (z := Z 46 3) hx (show mx_Sn _ _ 26 (mx_getf 10 3 29) from sn_101 26) a46 s46 rfl rfl rfl ?_
          refine Jif_eq (show mx_Sn _ _ 29 (mx_if_eq 35 32) from sn_101 29) (by omega) (fun q9 => ?_) (fun q9 => ?_)
          · skip
            refine mx_J.step (sn_101 35) (fun _ _ => rfl) ?_
            refine JgetR (g := 13) (b := 38) hx (show mx_Sn _ _ 36 (mx_getf 11 13 39) from sn_101 36) a1 s1 rfl rfl (hG.prr 1 13 rfl) ?_
            refine mx_J.step (sn_101 39) (fun _ _ => rfl) ?_
            refine JgetR (g := 12) (b := 36) hx (show mx_Sn _ _ 40 (mx_getf 11 12 43) from sn_101 40) a1 s1 rfl rfl (hG.prr 1 12 rfl) ?_
            have b13 : 1 ≤ Z 36 1 ∧ Z 36 1 ≤ 18 := hG.pr 36 1
            obtain ⟨Z12, h12, hc12, hx12, hG12, hf12, b12⟩ := ct_33_38_36 (d := d + 6) (l := l) (D := D) (b0 := b0) (ad := ad) (Hb := Hb) (tau := tau) hx hG 
            have b14 : 1 ≤ Z12 38 1 ∧ Z12 38 1 ≤ 18 := hG12.pr 38 1
            refine Jcv0 hx (show mx_Sn _ _ 43 (mx_callv 33 2 5 46) from sn_101 43) a38 s38 hc12 rfl rfl rfl ?_
            refine mx_J.step (sn_101 46) (fun _ _ => rfl) ?_
            refine mx_J.step (sn_101 47) (fun _ _ => rfl) ?_
            refine JgetR (g := 10) (b := 34) hx12 (show mx_Sn _ _ 48 (mx_getf 11 10 51) from sn_101 48) a1 s1 rfl rfl (hG12.prr 1 10 rfl) ?_
            refine mx_J.step (sn_101 51) (fun _ _ => rfl) ?_
            refine JaaldR (i := 1) (b := 46) hx12 (show mx_Sn _ _ 52 (mx_aald 53) from sn_101 52) a34 s34 (by omega) (show Z12 34 1 = 46 by have hq := GI_ex hG12 34 1; replace hq : ((0 : Int) ≤ 1 → (1 : Int) ≤ 3 → (Z12 34 1) = 44 + 2 * 1) := hq; omega) ?_
            obtain ⟨z16, Z16, h16, hc16, hx16, hG16, hf16, b16⟩ := ct_138_1_46 (d := d + 0) (l := l) (D := D) (b0 := b0) (ad := ad) (Hb := Hb) (tau := tau) hx12 hG12 
            refine Jcv hx12 (show mx_Sn _ _ 53 (mx_callv 138 2 11 56) from sn_101 53) a1 s1 hc16 rfl rfl rfl ?_
            refine mx_J.step (ls2 := [some (.ref 1), some (xI 1), some (xI x1), some (xI z16), none]) (sn_101 56) (fun _ _ => rfl) ?_
            refine mx_J.step (sn_101 57) (fun _ _ => rfl) ?_
            refine mx_J.step (sn_101 58) (fun _ _ => rfl) ?_
            refine JgetR (g := 10) (b := 34) hx16 (show mx_Sn _ _ 59 (mx_getf 11 10 62) from sn_101 59) a1 s1 rfl rfl (hG16.prr 1 10 rfl) ?_
            refine mx_J.step (sn_101 62) (fun _ _ => rfl) ?_
            refine JaaldR (i := 1) (b := 46) hx16 (show mx_Sn _ _ 63 (mx_aald 64) from sn_101 63) a34 s34 (by omega) (show Z16 34 1 = 46 by have hq := GI_ex hG16 34 1; replace hq : ((0 : Int) ≤ 1 → (1 : Int) ≤ 3 → (Z16 34 1) = 44 + 2 * 1) := hq; omega) ?_
            have b19 : 0 ≤ Z 46 2 ∧ Z 46 2 ≤ 40 := hG.pr 46 2
            refine JgetI (g := 2) (z := Z 46 2) hx16 (show mx_Sn _ _ 64 (mx_getf 10 2 67) from sn_101 64) a46 s46 rfl rfl ((hf16 46 2 rfl).trans (hf12 46 2 rfl)) ?_
            have c92 : ∀ (k20_0 : Int) (Z21 : xZ) (h21 : mx_H), 0 ≤ k20_0 ∧ k20_0 ≤ 2 → XH n s S Z21 h21 → GI n S Z21 → fr' [(12, 2), (14, (-1)), (16, (-1)), (17, (-1)), (18, (-1)), (19, (-1)), (38, 2), (38, 3), (38, 4), (42, (-1))] Z16 Z21 → mx_J (tB l D b0 ad Hb tau) mt_101 (d + 7) 92 [some (.ref 1), some (xI 1), some (xI x1), some (xI z16), none] [xI k20_0] h21 Post := by
              intro k20_0 Z21 h21 f20_0 hx21 hG21 hf21
              refine mx_J.step (ls2 := [some (.ref 1), some (xI 1), some (xI x1), some (xI z16), some (xI k20_0)]) (sn_101 92) (fun _ _ => rfl) ?_
              refine mx_J.step (sn_101 94) (fun _ _ => rfl) ?_
              refine JgetR (g := 6) (b := 12) hx21 (show mx_Sn _ _ 95 (mx_getf 11 6 98) from sn_101 95) a1 s1 rfl rfl (hG21.prr 1 6 rfl) ?_
              refine mx_J.step (sn_101 98) (fun _ _ => rfl) ?_
              refine JgetR (g := 12) (b := 36) hx21 (show mx_Sn _ _ 99 (mx_getf 11 12 102) from sn_101 99) a1 s1 rfl rfl (hG21.prr 1 12 rfl) ?_
              have b25 : 0 ≤ Z 36 3 ∧ Z 36 3 ≤ 9 := hG.pr 36 3
              refine JgetI (g := 3) (z := Z 36 3) hx21 (show mx_Sn _ _ 102 (mx_getf 5 3 105) from sn_101 102) a36 s36 rfl rfl ((hf21 36 3 rfl).trans ((hf16 36 3 rfl).trans (hf12 36 3 rfl))) ?_
              obtain ⟨Z26, h26, hc26, hx26, hG26, hf26⟩ := ct_25_12 (d := d + 6) (l := l) (D := D) (b0 := b0) (ad := ad) (Hb := Hb) (tau := tau) hx21 hG21 (show 0 ≤ Z 36 3 ∧ Z 36 3 ≤ 9 by omega)
              refine Jcv0 hx21 (show mx_Sn _ _ 105 (mx_callv 25 2 4 108) from sn_101 105) a12 s12 hc26 rfl rfl rfl ?_
              refine mx_J.step (sn_101 108) (fun _ _ => rfl) ?_
              refine Jtsw (z := x1) (show mx_Sn _ _ 109 (mx_tsw 0 2 [136, 147, 150] 165) from sn_101 109) (by omega) (fun q27 => ?_) (fun q27 => ?_)
              · skip
                refine mx_J.step (sn_101 165) (fun _ _ => rfl) ?_
                refine JgetR (g := 13) (b := 38) hx26 (show mx_Sn _ _ 166 (mx_getf 11 13 169) from sn_101 166) a1 s1 rfl rfl (hG26.prr 1 13 rfl) ?_
                have b30 : 0 ≤ Z21 38 2 ∧ Z21 38 2 ≤ 384 := hG21.pr 38 2
                refine JgetI (g := 2) (z := Z21 38 2) hx26 (show mx_Sn _ _ 169 (mx_getf 5 2 172) from sn_101 169) a38 s38 rfl rfl (hf26 38 2 rfl) ?_
                exact mx_J.ret (sn_101 172) (fun _ _ => rfl) (hP (Z21 38 2) Z26 h26 hx26 hG26 (fr_tr (M := [(12, 2), (14, (-1)), (16, (-1)), (17, (-1)), (18, (-1)), (19, (-1)), (38, 0), (38, 1), (38, 2), (38, 3), (38, 4), (42, (-1))]) (fr_tr (M := [(12, 2), (14, (-1)), (16, (-1)), (17, (-1)), (18, (-1)), (19, (-1)), (38, 0), (38, 1), (38, 2), (38, 3), (38, 4), (42, (-1))]) (fr_tr (M := [(12, 2), (14, (-1)), (16, (-1)), (17, (-1)), (18, (-1)), (19, (-1)), (38, 0), (38, 1), (38, 2), (38, 3), (38, 4), (42, (-1))]) (fr_tr (M := [(12, 2), (14, (-1)), (16, (-1)), (17, (-1)), (18, (-1)), (19, (-1)), (38, 0), (38, 1), (38, 2), (38, 3), (38, 4), (42, (-1))]) fr_rf (hf12) (M1 := []) rfl rfl) (hf16) rfl rfl) (hf21) rfl rfl) (hf26) rfl rfl) (by omega))
              · skip
                have e27 : x1 = 0 ∨ x1 = 1 ∨ x1 = 2 := by omega
                rcases e27 with e27 | e27 | e27
                · refine ⟨136, by rw [e27]; rfl, ?_⟩
                  refine mx_J.step (sn_101 136) (fun _ _ => rfl) ?_
                  have c146 : ∀ (k31_0 : Int), (-1) ≤ k31_0 ∧ k31_0 ≤ 40 → mx_J (tB l D b0 ad Hb tau) mt_101 (d + 7) 146 [some (.ref 1), some (xI 1), some (xI x1), some (xI z16), some (xI k20_0)] [xI k31_0] h26 Post := by
                    intro k31_0 f31_0
                    exact mx_J.ret (sn_101 146) (fun _ _ => rfl) (hP k31_0 Z26 h26 hx26 hG26 (fr_tr (M := [(12, 2), (14, (-1)), (16, (-1)), (17, (-1)), (18, (-1)), (19, (-1)), (38, 0), (38, 1), (38, 2), (38, 3), (38, 4), (42, (-1))]) (fr_tr (M := [(12, 2), (14, (-1)), (16, (-1)), (17, (-1)), (18, (-1)), (19, (-1)), (38, 0), (38, 1), (38, 2), (38, 3), (38, 4), (42, (-1))]) (fr_tr (M := [(12, 2), (14, (-1)), (16, (-1)), (17, (-1)), (18, (-1)), (19, (-1)), (38, 0), (38, 1), (38, 2), (38, 3), (38, 4), (42, (-1))]) (fr_tr (M := [(12, 2), (14, (-1)), (16, (-1)), (17, (-1)), (18, (-1)), (19, (-1)), (38, 0), (38, 1), (38, 2), (38, 3), (38, 4), (42, (-1))]) fr_rf (hf12) (M1 := []) rfl rfl) (hf16) rfl rfl) (hf21) rfl rfl) (hf26) rfl rfl) (by omega))
                  refine Jif_ne (show mx_Sn _ _ 138 (mx_if_ne 145 141) from sn_101 138) (by omega) (fun q32 => ?_) (fun q32 => ?_)
                  · skip
                    refine mx_J.step (sn_101 145) (fun _ _ => rfl) ?_
                    exact c146 z16 (by omega)
                  · skip
                    refine JcI (z := (-1)) (show mx_Sn _ _ 141 (mx_const (.int (-1)) 142) from sn_101 141) rfl ?_
                    refine mx_J.step (sn_101 142) (fun _ _ => rfl) ?_
                    exact c146 (-1) (by omega)
                · refine ⟨147, by rw [e27]; rfl, ?_⟩
                  refine mx_J.step (sn_101 147) (fun _ _ => rfl) ?_
                  exact mx_J.ret (sn_101 149) (fun _ _ => rfl) (hP k20_0 Z26 h26 hx26 hG26 (fr_tr (M := [(12, 2), (14, (-1)), (16, (-1)), (17, (-1)), (18, (-1)), (19, (-1)), (38, 0), (38, 1), (38, 2), (38, 3), (38, 4), (42, (-1))]) (fr_tr (M := [(12, 2), (14, (-1)), (16, (-1)), (17, (-1)), (18, (-1)), (19, (-1)), (38, 0), (38, 1), (38, 2), (38, 3), (38, 4), (42, (-1))]) (fr_tr (M := [(12, 2), (14, (-1)), (16, (-1)), (17, (-1)), (18, (-1)), (19, (-1)), (38, 0), (38, 1), (38, 2), (38, 3), (38, 4), (42, (-1))]) (fr_tr (M := [(12, 2), (14, (-1)), (16, (-1)), (17, (-1)), (18, (-1)), (19, (-1)), (38, 0), (38, 1), (38, 2), (38, 3), (38, 4), (42, (-1))]) fr_rf (hf12) (M1 := []) rfl rfl) (hf16) rfl rfl) (hf21) rfl rfl) (hf26) rfl rfl) (by omega))
                · refine ⟨150, by rw [e27]; rfl, ?_⟩
                  refine mx_J.step (sn_101 150) (fun _ _ => rfl) ?_
                  refine JgetR (g := 5) (b := 7) hx26 (show mx_Sn _ _ 151 (mx_getf 11 5 154) from sn_101 151) a1 s1 rfl rfl (hG26.prr 1 5 rfl) ?_
                  refine mx_J.step (sn_101 154) (fun _ _ => rfl) ?_
                  refine JgetR (g := 13) (b := 38) hx26 (show mx_Sn _ _ 155 (mx_getf 11 13 158) from sn_101 155) a1 s1 rfl rfl (hG26.prr 1 13 rfl) ?_
                  have b36 : 0 ≤ Z21 38 2 ∧ Z21 38 2 ≤ 384 := hG21.pr 38 2
                  refine JgetI (g := 2) (z := Z21 38 2) hx26 (show mx_Sn _ _ 158 (mx_getf 5 2 161) from sn_101 158) a38 s38 rfl rfl (hf26 38 2 rfl) ?_
                  have eq38 : Z26 7 5 = Z 7 5 := ((hf26 7 5 rfl).trans ((hf21 7 5 rfl).trans ((hf16 7 5 rfl).trans (hf12 7 5 rfl))))
                  have b39 : 0 ≤ Z 7 5 ∧ Z 7 5 ≤ 385 := hG.pr 7 5
                  have eq40 : Z26 10 (Z21 38 2) = Z 10 (Z21 38 2) := ((hf26 10 (Z21 38 2) rfl).trans ((hf21 10 (Z21 38 2) rfl).trans ((hf16 10 (Z21 38 2) rfl).trans (hf12 10 (Z21 38 2) rfl))))
                  have b41 : 0 ≤ Z 10 (Z21 38 2) ∧ Z 10 (Z21 38 2) ≤ 18 := hG.pr 10 (Z21 38 2)
                  obtain ⟨z37, hc37, b37⟩ := ct_5_7 (d := d + 6) (l := l) (D := D) (b0 := b0) (ad := ad) (Hb := Hb) (tau := tau) hx26 hG26 (show (-2147483648) ≤ Z21 38 2 ∧ Z21 38 2 ≤ 2147483647 by omega)
                  try rw [eq38] at b37
                  try rw [eq40] at b37
                  refine Jcv hx26 (show mx_Sn _ _ 161 (mx_callv 5 2 0 164) from sn_101 161) a7 s7 hc37 rfl rfl rfl ?_
                  exact mx_J.ret (sn_101 164) (fun _ _ => rfl) (hP z37 Z26 h26 hx26 hG26 (fr_tr (M := [(12, 2), (14, (-1)), (16, (-1)), (17, (-1)), (18, (-1)), (19, (-1)), (38, 0), (38, 1), (38, 2), (38, 3), (38, 4), (42, (-1))]) (fr_tr (M := [(12, 2), (14, (-1)), (16, (-1)), (17, (-1)), (18, (-1)), (19, (-1)), (38, 0), (38, 1), (38, 2), (38, 3), (38, 4), (42, (-1))]) (fr_tr (M := [(12, 2), (14, (-1)), (16, (-1)), (17, (-1)), (18, (-1)), (19, (-1)), (38, 0), (38, 1), (38, 2), (38, 3), (38, 4), (42, (-1))]) (fr_tr (M := [(12, 2), (14, (-1)), (16, (-1)), (17, (-1)), (18, (-1)), (19, (-1)), (38, 0), (38, 1), (38, 2), (38, 3), (38, 4), (42, (-1))]) fr_rf (hf12) (M1 := []) rfl rfl) (hf16) rfl rfl) (hf21) rfl rfl) (hf26) rfl rfl) (by omega))
            refine Jicmp_ge (show mx_Sn _ _ 67 (mx_icmp_ge 91 70) from sn_101 67) (by omega) (by omega) (fun q42 => ?_) (fun q42 => ?_)
            · skip
              refine JcI (z := 0) (show mx_Sn _ _ 91 (mx_const (.int 0) 92) from sn_101 91) rfl ?_
              exact c92 0 Z16 h16 (by omega) hx16 hG16 fr_rf
            · skip
              refine mx_J.step (sn_101 70) (fun _ _ => rfl) ?_
              refine mx_J.step (sn_101 71) (fun _ _ => rfl) ?_
              refine JgetR (g := 13) (b := 38) hx16 (show mx_Sn _ _ 72 (mx_getf 11 13 75) from sn_101 72) a1 s1 rfl rfl (hG16.prr 1 13 rfl) ?_
              refine mx_J.step (sn_101 75) (fun _ _ => rfl) ?_
              refine JgetR (g := 10) (b := 34) hx16 (show mx_Sn _ _ 76 (mx_getf 11 10 79) from sn_101 76) a1 s1 rfl rfl (hG16.prr 1 10 rfl) ?_
              refine mx_J.step (sn_101 79) (fun _ _ => rfl) ?_
              refine JaaldR (i := 1) (b := 46) hx16 (show mx_Sn _ _ 80 (mx_aald 81) from sn_101 80) a34 s34 (by omega) (show Z16 34 1 = 46 by have hq := GI_ex hG16 34 1; replace hq : ((0 : Int) ≤ 1 → (1 : Int) ≤ 3 → (Z16 34 1) = 44 + 2 * 1) := hq; omega) ?_
              refine mx_J.step (sn_101 81) (fun _ _ => rfl) ?_
              have eq46 : Z16 47 z16 = Z 47 z16 := ((hf16 47 z16 rfl).trans (hf12 47 z16 rfl))
              have b47 : (-9223372036854775808) ≤ Z 47 z16 ∧ Z 47 z16 ≤ 9223372036854775807 := hG.pr 47 z16
              obtain ⟨z45, hc45, b45⟩ := ct_85_46 (d := d + 6) (l := l) (D := D) (b0 := b0) (ad := ad) (Hb := Hb) (tau := tau) hx16 hG16 (show (-2147483648) ≤ z16 ∧ z16 ≤ 2147483647 by omega)
              try rw [eq46] at b45
              refine Jcv hx16 (show mx_Sn _ _ 82 (mx_callv 85 2 10 85) from sn_101 82) a46 s46 hc45 rfl rfl rfl ?_
              obtain ⟨z48, Z48, h48, hc48, hx48, hG48, hf48, b48⟩ := ct_139_1_38 (d := d + 1) (l := l) (D := D) (b0 := b0) (ad := ad) (Hb := Hb) (tau := tau) hx16 hG16 (show (-9223372036854775808) ≤ z45 ∧ z45 ≤ 9223372036854775807 by omega)
              refine Jcv hx16 (show mx_Sn _ _ 85 (mx_callv 139 3 11 88) from sn_101 85) a1 s1 hc48 rfl rfl rfl ?_
              refine mx_J.step (sn_101 88) (fun _ _ => rfl) ?_
              exact c92 z48 Z48 h48 (by omega) hx48 hG48 (fr_tr (M := [(12, 2), (14, (-1)), (16, (-1)), (17, (-1)), (18, (-1)), (19, (-1)), (38, 2), (38, 3), (38, 4), (42, (-1))]) fr_rf (hf48) (M1 := []) rfl rfl)
          · skip
            refine JcI (z := (-6)) (show mx_Sn _ _ 32 (mx_const (.int (-6)) 34) from sn_101 32) rfl ?_
            exact mx_J.ret (sn_101 34) (fun _ _ => rfl) (hP (-6) Z h hx hG fr_rf (by omega))
        · skip
          exact c17 
theorem ct_101_1_i1 {l : Launch} {D : va_G} {b0 : Nat} {ad : Nat → Nat} {Hb : Heap} {tau : Nat → Int64} {d n s : Nat} {S : Nat → xS} {Z : xZ} {h : mx_H} (hx : XH n s S Z h) (hG : GI n S Z)  {x1 : Int} (p1 : (-2147483648) ≤ x1 ∧ x1 ≤ 2147483647) : ∃ (z : Int) (Z' : xZ) (h' : mx_H), mx_Ca (tB l D b0 ad Hb tau) (d + 8) 101 [.ref 1, xI 1, xI x1] h (some (xI z), h') ∧ XH n s S Z' h' ∧ GI n S Z' ∧ fr' [(12, 2), (14, (-1)), (16, (-1)), (17, (-1)), (18, (-1)), (19, (-1)), (38, 0), (38, 1), (38, 2), (38, 3), (38, 4), (42, (-1))] Z Z' ∧ ((-6) ≤ z ∧ z ≤ 384) := by
  obtain ⟨r, hca, z, Z', h', e, q⟩ := Jmt (B := tB l D b0 ad Hb tau) (M := mt_101) (mi := 101) (as := [.ref 1, xI 1, xI x1]) (d := d + 7) (ls := [some (.ref 1), some (xI 1), some (xI x1), none, none]) rfl rfl rfl rfl rfl rfl (cw_101_1_i1 (l := l) (D := D) (b0 := b0) (ad := ad) (Hb := Hb) (tau := tau) (d := d) (Post := fun r => ∃ (z : Int) (Z' : xZ) (h' : mx_H), r = (some (xI z), h') ∧ XH n s S Z' h' ∧ GI n S Z' ∧ fr' [(12, 2), (14, (-1)), (16, (-1)), (17, (-1)), (18, (-1)), (19, (-1)), (38, 0), (38, 1), (38, 2), (38, 3), (38, 4), (42, (-1))] Z Z' ∧ ((-6) ≤ z ∧ z ≤ 384)) hx hG p1 (fun z Z' h' q1 q2 q3 q4 => ⟨z, Z', h', rfl, q1, q2, q3, q4⟩))
  subst e; exact ⟨z, Z', h', hca, q⟩
set_option maxRecDepth 100000 in
theorem cw_101_1_i2 {l : Launch} {D : va_G} {b0 : Nat} {ad : Nat → Nat} {Hb : Heap} {tau : Nat → Int64} {d n s : Nat} {S : Nat → xS} {Z : xZ} {h : mx_H} {Post : mx_R → Prop} (hx : XH n s S Z h) (hG : GI n S Z)  {x1 : Int} (p1 : (-2147483648) ≤ x1 ∧ x1 ≤ 2147483647) (hP : ∀ (z : Int) (Z' : xZ) (h' : mx_H), XH n s S Z' h' → GI n S Z' → fr' [(12, 2), (14, (-1)), (16, (-1)), (17, (-1)), (18, (-1)), (19, (-1)), (38, 0), (38, 1), (38, 2), (38, 3), (38, 4), (42, (-1))] Z Z' → (-6) ≤ z ∧ z ≤ 384 → Post (some (xI z), h')) : mx_J (tB l D b0 ad Hb tau) mt_101 (d + 7) 0 [some (.ref 1), some (xI 2), some (xI x1), none, none] [] h Post := by
    have a1 : 1 < n := lt83 (GI_n hG) rfl
    have s1 : S 1 = .inl (11, [2, 0, 0, 0, 2, 2, 2, 2, 2, 2, 2, 2, 2, 2, 2, 2, 2]) := GI_s hG 1 rfl
    have a7 : 7 < n := lt83 (GI_n hG) rfl
    have s7 : S 7 = .inl (0, [2, 2, 2, 2, 0, 0]) := GI_s hG 7 rfl
    have a12 : 12 < n := lt83 (GI_n hG) rfl
    have s12 : S 12 = .inl (4, [2, 2, 0, 2, 2, 2, 2, 2, 2]) := GI_s hG 12 rfl
    have a34 : 34 < n := lt83 (GI_n hG) rfl
    have s34 : S 34 = .inr ((.object "TitheHeap$Tray"), 4, 2) := GI_s hG 34 rfl
    have a36 : 36 < n := lt83 (GI_n hG) rfl
    have s36 : S 36 = .inl (5, [2, 0, 0, 0, 0, 0]) := GI_s hG 36 rfl
    have a38 : 38 < n := lt83 (GI_n hG) rfl
    have s38 : S 38 = .inl (5, [2, 0, 0, 0, 0, 0]) := GI_s hG 38 rfl
    have a48 : 48 < n := lt83 (GI_n hG) rfl
    have s48 : S 48 = .inl (10, [2, 0, 0, 0]) := GI_s hG 48 rfl
    refine mx_J.step (sn_101 0) (fun _ _ => rfl) ?_
    refine mx_J.step (sn_101 1) (fun _ _ => rfl) ?_
    obtain ⟨z1, hc1, b1⟩ := ct_144_1_y (d := d + 6) (l := l) (D := D) (b0 := b0) (ad := ad) (Hb := Hb) (tau := tau) hx hG (show 0 ≤ 2 ∧ 2 ≤ 3 by omega)
    refine Jcv hx (show mx_Sn _ _ 2 (mx_callv 144 2 11 5) from sn_101 2) a1 s1 hc1 rfl rfl rfl ?_
    have c17 : mx_J (tB l D b0 ad Hb tau) mt_101 (d + 7) 17 [some (.ref 1), some (xI 2), some (xI x1), none, none] [] h Post := by
      refine JcI (z := (-2)) (show mx_Sn _ _ 17 (mx_const (.int (-2)) 19) from sn_101 17) rfl ?_
      exact mx_J.ret (sn_101 19) (fun _ _ => rfl) (hP (-2) Z h hx hG fr_rf (by omega))
    refine Jif_ne (show mx_Sn _ _ 5 (mx_if_ne 17 8) from sn_101 5) (by omega) (fun q3 => ?_) (fun q3 => ?_)
    · skip
      exact c17 
    · skip
      refine mx_J.step (sn_101 8) (fun _ _ => rfl) ?_
      refine Jif_lt (show mx_Sn _ _ 9 (mx_if_lt 17 12) from sn_101 9) (by omega) (fun q4 => ?_) (fun q4 => ?_)
      · skip
        exact c17 
      · skip
        refine mx_J.step (sn_101 12) (fun _ _ => rfl) ?_
        refine JcI (z := 3) (show mx_Sn _ _ 13 (mx_const (.int 3) 14) from sn_101 13) rfl ?_
        refine Jicmp_le (show mx_Sn _ _ 14 (mx_icmp_le 20 17) from sn_101 14) (by omega) (by omega) (fun q5 => ?_) (fun q5 => ?_)
        · skip
          refine mx_J.step (sn_101 20) (fun _ _ => rfl) ?_
          refine JgetR (g := 10) (b := 34) hx (show mx_Sn _ _ 21 (mx_getf 11 10 24) from sn_101 21) a1 s1 rfl rfl (hG.prr 1 10 rfl) ?_
          refine mx_J.step (sn_101 24) (fun _ _ => rfl) ?_
          refine JaaldR (i := 2) (b := 48) hx (show mx_Sn _ _ 25 (mx_aald 26) from sn_101 25) a34 s34 (by omega) (show Z 34 2 = 48 by have hq := GI_ex hG 34 2; replace hq : ((0 : Int) ≤ 2 → (2 : Int) ≤ 3 → (Z 34 2) = 44 + 2 * 2) := hq; omega) ?_
          have b8 : 0 ≤ Z 48 3 ∧ Z 48 3 ≤ 1 := hG.pr 48 3
          refine JgetI (g := 3) (z := Z 48 3) hx (show mx_Sn _ _ 26 (mx_getf 10 3 29) from sn_101 26) a48 s48 rfl rfl rfl ?_
          refine Jif_eq (show mx_Sn _ _ 29 (mx_if_eq 35 32) from sn_101 29) (by omega) (fun q9 => ?_) (fun q9 => ?_)
          · skip
            refine mx_J.step (sn_101 35) (fun _ _ => rfl) ?_
            refine JgetR (g := 13) (b := 38) hx (show mx_Sn _ _ 36 (mx_getf 11 13 39) from sn_101 36) a1 s1 rfl rfl (hG.prr 1 13 rfl) ?_
            refine mx_J.step (sn_101 39) (fun _ _ => rfl) ?_
            refine JgetR (g := 12) (b := 36) hx (show mx_Sn _ _ 40 (mx_getf 11 12 43) from sn_101 40) a1 s1 rfl rfl (hG.prr 1 12 rfl) ?_
            have b13 : 1 ≤ Z 36 1 ∧ Z 36 1 ≤ 18 := hG.pr 36 1
            obtain ⟨Z12, h12, hc12, hx12, hG12, hf12, b12⟩ := ct_33_38_36 (d := d + 6) (l := l) (D := D) (b0 := b0) (ad := ad) (Hb := Hb) (tau := tau) hx hG 
            have b14 : 1 ≤ Z12 38 1 ∧ Z12 38 1 ≤ 18 := hG12.pr 38 1
            refine Jcv0 hx (show mx_Sn _ _ 43 (mx_callv 33 2 5 46) from sn_101 43) a38 s38 hc12 rfl rfl rfl ?_
            refine mx_J.step (sn_101 46) (fun _ _ => rfl) ?_
            refine mx_J.step (sn_101 47) (fun _ _ => rfl) ?_
            refine JgetR (g := 10) (b := 34) hx12 (show mx_Sn _ _ 48 (mx_getf 11 10 51) from sn_101 48) a1 s1 rfl rfl (hG12.prr 1 10 rfl) ?_
            refine mx_J.step (sn_101 51) (fun _ _ => rfl) ?_
            refine JaaldR (i := 2) (b := 48) hx12 (show mx_Sn _ _ 52 (mx_aald 53) from sn_101 52) a34 s34 (by omega) (show Z12 34 2 = 48 by have hq := GI_ex hG12 34 2; replace hq : ((0 : Int) ≤ 2 → (2 : Int) ≤ 3 → (Z12 34 2) = 44 + 2 * 2) := hq; omega) ?_
            obtain ⟨z16, Z16, h16, hc16, hx16, hG16, hf16, b16⟩ := ct_138_1_48 (d := d + 0) (l := l) (D := D) (b0 := b0) (ad := ad) (Hb := Hb) (tau := tau) hx12 hG12 
            refine Jcv hx12 (show mx_Sn _ _ 53 (mx_callv 138 2 11 56) from sn_101 53) a1 s1 hc16 rfl rfl rfl ?_
            refine mx_J.step (ls2 := [some (.ref 1), some (xI 2), some (xI x1), some (xI z16), none]) (sn_101 56) (fun _ _ => rfl) ?_
            refine mx_J.step (sn_101 57) (fun _ _ => rfl) ?_
            refine mx_J.step (sn_101 58) (fun _ _ => rfl) ?_
            refine JgetR (g := 10) (b := 34) hx16 (show mx_Sn _ _ 59 (mx_getf 11 10 62) from sn_101 59) a1 s1 rfl rfl (hG16.prr 1 10 rfl) ?_
            refine mx_J.step (sn_101 62) (fun _ _ => rfl) ?_
            refine JaaldR (i := 2) (b := 48) hx16 (show mx_Sn _ _ 63 (mx_aald 64) from sn_101 63) a34 s34 (by omega) (show Z16 34 2 = 48 by have hq := GI_ex hG16 34 2; replace hq : ((0 : Int) ≤ 2 → (2 : Int) ≤ 3 → (Z16 34 2) = 44 + 2 * 2) := hq; omega) ?_
            have b19 : 0 ≤ Z 48 2 ∧ Z 48 2 ≤ 40 := hG.pr 48 2
            refine JgetI (g := 2) (z := Z 48 2) hx16 (show mx_Sn _ _ 64 (mx_getf 10 2 67) from sn_101 64) a48 s48 rfl rfl ((hf16 48 2 rfl).trans (hf12 48 2 rfl)) ?_
            have c92 : ∀ (k20_0 : Int) (Z21 : xZ) (h21 : mx_H), 0 ≤ k20_0 ∧ k20_0 ≤ 2 → XH n s S Z21 h21 → GI n S Z21 → fr' [(12, 2), (14, (-1)), (16, (-1)), (17, (-1)), (18, (-1)), (19, (-1)), (38, 2), (38, 3), (38, 4), (42, (-1))] Z16 Z21 → mx_J (tB l D b0 ad Hb tau) mt_101 (d + 7) 92 [some (.ref 1), some (xI 2), some (xI x1), some (xI z16), none] [xI k20_0] h21 Post := by
              intro k20_0 Z21 h21 f20_0 hx21 hG21 hf21
              refine mx_J.step (ls2 := [some (.ref 1), some (xI 2), some (xI x1), some (xI z16), some (xI k20_0)]) (sn_101 92) (fun _ _ => rfl) ?_
              refine mx_J.step (sn_101 94) (fun _ _ => rfl) ?_
              refine JgetR (g := 6) (b := 12) hx21 (show mx_Sn _ _ 95 (mx_getf 11 6 98) from sn_101 95) a1 s1 rfl rfl (hG21.prr 1 6 rfl) ?_
              refine mx_J.step (sn_101 98) (fun _ _ => rfl) ?_
              refine JgetR (g := 12) (b := 36) hx21 (show mx_Sn _ _ 99 (mx_getf 11 12 102) from sn_101 99) a1 s1 rfl rfl (hG21.prr 1 12 rfl) ?_
              have b25 : 0 ≤ Z 36 3 ∧ Z 36 3 ≤ 9 := hG.pr 36 3
              refine JgetI (g := 3) (z := Z 36 3) hx21 (show mx_Sn _ _ 102 (mx_getf 5 3 105) from sn_101 102) a36 s36 rfl rfl ((hf21 36 3 rfl).trans ((hf16 36 3 rfl).trans (hf12 36 3 rfl))) ?_
              obtain ⟨Z26, h26, hc26, hx26, hG26, hf26⟩ := ct_25_12 (d := d + 6) (l := l) (D := D) (b0 := b0) (ad := ad) (Hb := Hb) (tau := tau) hx21 hG21 (show 0 ≤ Z 36 3 ∧ Z 36 3 ≤ 9 by omega)
              refine Jcv0 hx21 (show mx_Sn _ _ 105 (mx_callv 25 2 4 108) from sn_101 105) a12 s12 hc26 rfl rfl rfl ?_
              refine mx_J.step (sn_101 108) (fun _ _ => rfl) ?_
              refine Jtsw (z := x1) (show mx_Sn _ _ 109 (mx_tsw 0 2 [136, 147, 150] 165) from sn_101 109) (by omega) (fun q27 => ?_) (fun q27 => ?_)
              · skip
                refine mx_J.step (sn_101 165) (fun _ _ => rfl) ?_
                refine JgetR (g := 13) (b := 38) hx26 (show mx_Sn _ _ 166 (mx_getf 11 13 169) from sn_101 166) a1 s1 rfl rfl (hG26.prr 1 13 rfl) ?_
                have b30 : 0 ≤ Z21 38 2 ∧ Z21 38 2 ≤ 384 := hG21.pr 38 2
                refine JgetI (g := 2) (z := Z21 38 2) hx26 (show mx_Sn _ _ 169 (mx_getf 5 2 172) from sn_101 169) a38 s38 rfl rfl (hf26 38 2 rfl) ?_
                exact mx_J.ret (sn_101 172) (fun _ _ => rfl) (hP (Z21 38 2) Z26 h26 hx26 hG26 (fr_tr (M := [(12, 2), (14, (-1)), (16, (-1)), (17, (-1)), (18, (-1)), (19, (-1)), (38, 0), (38, 1), (38, 2), (38, 3), (38, 4), (42, (-1))]) (fr_tr (M := [(12, 2), (14, (-1)), (16, (-1)), (17, (-1)), (18, (-1)), (19, (-1)), (38, 0), (38, 1), (38, 2), (38, 3), (38, 4), (42, (-1))]) (fr_tr (M := [(12, 2), (14, (-1)), (16, (-1)), (17, (-1)), (18, (-1)), (19, (-1)), (38, 0), (38, 1), (38, 2), (38, 3), (38, 4), (42, (-1))]) (fr_tr (M := [(12, 2), (14, (-1)), (16, (-1)), (17, (-1)), (18, (-1)), (19, (-1)), (38, 0), (38, 1), (38, 2), (38, 3), (38, 4), (42, (-1))]) fr_rf (hf12) (M1 := []) rfl rfl) (hf16) rfl rfl) (hf21) rfl rfl) (hf26) rfl rfl) (by omega))
              · skip
                have e27 : x1 = 0 ∨ x1 = 1 ∨ x1 = 2 := by omega
                rcases e27 with e27 | e27 | e27
                · refine ⟨136, by rw [e27]; rfl, ?_⟩
                  refine mx_J.step (sn_101 136) (fun _ _ => rfl) ?_
                  have c146 : ∀ (k31_0 : Int), (-1) ≤ k31_0 ∧ k31_0 ≤ 40 → mx_J (tB l D b0 ad Hb tau) mt_101 (d + 7) 146 [some (.ref 1), some (xI 2), some (xI x1), some (xI z16), some (xI k20_0)] [xI k31_0] h26 Post := by
                    intro k31_0 f31_0
                    exact mx_J.ret (sn_101 146) (fun _ _ => rfl) (hP k31_0 Z26 h26 hx26 hG26 (fr_tr (M := [(12, 2), (14, (-1)), (16, (-1)), (17, (-1)), (18, (-1)), (19, (-1)), (38, 0), (38, 1), (38, 2), (38, 3), (38, 4), (42, (-1))]) (fr_tr (M := [(12, 2), (14, (-1)), (16, (-1)), (17, (-1)), (18, (-1)), (19, (-1)), (38, 0), (38, 1), (38, 2), (38, 3), (38, 4), (42, (-1))]) (fr_tr (M := [(12, 2), (14, (-1)), (16, (-1)), (17, (-1)), (18, (-1)), (19, (-1)), (38, 0), (38, 1), (38, 2), (38, 3), (38, 4), (42, (-1))]) (fr_tr (M := [(12, 2), (14, (-1)), (16, (-1)), (17, (-1)), (18, (-1)), (19, (-1)), (38, 0), (38, 1), (38, 2), (38, 3), (38, 4), (42, (-1))]) fr_rf (hf12) (M1 := []) rfl rfl) (hf16) rfl rfl) (hf21) rfl rfl) (hf26) rfl rfl) (by omega))
                  refine Jif_ne (show mx_Sn _ _ 138 (mx_if_ne 145 141) from sn_101 138) (by omega) (fun q32 => ?_) (fun q32 => ?_)
                  · skip
                    refine mx_J.step (sn_101 145) (fun _ _ => rfl) ?_
                    exact c146 z16 (by omega)
                  · skip
                    refine JcI (z := (-1)) (show mx_Sn _ _ 141 (mx_const (.int (-1)) 142) from sn_101 141) rfl ?_
                    refine mx_J.step (sn_101 142) (fun _ _ => rfl) ?_
                    exact c146 (-1) (by omega)
                · refine ⟨147, by rw [e27]; rfl, ?_⟩
                  refine mx_J.step (sn_101 147) (fun _ _ => rfl) ?_
                  exact mx_J.ret (sn_101 149) (fun _ _ => rfl) (hP k20_0 Z26 h26 hx26 hG26 (fr_tr (M := [(12, 2), (14, (-1)), (16, (-1)), (17, (-1)), (18, (-1)), (19, (-1)), (38, 0), (38, 1), (38, 2), (38, 3), (38, 4), (42, (-1))]) (fr_tr (M := [(12, 2), (14, (-1)), (16, (-1)), (17, (-1)), (18, (-1)), (19, (-1)), (38, 0), (38, 1), (38, 2), (38, 3), (38, 4), (42, (-1))]) (fr_tr (M := [(12, 2), (14, (-1)), (16, (-1)), (17, (-1)), (18, (-1)), (19, (-1)), (38, 0), (38, 1), (38, 2), (38, 3), (38, 4), (42, (-1))]) (fr_tr (M := [(12, 2), (14, (-1)), (16, (-1)), (17, (-1)), (18, (-1)), (19, (-1)), (38, 0), (38, 1), (38, 2), (38, 3), (38, 4), (42, (-1))]) fr_rf (hf12) (M1 := []) rfl rfl) (hf16) rfl rfl) (hf21) rfl rfl) (hf26) rfl rfl) (by omega))
                · refine ⟨150, by rw [e27]; rfl, ?_⟩
                  refine mx_J.step (sn_101 150) (fun _ _ => rfl) ?_
                  refine JgetR (g := 5) (b := 7) hx26 (show mx_Sn _ _ 151 (mx_getf 11 5 154) from sn_101 151) a1 s1 rfl rfl (hG26.prr 1 5 rfl) ?_
                  refine mx_J.step (sn_101 154) (fun _ _ => rfl) ?_
                  refine JgetR (g := 13) (b := 38) hx26 (show mx_Sn _ _ 155 (mx_getf 11 13 158) from sn_101 155) a1 s1 rfl rfl (hG26.prr 1 13 rfl) ?_
                  have b36 : 0 ≤ Z21 38 2 ∧ Z21 38 2 ≤ 384 := hG21.pr 38 2
                  refine JgetI (g := 2) (z := Z21 38 2) hx26 (show mx_Sn _ _ 158 (mx_getf 5 2 161) from sn_101 158) a38 s38 rfl rfl (hf26 38 2 rfl) ?_
                  have eq38 : Z26 7 5 = Z 7 5 := ((hf26 7 5 rfl).trans ((hf21 7 5 rfl).trans ((hf16 7 5 rfl).trans (hf12 7 5 rfl))))
                  have b39 : 0 ≤ Z 7 5 ∧ Z 7 5 ≤ 385 := hG.pr 7 5
                  have eq40 : Z26 10 (Z21 38 2) = Z 10 (Z21 38 2) := ((hf26 10 (Z21 38 2) rfl).trans ((hf21 10 (Z21 38 2) rfl).trans ((hf16 10 (Z21 38 2) rfl).trans (hf12 10 (Z21 38 2) rfl))))
                  have b41 : 0 ≤ Z 10 (Z21 38 2) ∧ Z 10 (Z21 38 2) ≤ 18 := hG.pr 10 (Z21 38 2)
                  obtain ⟨z37, hc37, b37⟩ := ct_5_7 (d := d + 6) (l := l) (D := D) (b0 := b0) (ad := ad) (Hb := Hb) (tau := tau) hx26 hG26 (show (-2147483648) ≤ Z21 38 2 ∧ Z21 38 2 ≤ 2147483647 by omega)
                  try rw [eq38] at b37
                  try rw [eq40] at b37
                  refine Jcv hx26 (show mx_Sn _ _ 161 (mx_callv 5 2 0 164) from sn_101 161) a7 s7 hc37 rfl rfl rfl ?_
                  exact mx_J.ret (sn_101 164) (fun _ _ => rfl) (hP z37 Z26 h26 hx26 hG26 (fr_tr (M := [(12, 2), (14, (-1)), (16, (-1)), (17, (-1)), (18, (-1)), (19, (-1)), (38, 0), (38, 1), (38, 2), (38, 3), (38, 4), (42, (-1))]) (fr_tr (M := [(12, 2), (14, (-1)), (16, (-1)), (17, (-1)), (18, (-1)), (19, (-1)), (38, 0), (38, 1), (38, 2), (38, 3), (38, 4), (42, (-1))]) (fr_tr (M := [(12, 2), (14, (-1)), (16, (-1)), (17, (-1)), (18, (-1)), (19, (-1)), (38, 0), (38, 1), (38, 2), (38, 3), (38, 4), (42, (-1))]) (fr_tr (M := [(12, 2), (14, (-1)), (16, (-1)), (17, (-1)), (18, (-1)), (19, (-1)), (38, 0), (38, 1), (38, 2), (38, 3), (38, 4), (42, (-1))]) fr_rf (hf12) (M1 := []) rfl rfl) (hf16) rfl rfl) (hf21) rfl rfl) (hf26) rfl rfl) (by omega))
            refine Jicmp_ge (show mx_Sn _ _ 67 (mx_icmp_ge 91 70) from sn_101 67) (by omega) (by omega) (fun q42 => ?_) (fun q42 => ?_)
            · skip
              refine JcI (z := 0) (show mx_Sn _ _ 91 (mx_const (.int 0) 92) from sn_101 91) rfl ?_
              exact c92 0 Z16 h16 (by omega) hx16 hG16 fr_rf
            · skip
              refine mx_J.step (sn_101 70) (fun _ _ => rfl) ?_
              refine mx_J.step (sn_101 71) (fun _ _ => rfl) ?_
              refine JgetR (g := 13) (b := 38) hx16 (show mx_Sn _ _ 72 (mx_getf 11 13 75) from sn_101 72) a1 s1 rfl rfl (hG16.prr 1 13 rfl) ?_
              refine mx_J.step (sn_101 75) (fun _ _ => rfl) ?_
              refine JgetR (g := 10) (b := 34) hx16 (show mx_Sn _ _ 76 (mx_getf 11 10 79) from sn_101 76) a1 s1 rfl rfl (hG16.prr 1 10 rfl) ?_
              refine mx_J.step (sn_101 79) (fun _ _ => rfl) ?_
              refine JaaldR (i := 2) (b := 48) hx16 (show mx_Sn _ _ 80 (mx_aald 81) from sn_101 80) a34 s34 (by omega) (show Z16 34 2 = 48 by have hq := GI_ex hG16 34 2; replace hq : ((0 : Int) ≤ 2 → (2 : Int) ≤ 3 → (Z16 34 2) = 44 + 2 * 2) := hq; omega) ?_
              refine mx_J.step (sn_101 81) (fun _ _ => rfl) ?_
              have eq46 : Z16 49 z16 = Z 49 z16 := ((hf16 49 z16 rfl).trans (hf12 49 z16 rfl))
              have b47 : (-9223372036854775808) ≤ Z 49 z16 ∧ Z 49 z16 ≤ 9223372036854775807 := hG.pr 49 z16
              obtain ⟨z45, hc45, b45⟩ := ct_85_48 (d := d + 6) (l := l) (D := D) (b0 := b0) (ad := ad) (Hb := Hb) (tau := tau) hx16 hG16 (show (-2147483648) ≤ z16 ∧ z16 ≤ 2147483647 by omega)
              try rw [eq46] at b45
              refine Jcv hx16 (show mx_Sn _ _ 82 (mx_callv 85 2 10 85) from sn_101 82) a48 s48 hc45 rfl rfl rfl ?_
              obtain ⟨z48, Z48, h48, hc48, hx48, hG48, hf48, b48⟩ := ct_139_1_38 (d := d + 1) (l := l) (D := D) (b0 := b0) (ad := ad) (Hb := Hb) (tau := tau) hx16 hG16 (show (-9223372036854775808) ≤ z45 ∧ z45 ≤ 9223372036854775807 by omega)
              refine Jcv hx16 (show mx_Sn _ _ 85 (mx_callv 139 3 11 88) from sn_101 85) a1 s1 hc48 rfl rfl rfl ?_
              refine mx_J.step (sn_101 88) (fun _ _ => rfl) ?_
              exact c92 z48 Z48 h48 (by omega) hx48 hG48 (fr_tr (M := [(12, 2), (14, (-1)), (16, (-1)), (17, (-1)), (18, (-1)), (19, (-1)), (38, 2), (38, 3), (38, 4), (42, (-1))]) fr_rf (hf48) (M1 := []) rfl rfl)
          · skip
            refine JcI (z := (-6)) (show mx_Sn _ _ 32 (mx_const (.int (-6)) 34) from sn_101 32) rfl ?_
            exact mx_J.ret (sn_101 34) (fun _ _ => rfl) (hP (-6) Z h hx hG fr_rf (by omega))
        · skip
          exact c17 
theorem ct_101_1_i2 {l : Launch} {D : va_G} {b0 : Nat} {ad : Nat → Nat} {Hb : Heap} {tau : Nat → Int64} {d n s : Nat} {S : Nat → xS} {Z : xZ} {h : mx_H} (hx : XH n s S Z h) (hG : GI n S Z)  {x1 : Int} (p1 : (-2147483648) ≤ x1 ∧ x1 ≤ 2147483647) : ∃ (z : Int) (Z' : xZ) (h' : mx_H), mx_Ca (tB l D b0 ad Hb tau) (d + 8) 101 [.ref 1, xI 2, xI x1] h (some (xI z), h') ∧ XH n s S Z' h' ∧ GI n S Z' ∧ fr' [(12, 2), (14, (-1)), (16, (-1)), (17, (-1)), (18, (-1)), (19, (-1)), (38, 0), (38, 1), (38, 2), (38, 3), (38, 4), (42, (-1))] Z Z' ∧ ((-6) ≤ z ∧ z ≤ 384) := by
  obtain ⟨r, hca, z, Z', h', e, q⟩ := Jmt (B := tB l D b0 ad Hb tau) (M := mt_101) (mi := 101) (as := [.ref 1, xI 2, xI x1]) (d := d + 7) (ls := [some (.ref 1), some (xI 2), some (xI x1), none, none]) rfl rfl rfl rfl rfl rfl (cw_101_1_i2 (l := l) (D := D) (b0 := b0) (ad := ad) (Hb := Hb) (tau := tau) (d := d) (Post := fun r => ∃ (z : Int) (Z' : xZ) (h' : mx_H), r = (some (xI z), h') ∧ XH n s S Z' h' ∧ GI n S Z' ∧ fr' [(12, 2), (14, (-1)), (16, (-1)), (17, (-1)), (18, (-1)), (19, (-1)), (38, 0), (38, 1), (38, 2), (38, 3), (38, 4), (42, (-1))] Z Z' ∧ ((-6) ≤ z ∧ z ≤ 384)) hx hG p1 (fun z Z' h' q1 q2 q3 q4 => ⟨z, Z', h', rfl, q1, q2, q3, q4⟩))
  subst e; exact ⟨z, Z', h', hca, q⟩
set_option maxRecDepth 100000 in
theorem cw_101_1_i3 {l : Launch} {D : va_G} {b0 : Nat} {ad : Nat → Nat} {Hb : Heap} {tau : Nat → Int64} {d n s : Nat} {S : Nat → xS} {Z : xZ} {h : mx_H} {Post : mx_R → Prop} (hx : XH n s S Z h) (hG : GI n S Z)  {x1 : Int} (p1 : (-2147483648) ≤ x1 ∧ x1 ≤ 2147483647) (hP : ∀ (z : Int) (Z' : xZ) (h' : mx_H), XH n s S Z' h' → GI n S Z' → fr' [(12, 2), (14, (-1)), (16, (-1)), (17, (-1)), (18, (-1)), (19, (-1)), (38, 0), (38, 1), (38, 2), (38, 3), (38, 4), (42, (-1))] Z Z' → (-6) ≤ z ∧ z ≤ 384 → Post (some (xI z), h')) : mx_J (tB l D b0 ad Hb tau) mt_101 (d + 7) 0 [some (.ref 1), some (xI 3), some (xI x1), none, none] [] h Post := by
    have a1 : 1 < n := lt83 (GI_n hG) rfl
    have s1 : S 1 = .inl (11, [2, 0, 0, 0, 2, 2, 2, 2, 2, 2, 2, 2, 2, 2, 2, 2, 2]) := GI_s hG 1 rfl
    have a7 : 7 < n := lt83 (GI_n hG) rfl
    have s7 : S 7 = .inl (0, [2, 2, 2, 2, 0, 0]) := GI_s hG 7 rfl
    have a12 : 12 < n := lt83 (GI_n hG) rfl
    have s12 : S 12 = .inl (4, [2, 2, 0, 2, 2, 2, 2, 2, 2]) := GI_s hG 12 rfl
    have a34 : 34 < n := lt83 (GI_n hG) rfl
    have s34 : S 34 = .inr ((.object "TitheHeap$Tray"), 4, 2) := GI_s hG 34 rfl
    have a36 : 36 < n := lt83 (GI_n hG) rfl
    have s36 : S 36 = .inl (5, [2, 0, 0, 0, 0, 0]) := GI_s hG 36 rfl
    have a38 : 38 < n := lt83 (GI_n hG) rfl
    have s38 : S 38 = .inl (5, [2, 0, 0, 0, 0, 0]) := GI_s hG 38 rfl
    have a50 : 50 < n := lt83 (GI_n hG) rfl
    have s50 : S 50 = .inl (10, [2, 0, 0, 0]) := GI_s hG 50 rfl
    refine mx_J.step (sn_101 0) (fun _ _ => rfl) ?_
    refine mx_J.step (sn_101 1) (fun _ _ => rfl) ?_
    obtain ⟨z1, hc1, b1⟩ := ct_144_1_y (d := d + 6) (l := l) (D := D) (b0 := b0) (ad := ad) (Hb := Hb) (tau := tau) hx hG (show 0 ≤ 3 ∧ 3 ≤ 3 by omega)
    refine Jcv hx (show mx_Sn _ _ 2 (mx_callv 144 2 11 5) from sn_101 2) a1 s1 hc1 rfl rfl rfl ?_
    have c17 : mx_J (tB l D b0 ad Hb tau) mt_101 (d + 7) 17 [some (.ref 1), some (xI 3), some (xI x1), none, none] [] h Post := by
      refine JcI (z := (-2)) (show mx_Sn _ _ 17 (mx_const (.int (-2)) 19) from sn_101 17) rfl ?_
      exact mx_J.ret (sn_101 19) (fun _ _ => rfl) (hP (-2) Z h hx hG fr_rf (by omega))
    refine Jif_ne (show mx_Sn _ _ 5 (mx_if_ne 17 8) from sn_101 5) (by omega) (fun q3 => ?_) (fun q3 => ?_)
    · skip
      exact c17 
    · skip
      refine mx_J.step (sn_101 8) (fun _ _ => rfl) ?_
      refine Jif_lt (show mx_Sn _ _ 9 (mx_if_lt 17 12) from sn_101 9) (by omega) (fun q4 => ?_) (fun q4 => ?_)
      · skip
        exact c17 
      · skip
        refine mx_J.step (sn_101 12) (fun _ _ => rfl) ?_
        refine JcI (z := 3) (show mx_Sn _ _ 13 (mx_const (.int 3) 14) from sn_101 13) rfl ?_
        refine Jicmp_le (show mx_Sn _ _ 14 (mx_icmp_le 20 17) from sn_101 14) (by omega) (by omega) (fun q5 => ?_) (fun q5 => ?_)
        · skip
          refine mx_J.step (sn_101 20) (fun _ _ => rfl) ?_
          refine JgetR (g := 10) (b := 34) hx (show mx_Sn _ _ 21 (mx_getf 11 10 24) from sn_101 21) a1 s1 rfl rfl (hG.prr 1 10 rfl) ?_
          refine mx_J.step (sn_101 24) (fun _ _ => rfl) ?_
          refine JaaldR (i := 3) (b := 50) hx (show mx_Sn _ _ 25 (mx_aald 26) from sn_101 25) a34 s34 (by omega) (show Z 34 3 = 50 by have hq := GI_ex hG 34 3; replace hq : ((0 : Int) ≤ 3 → (3 : Int) ≤ 3 → (Z 34 3) = 44 + 2 * 3) := hq; omega) ?_
          have b8 : 0 ≤ Z 50 3 ∧ Z 50 3 ≤ 1 := hG.pr 50 3
          refine JgetI (g := 3) (z := Z 50 3) hx (show mx_Sn _ _ 26 (mx_getf 10 3 29) from sn_101 26) a50 s50 rfl rfl rfl ?_
          refine Jif_eq (show mx_Sn _ _ 29 (mx_if_eq 35 32) from sn_101 29) (by omega) (fun q9 => ?_) (fun q9 => ?_)
          · skip
            refine mx_J.step (sn_101 35) (fun _ _ => rfl) ?_
            refine JgetR (g := 13) (b := 38) hx (show mx_Sn _ _ 36 (mx_getf 11 13 39) from sn_101 36) a1 s1 rfl rfl (hG.prr 1 13 rfl) ?_
            refine mx_J.step (sn_101 39) (fun _ _ => rfl) ?_
            refine JgetR (g := 12) (b := 36) hx (show mx_Sn _ _ 40 (mx_getf 11 12 43) from sn_101 40) a1 s1 rfl rfl (hG.prr 1 12 rfl) ?_
            have b13 : 1 ≤ Z 36 1 ∧ Z 36 1 ≤ 18 := hG.pr 36 1
            obtain ⟨Z12, h12, hc12, hx12, hG12, hf12, b12⟩ := ct_33_38_36 (d := d + 6) (l := l) (D := D) (b0 := b0) (ad := ad) (Hb := Hb) (tau := tau) hx hG 
            have b14 : 1 ≤ Z12 38 1 ∧ Z12 38 1 ≤ 18 := hG12.pr 38 1
            refine Jcv0 hx (show mx_Sn _ _ 43 (mx_callv 33 2 5 46) from sn_101 43) a38 s38 hc12 rfl rfl rfl ?_
            refine mx_J.step (sn_101 46) (fun _ _ => rfl) ?_
            refine mx_J.step (sn_101 47) (fun _ _ => rfl) ?_
            refine JgetR (g := 10) (b := 34) hx12 (show mx_Sn _ _ 48 (mx_getf 11 10 51) from sn_101 48) a1 s1 rfl rfl (hG12.prr 1 10 rfl) ?_
            refine mx_J.step (sn_101 51) (fun _ _ => rfl) ?_
            refine JaaldR (i := 3) (b := 50) hx12 (show mx_Sn _ _ 52 (mx_aald 53) from sn_101 52) a34 s34 (by omega) (show Z12 34 3 = 50 by have hq := GI_ex hG12 34 3; replace hq : ((0 : Int) ≤ 3 → (3 : Int) ≤ 3 → (Z12 34 3) = 44 + 2 * 3) := hq; omega) ?_
            obtain ⟨z16, Z16, h16, hc16, hx16, hG16, hf16, b16⟩ := ct_138_1_50 (d := d + 0) (l := l) (D := D) (b0 := b0) (ad := ad) (Hb := Hb) (tau := tau) hx12 hG12 
            refine Jcv hx12 (show mx_Sn _ _ 53 (mx_callv 138 2 11 56) from sn_101 53) a1 s1 hc16 rfl rfl rfl ?_
            refine mx_J.step (ls2 := [some (.ref 1), some (xI 3), some (xI x1), some (xI z16), none]) (sn_101 56) (fun _ _ => rfl) ?_
            refine mx_J.step (sn_101 57) (fun _ _ => rfl) ?_
            refine mx_J.step (sn_101 58) (fun _ _ => rfl) ?_
            refine JgetR (g := 10) (b := 34) hx16 (show mx_Sn _ _ 59 (mx_getf 11 10 62) from sn_101 59) a1 s1 rfl rfl (hG16.prr 1 10 rfl) ?_
            refine mx_J.step (sn_101 62) (fun _ _ => rfl) ?_
            refine JaaldR (i := 3) (b := 50) hx16 (show mx_Sn _ _ 63 (mx_aald 64) from sn_101 63) a34 s34 (by omega) (show Z16 34 3 = 50 by have hq := GI_ex hG16 34 3; replace hq : ((0 : Int) ≤ 3 → (3 : Int) ≤ 3 → (Z16 34 3) = 44 + 2 * 3) := hq; omega) ?_
            have b19 : 0 ≤ Z 50 2 ∧ Z 50 2 ≤ 40 := hG.pr 50 2
            refine JgetI (g := 2) (z := Z 50 2) hx16 (show mx_Sn _ _ 64 (mx_getf 10 2 67) from sn_101 64) a50 s50 rfl rfl ((hf16 50 2 rfl).trans (hf12 50 2 rfl)) ?_
            have c92 : ∀ (k20_0 : Int) (Z21 : xZ) (h21 : mx_H), 0 ≤ k20_0 ∧ k20_0 ≤ 2 → XH n s S Z21 h21 → GI n S Z21 → fr' [(12, 2), (14, (-1)), (16, (-1)), (17, (-1)), (18, (-1)), (19, (-1)), (38, 2), (38, 3), (38, 4), (42, (-1))] Z16 Z21 → mx_J (tB l D b0 ad Hb tau) mt_101 (d + 7) 92 [some (.ref 1), some (xI 3), some (xI x1), some (xI z16), none] [xI k20_0] h21 Post := by
              intro k20_0 Z21 h21 f20_0 hx21 hG21 hf21
              refine mx_J.step (ls2 := [some (.ref 1), some (xI 3), some (xI x1), some (xI z16), some (xI k20_0)]) (sn_101 92) (fun _ _ => rfl) ?_
              refine mx_J.step (sn_101 94) (fun _ _ => rfl) ?_
              refine JgetR (g := 6) (b := 12) hx21 (show mx_Sn _ _ 95 (mx_getf 11 6 98) from sn_101 95) a1 s1 rfl rfl (hG21.prr 1 6 rfl) ?_
              refine mx_J.step (sn_101 98) (fun _ _ => rfl) ?_
              refine JgetR (g := 12) (b := 36) hx21 (show mx_Sn _ _ 99 (mx_getf 11 12 102) from sn_101 99) a1 s1 rfl rfl (hG21.prr 1 12 rfl) ?_
              have b25 : 0 ≤ Z 36 3 ∧ Z 36 3 ≤ 9 := hG.pr 36 3
              refine JgetI (g := 3) (z := Z 36 3) hx21 (show mx_Sn _ _ 102 (mx_getf 5 3 105) from sn_101 102) a36 s36 rfl rfl ((hf21 36 3 rfl).trans ((hf16 36 3 rfl).trans (hf12 36 3 rfl))) ?_
              obtain ⟨Z26, h26, hc26, hx26, hG26, hf26⟩ := ct_25_12 (d := d + 6) (l := l) (D := D) (b0 := b0) (ad := ad) (Hb := Hb) (tau := tau) hx21 hG21 (show 0 ≤ Z 36 3 ∧ Z 36 3 ≤ 9 by omega)
              refine Jcv0 hx21 (show mx_Sn _ _ 105 (mx_callv 25 2 4 108) from sn_101 105) a12 s12 hc26 rfl rfl rfl ?_
              refine mx_J.step (sn_101 108) (fun _ _ => rfl) ?_
              refine Jtsw (z := x1) (show mx_Sn _ _ 109 (mx_tsw 0 2 [136, 147, 150] 165) from sn_101 109) (by omega) (fun q27 => ?_) (fun q27 => ?_)
              · skip
                refine mx_J.step (sn_101 165) (fun _ _ => rfl) ?_
                refine JgetR (g := 13) (b := 38) hx26 (show mx_Sn _ _ 166 (mx_getf 11 13 169) from sn_101 166) a1 s1 rfl rfl (hG26.prr 1 13 rfl) ?_
                have b30 : 0 ≤ Z21 38 2 ∧ Z21 38 2 ≤ 384 := hG21.pr 38 2
                refine JgetI (g := 2) (z := Z21 38 2) hx26 (show mx_Sn _ _ 169 (mx_getf 5 2 172) from sn_101 169) a38 s38 rfl rfl (hf26 38 2 rfl) ?_
                exact mx_J.ret (sn_101 172) (fun _ _ => rfl) (hP (Z21 38 2) Z26 h26 hx26 hG26 (fr_tr (M := [(12, 2), (14, (-1)), (16, (-1)), (17, (-1)), (18, (-1)), (19, (-1)), (38, 0), (38, 1), (38, 2), (38, 3), (38, 4), (42, (-1))]) (fr_tr (M := [(12, 2), (14, (-1)), (16, (-1)), (17, (-1)), (18, (-1)), (19, (-1)), (38, 0), (38, 1), (38, 2), (38, 3), (38, 4), (42, (-1))]) (fr_tr (M := [(12, 2), (14, (-1)), (16, (-1)), (17, (-1)), (18, (-1)), (19, (-1)), (38, 0), (38, 1), (38, 2), (38, 3), (38, 4), (42, (-1))]) (fr_tr (M := [(12, 2), (14, (-1)), (16, (-1)), (17, (-1)), (18, (-1)), (19, (-1)), (38, 0), (38, 1), (38, 2), (38, 3), (38, 4), (42, (-1))]) fr_rf (hf12) (M1 := []) rfl rfl) (hf16) rfl rfl) (hf21) rfl rfl) (hf26) rfl rfl) (by omega))
              · skip
                have e27 : x1 = 0 ∨ x1 = 1 ∨ x1 = 2 := by omega
                rcases e27 with e27 | e27 | e27
                · refine ⟨136, by rw [e27]; rfl, ?_⟩
                  refine mx_J.step (sn_101 136) (fun _ _ => rfl) ?_
                  have c146 : ∀ (k31_0 : Int), (-1) ≤ k31_0 ∧ k31_0 ≤ 40 → mx_J (tB l D b0 ad Hb tau) mt_101 (d + 7) 146 [some (.ref 1), some (xI 3), some (xI x1), some (xI z16), some (xI k20_0)] [xI k31_0] h26 Post := by
                    intro k31_0 f31_0
                    exact mx_J.ret (sn_101 146) (fun _ _ => rfl) (hP k31_0 Z26 h26 hx26 hG26 (fr_tr (M := [(12, 2), (14, (-1)), (16, (-1)), (17, (-1)), (18, (-1)), (19, (-1)), (38, 0), (38, 1), (38, 2), (38, 3), (38, 4), (42, (-1))]) (fr_tr (M := [(12, 2), (14, (-1)), (16, (-1)), (17, (-1)), (18, (-1)), (19, (-1)), (38, 0), (38, 1), (38, 2), (38, 3), (38, 4), (42, (-1))]) (fr_tr (M := [(12, 2), (14, (-1)), (16, (-1)), (17, (-1)), (18, (-1)), (19, (-1)), (38, 0), (38, 1), (38, 2), (38, 3), (38, 4), (42, (-1))]) (fr_tr (M := [(12, 2), (14, (-1)), (16, (-1)), (17, (-1)), (18, (-1)), (19, (-1)), (38, 0), (38, 1), (38, 2), (38, 3), (38, 4), (42, (-1))]) fr_rf (hf12) (M1 := []) rfl rfl) (hf16) rfl rfl) (hf21) rfl rfl) (hf26) rfl rfl) (by omega))
                  refine Jif_ne (show mx_Sn _ _ 138 (mx_if_ne 145 141) from sn_101 138) (by omega) (fun q32 => ?_) (fun q32 => ?_)
                  · skip
                    refine mx_J.step (sn_101 145) (fun _ _ => rfl) ?_
                    exact c146 z16 (by omega)
                  · skip
                    refine JcI (z := (-1)) (show mx_Sn _ _ 141 (mx_const (.int (-1)) 142) from sn_101 141) rfl ?_
                    refine mx_J.step (sn_101 142) (fun _ _ => rfl) ?_
                    exact c146 (-1) (by omega)
                · refine ⟨147, by rw [e27]; rfl, ?_⟩
                  refine mx_J.step (sn_101 147) (fun _ _ => rfl) ?_
                  exact mx_J.ret (sn_101 149) (fun _ _ => rfl) (hP k20_0 Z26 h26 hx26 hG26 (fr_tr (M := [(12, 2), (14, (-1)), (16, (-1)), (17, (-1)), (18, (-1)), (19, (-1)), (38, 0), (38, 1), (38, 2), (38, 3), (38, 4), (42, (-1))]) (fr_tr (M := [(12, 2), (14, (-1)), (16, (-1)), (17, (-1)), (18, (-1)), (19, (-1)), (38, 0), (38, 1), (38, 2), (38, 3), (38, 4), (42, (-1))]) (fr_tr (M := [(12, 2), (14, (-1)), (16, (-1)), (17, (-1)), (18, (-1)), (19, (-1)), (38, 0), (38, 1), (38, 2), (38, 3), (38, 4), (42, (-1))]) (fr_tr (M := [(12, 2), (14, (-1)), (16, (-1)), (17, (-1)), (18, (-1)), (19, (-1)), (38, 0), (38, 1), (38, 2), (38, 3), (38, 4), (42, (-1))]) fr_rf (hf12) (M1 := []) rfl rfl) (hf16) rfl rfl) (hf21) rfl rfl) (hf26) rfl rfl) (by omega))
                · refine ⟨150, by rw [e27]; rfl, ?_⟩
                  refine mx_J.step (sn_101 150) (fun _ _ => rfl) ?_
                  refine JgetR (g := 5) (b := 7) hx26 (show mx_Sn _ _ 151 (mx_getf 11 5 154) from sn_101 151) a1 s1 rfl rfl (hG26.prr 1 5 rfl) ?_
                  refine mx_J.step (sn_101 154) (fun _ _ => rfl) ?_
                  refine JgetR (g := 13) (b := 38) hx26 (show mx_Sn _ _ 155 (mx_getf 11 13 158) from sn_101 155) a1 s1 rfl rfl (hG26.prr 1 13 rfl) ?_
                  have b36 : 0 ≤ Z21 38 2 ∧ Z21 38 2 ≤ 384 := hG21.pr 38 2
                  refine JgetI (g := 2) (z := Z21 38 2) hx26 (show mx_Sn _ _ 158 (mx_getf 5 2 161) from sn_101 158) a38 s38 rfl rfl (hf26 38 2 rfl) ?_
                  have eq38 : Z26 7 5 = Z 7 5 := ((hf26 7 5 rfl).trans ((hf21 7 5 rfl).trans ((hf16 7 5 rfl).trans (hf12 7 5 rfl))))
                  have b39 : 0 ≤ Z 7 5 ∧ Z 7 5 ≤ 385 := hG.pr 7 5
                  have eq40 : Z26 10 (Z21 38 2) = Z 10 (Z21 38 2) := ((hf26 10 (Z21 38 2) rfl).trans ((hf21 10 (Z21 38 2) rfl).trans ((hf16 10 (Z21 38 2) rfl).trans (hf12 10 (Z21 38 2) rfl))))
                  have b41 : 0 ≤ Z 10 (Z21 38 2) ∧ Z 10 (Z21 38 2) ≤ 18 := hG.pr 10 (Z21 38 2)
                  obtain ⟨z37, hc37, b37⟩ := ct_5_7 (d := d + 6) (l := l) (D := D) (b0 := b0) (ad := ad) (Hb := Hb) (tau := tau) hx26 hG26 (show (-2147483648) ≤ Z21 38 2 ∧ Z21 38 2 ≤ 2147483647 by omega)
                  try rw [eq38] at b37
                  try rw [eq40] at b37
                  refine Jcv hx26 (show mx_Sn _ _ 161 (mx_callv 5 2 0 164) from sn_101 161) a7 s7 hc37 rfl rfl rfl ?_
                  exact mx_J.ret (sn_101 164) (fun _ _ => rfl) (hP z37 Z26 h26 hx26 hG26 (fr_tr (M := [(12, 2), (14, (-1)), (16, (-1)), (17, (-1)), (18, (-1)), (19, (-1)), (38, 0), (38, 1), (38, 2), (38, 3), (38, 4), (42, (-1))]) (fr_tr (M := [(12, 2), (14, (-1)), (16, (-1)), (17, (-1)), (18, (-1)), (19, (-1)), (38, 0), (38, 1), (38, 2), (38, 3), (38, 4), (42, (-1))]) (fr_tr (M := [(12, 2), (14, (-1)), (16, (-1)), (17, (-1)), (18, (-1)), (19, (-1)), (38, 0), (38, 1), (38, 2), (38, 3), (38, 4), (42, (-1))]) (fr_tr (M := [(12, 2), (14, (-1)), (16, (-1)), (17, (-1)), (18, (-1)), (19, (-1)), (38, 0), (38, 1), (38, 2), (38, 3), (38, 4), (42, (-1))]) fr_rf (hf12) (M1 := []) rfl rfl) (hf16) rfl rfl) (hf21) rfl rfl) (hf26) rfl rfl) (by omega))
            refine Jicmp_ge (show mx_Sn _ _ 67 (mx_icmp_ge 91 70) from sn_101 67) (by omega) (by omega) (fun q42 => ?_) (fun q42 => ?_)
            · skip
              refine JcI (z := 0) (show mx_Sn _ _ 91 (mx_const (.int 0) 92) from sn_101 91) rfl ?_
              exact c92 0 Z16 h16 (by omega) hx16 hG16 fr_rf
            · skip
              refine mx_J.step (sn_101 70) (fun _ _ => rfl) ?_
              refine mx_J.step (sn_101 71) (fun _ _ => rfl) ?_
              refine JgetR (g := 13) (b := 38) hx16 (show mx_Sn _ _ 72 (mx_getf 11 13 75) from sn_101 72) a1 s1 rfl rfl (hG16.prr 1 13 rfl) ?_
              refine mx_J.step (sn_101 75) (fun _ _ => rfl) ?_
              refine JgetR (g := 10) (b := 34) hx16 (show mx_Sn _ _ 76 (mx_getf 11 10 79) from sn_101 76) a1 s1 rfl rfl (hG16.prr 1 10 rfl) ?_
              refine mx_J.step (sn_101 79) (fun _ _ => rfl) ?_
              refine JaaldR (i := 3) (b := 50) hx16 (show mx_Sn _ _ 80 (mx_aald 81) from sn_101 80) a34 s34 (by omega) (show Z16 34 3 = 50 by have hq := GI_ex hG16 34 3; replace hq : ((0 : Int) ≤ 3 → (3 : Int) ≤ 3 → (Z16 34 3) = 44 + 2 * 3) := hq; omega) ?_
              refine mx_J.step (sn_101 81) (fun _ _ => rfl) ?_
              have eq46 : Z16 51 z16 = Z 51 z16 := ((hf16 51 z16 rfl).trans (hf12 51 z16 rfl))
              have b47 : (-9223372036854775808) ≤ Z 51 z16 ∧ Z 51 z16 ≤ 9223372036854775807 := hG.pr 51 z16
              obtain ⟨z45, hc45, b45⟩ := ct_85_50 (d := d + 6) (l := l) (D := D) (b0 := b0) (ad := ad) (Hb := Hb) (tau := tau) hx16 hG16 (show (-2147483648) ≤ z16 ∧ z16 ≤ 2147483647 by omega)
              try rw [eq46] at b45
              refine Jcv hx16 (show mx_Sn _ _ 82 (mx_callv 85 2 10 85) from sn_101 82) a50 s50 hc45 rfl rfl rfl ?_
              obtain ⟨z48, Z48, h48, hc48, hx48, hG48, hf48, b48⟩ := ct_139_1_38 (d := d + 1) (l := l) (D := D) (b0 := b0) (ad := ad) (Hb := Hb) (tau := tau) hx16 hG16 (show (-9223372036854775808) ≤ z45 ∧ z45 ≤ 9223372036854775807 by omega)
              refine Jcv hx16 (show mx_Sn _ _ 85 (mx_callv 139 3 11 88) from sn_101 85) a1 s1 hc48 rfl rfl rfl ?_
              refine mx_J.step (sn_101 88) (fun _ _ => rfl) ?_
              exact c92 z48 Z48 h48 (by omega) hx48 hG48 (fr_tr (M := [(12, 2), (14, (-1)), (16, (-1)), (17, (-1)), (18, (-1)), (19, (-1)), (38, 2), (38, 3), (38, 4), (42, (-1))]) fr_rf (hf48) (M1 := []) rfl rfl)
          · skip
            refine JcI (z := (-6)) (show mx_Sn _ _ 32 (mx_const (.int (-6)) 34) from sn_101 32) rfl ?_
            exact mx_J.ret (sn_101 34) (fun _ _ => rfl) (hP (-6) Z h hx hG fr_rf (by omega))
        · skip
          exact c17 
theorem ct_101_1_i3 {l : Launch} {D : va_G} {b0 : Nat} {ad : Nat → Nat} {Hb : Heap} {tau : Nat → Int64} {d n s : Nat} {S : Nat → xS} {Z : xZ} {h : mx_H} (hx : XH n s S Z h) (hG : GI n S Z)  {x1 : Int} (p1 : (-2147483648) ≤ x1 ∧ x1 ≤ 2147483647) : ∃ (z : Int) (Z' : xZ) (h' : mx_H), mx_Ca (tB l D b0 ad Hb tau) (d + 8) 101 [.ref 1, xI 3, xI x1] h (some (xI z), h') ∧ XH n s S Z' h' ∧ GI n S Z' ∧ fr' [(12, 2), (14, (-1)), (16, (-1)), (17, (-1)), (18, (-1)), (19, (-1)), (38, 0), (38, 1), (38, 2), (38, 3), (38, 4), (42, (-1))] Z Z' ∧ ((-6) ≤ z ∧ z ≤ 384) := by
  obtain ⟨r, hca, z, Z', h', e, q⟩ := Jmt (B := tB l D b0 ad Hb tau) (M := mt_101) (mi := 101) (as := [.ref 1, xI 3, xI x1]) (d := d + 7) (ls := [some (.ref 1), some (xI 3), some (xI x1), none, none]) rfl rfl rfl rfl rfl rfl (cw_101_1_i3 (l := l) (D := D) (b0 := b0) (ad := ad) (Hb := Hb) (tau := tau) (d := d) (Post := fun r => ∃ (z : Int) (Z' : xZ) (h' : mx_H), r = (some (xI z), h') ∧ XH n s S Z' h' ∧ GI n S Z' ∧ fr' [(12, 2), (14, (-1)), (16, (-1)), (17, (-1)), (18, (-1)), (19, (-1)), (38, 0), (38, 1), (38, 2), (38, 3), (38, 4), (42, (-1))] Z Z' ∧ ((-6) ≤ z ∧ z ≤ 384)) hx hG p1 (fun z Z' h' q1 q2 q3 q4 => ⟨z, Z', h', rfl, q1, q2, q3, q4⟩))
  subst e; exact ⟨z, Z', h', hca, q⟩
set_option maxRecDepth 100000 in
theorem cw_101_1_n {l : Launch} {D : va_G} {b0 : Nat} {ad : Nat → Nat} {Hb : Heap} {tau : Nat → Int64} {d n s : Nat} {S : Nat → xS} {Z : xZ} {h : mx_H} {Post : mx_R → Prop} (hx : XH n s S Z h) (hG : GI n S Z)  {x0 x1 : Int} (p0 : (-2147483648) ≤ x0 ∧ x0 ≤ (-1)) (p1 : (-2147483648) ≤ x1 ∧ x1 ≤ 2147483647) (hP : ∀ z : Int, (-2) ≤ z ∧ z ≤ (-2) → Post (some (xI z), h)) : mx_J (tB l D b0 ad Hb tau) mt_101 (d + 1) 0 [some (.ref 1), some (xI x0), some (xI x1), none, none] [] h Post := by
    have a1 : 1 < n := lt83 (GI_n hG) rfl
    have s1 : S 1 = .inl (11, [2, 0, 0, 0, 2, 2, 2, 2, 2, 2, 2, 2, 2, 2, 2, 2, 2]) := GI_s hG 1 rfl
    refine mx_J.step (sn_101 0) (fun _ _ => rfl) ?_
    refine mx_J.step (sn_101 1) (fun _ _ => rfl) ?_
    obtain ⟨z1, hc1, b1⟩ := ct_144_1_n (d := d + 0) (l := l) (D := D) (b0 := b0) (ad := ad) (Hb := Hb) (tau := tau) hx hG (show (-2147483648) ≤ x0 ∧ x0 ≤ (-1) by omega)
    refine Jcv hx (show mx_Sn _ _ 2 (mx_callv 144 2 11 5) from sn_101 2) a1 s1 hc1 rfl rfl rfl ?_
    refine Jif_ne (show mx_Sn _ _ 5 (mx_if_ne 17 8) from sn_101 5) (by omega) (fun q2 => ?_) (fun q2 => ?_)
    · skip
      refine JcI (z := (-2)) (show mx_Sn _ _ 17 (mx_const (.int (-2)) 19) from sn_101 17) rfl ?_
      exact mx_J.ret (sn_101 19) (fun _ _ => rfl) (hP (-2) (by omega))
    · skip
      exfalso; omega
theorem ct_101_1_n {l : Launch} {D : va_G} {b0 : Nat} {ad : Nat → Nat} {Hb : Heap} {tau : Nat → Int64} {d n s : Nat} {S : Nat → xS} {Z : xZ} {h : mx_H} (hx : XH n s S Z h) (hG : GI n S Z)  {x0 x1 : Int} (p0 : (-2147483648) ≤ x0 ∧ x0 ≤ (-1)) (p1 : (-2147483648) ≤ x1 ∧ x1 ≤ 2147483647) : ∃ z : Int, mx_Ca (tB l D b0 ad Hb tau) (d + 2) 101 [.ref 1, xI x0, xI x1] h (some (xI z), h) ∧ ((-2) ≤ z ∧ z ≤ (-2)) := by
  obtain ⟨r, hca, z, e, hp⟩ := Jmt (B := tB l D b0 ad Hb tau) (M := mt_101) (mi := 101) (as := [.ref 1, xI x0, xI x1]) (d := d + 1) (ls := [some (.ref 1), some (xI x0), some (xI x1), none, none]) rfl rfl rfl rfl rfl rfl (cw_101_1_n (l := l) (D := D) (b0 := b0) (ad := ad) (Hb := Hb) (tau := tau) (d := d) (Post := fun r => ∃ z : Int, r = (some (xI z), h) ∧ ((-2) ≤ z ∧ z ≤ (-2))) hx hG p0 p1 (fun z hz => ⟨z, rfl, hz⟩))
  subst e; exact ⟨z, hca, hp⟩
set_option maxRecDepth 100000 in
theorem cw_101_1_p {l : Launch} {D : va_G} {b0 : Nat} {ad : Nat → Nat} {Hb : Heap} {tau : Nat → Int64} {d n s : Nat} {S : Nat → xS} {Z : xZ} {h : mx_H} {Post : mx_R → Prop} (hx : XH n s S Z h) (hG : GI n S Z)  {x0 x1 : Int} (p0 : 4 ≤ x0 ∧ x0 ≤ 2147483647) (p1 : (-2147483648) ≤ x1 ∧ x1 ≤ 2147483647) (hP : ∀ z : Int, (-2) ≤ z ∧ z ≤ (-2) → Post (some (xI z), h)) : mx_J (tB l D b0 ad Hb tau) mt_101 (d + 1) 0 [some (.ref 1), some (xI x0), some (xI x1), none, none] [] h Post := by
    have a1 : 1 < n := lt83 (GI_n hG) rfl
    have s1 : S 1 = .inl (11, [2, 0, 0, 0, 2, 2, 2, 2, 2, 2, 2, 2, 2, 2, 2, 2, 2]) := GI_s hG 1 rfl
    refine mx_J.step (sn_101 0) (fun _ _ => rfl) ?_
    refine mx_J.step (sn_101 1) (fun _ _ => rfl) ?_
    obtain ⟨z1, hc1, b1⟩ := ct_144_1_p (d := d + 0) (l := l) (D := D) (b0 := b0) (ad := ad) (Hb := Hb) (tau := tau) hx hG (show 4 ≤ x0 ∧ x0 ≤ 2147483647 by omega)
    refine Jcv hx (show mx_Sn _ _ 2 (mx_callv 144 2 11 5) from sn_101 2) a1 s1 hc1 rfl rfl rfl ?_
    refine Jif_ne (show mx_Sn _ _ 5 (mx_if_ne 17 8) from sn_101 5) (by omega) (fun q2 => ?_) (fun q2 => ?_)
    · skip
      refine JcI (z := (-2)) (show mx_Sn _ _ 17 (mx_const (.int (-2)) 19) from sn_101 17) rfl ?_
      exact mx_J.ret (sn_101 19) (fun _ _ => rfl) (hP (-2) (by omega))
    · skip
      exfalso; omega
theorem ct_101_1_p {l : Launch} {D : va_G} {b0 : Nat} {ad : Nat → Nat} {Hb : Heap} {tau : Nat → Int64} {d n s : Nat} {S : Nat → xS} {Z : xZ} {h : mx_H} (hx : XH n s S Z h) (hG : GI n S Z)  {x0 x1 : Int} (p0 : 4 ≤ x0 ∧ x0 ≤ 2147483647) (p1 : (-2147483648) ≤ x1 ∧ x1 ≤ 2147483647) : ∃ z : Int, mx_Ca (tB l D b0 ad Hb tau) (d + 2) 101 [.ref 1, xI x0, xI x1] h (some (xI z), h) ∧ ((-2) ≤ z ∧ z ≤ (-2)) := by
  obtain ⟨r, hca, z, e, hp⟩ := Jmt (B := tB l D b0 ad Hb tau) (M := mt_101) (mi := 101) (as := [.ref 1, xI x0, xI x1]) (d := d + 1) (ls := [some (.ref 1), some (xI x0), some (xI x1), none, none]) rfl rfl rfl rfl rfl rfl (cw_101_1_p (l := l) (D := D) (b0 := b0) (ad := ad) (Hb := Hb) (tau := tau) (d := d) (Post := fun r => ∃ z : Int, r = (some (xI z), h) ∧ ((-2) ≤ z ∧ z ≤ (-2))) hx hG p0 p1 (fun z hz => ⟨z, rfl, hz⟩))
  subst e; exact ⟨z, hca, hp⟩
theorem ct_101_1 {l : Launch} {D : va_G} {b0 : Nat} {ad : Nat → Nat} {Hb : Heap} {tau : Nat → Int64} {d n s : Nat} {S : Nat → xS} {Z : xZ} {h : mx_H} (hx : XH n s S Z h) (hG : GI n S Z) {x0 x1 : Int} (p0 : (-2147483648) ≤ x0 ∧ x0 ≤ 2147483647) (p1 : (-2147483648) ≤ x1 ∧ x1 ≤ 2147483647) : ∃ (z : Int) (Z' : xZ) (h' : mx_H), mx_Ca (tB l D b0 ad Hb tau) (d + 8) 101 [.ref 1, xI x0, xI x1] h (some (xI z), h') ∧ XH n s S Z' h' ∧ GI n S Z' ∧ fr' [(12, 2), (14, (-1)), (16, (-1)), (17, (-1)), (18, (-1)), (19, (-1)), (38, 0), (38, 1), (38, 2), (38, 3), (38, 4), (42, (-1))] Z Z' ∧ ((-6) ≤ z ∧ z ≤ 384) := by
  have hc : x0 = 0 ∨ x0 = 1 ∨ x0 = 2 ∨ x0 = 3 ∨ ((-2147483648) ≤ x0 ∧ x0 ≤ (-1)) ∨ (4 ≤ x0 ∧ x0 ≤ 2147483647) := by omega
  rcases hc with hc | hc | hc | hc | hc | hc
  · subst hc
    obtain ⟨z, Z', h', hca, q1, q2, q3, b⟩ := ct_101_1_i0 (d := d + 0) (l := l) (D := D) (b0 := b0) (ad := ad) (Hb := Hb) (tau := tau) hx hG p1
    exact ⟨z, Z', h', hca, q1, q2, fr_tr (M1 := []) fr_rf q3 rfl rfl, by omega⟩
  · subst hc
    obtain ⟨z, Z', h', hca, q1, q2, q3, b⟩ := ct_101_1_i1 (d := d + 0) (l := l) (D := D) (b0 := b0) (ad := ad) (Hb := Hb) (tau := tau) hx hG p1
    exact ⟨z, Z', h', hca, q1, q2, fr_tr (M1 := []) fr_rf q3 rfl rfl, by omega⟩
  · subst hc
    obtain ⟨z, Z', h', hca, q1, q2, q3, b⟩ := ct_101_1_i2 (d := d + 0) (l := l) (D := D) (b0 := b0) (ad := ad) (Hb := Hb) (tau := tau) hx hG p1
    exact ⟨z, Z', h', hca, q1, q2, fr_tr (M1 := []) fr_rf q3 rfl rfl, by omega⟩
  · subst hc
    obtain ⟨z, Z', h', hca, q1, q2, q3, b⟩ := ct_101_1_i3 (d := d + 0) (l := l) (D := D) (b0 := b0) (ad := ad) (Hb := Hb) (tau := tau) hx hG p1
    exact ⟨z, Z', h', hca, q1, q2, fr_tr (M1 := []) fr_rf q3 rfl rfl, by omega⟩
  · skip
    obtain ⟨z, hca, b⟩ := ct_101_1_n (d := d + 6) (l := l) (D := D) (b0 := b0) (ad := ad) (Hb := Hb) (tau := tau) hx hG hc p1
    exact ⟨z, Z, h, hca, hx, hG, fr_rf, by omega⟩
  · skip
    obtain ⟨z, hca, b⟩ := ct_101_1_p (d := d + 6) (l := l) (D := D) (b0 := b0) (ad := ad) (Hb := Hb) (tau := tau) hx hG hc p1
    exact ⟨z, Z, h, hca, hx, hG, fr_rf, by omega⟩
set_option maxRecDepth 100000 in
theorem cw_131_1_i0 {l : Launch} {D : va_G} {b0 : Nat} {ad : Nat → Nat} {Hb : Heap} {tau : Nat → Int64} {d n s : Nat} {S : Nat → xS} {Z : xZ} {h : mx_H} {Post : mx_R → Prop} (hx : XH n s S Z h) (hG : GI n S Z)   (hP : ∀ (z : Int) (Z' : xZ) (h' : mx_H), XH n s S Z' h' → GI n S Z' → fr' [(52, 0), (52, 1), (52, 2), (52, 3), (52, 4), (52, 5)] Z Z' → 0 ≤ z ∧ z ≤ 0 ∧ ((((0 : Int) < 0 ∨ 1 < (0 : Int)) → z = -2) ∧ (¬ ((0 : Int) < 0 ∨ 1 < (0 : Int)) → z = 0) ∧ (¬ (0 : Int) = 0 → Z' 52 5 = Z 52 5) ∧ (¬ (0 : Int) = 1 → Z' 54 5 = Z 54 5) ∧ ((0 : Int) = 0 → Z' 52 5 = 1) ∧ ((0 : Int) = 1 → Z' 54 5 = 1) ∧ ((0 : Int) = 0 → Z' 52 1 = Z 36 1) ∧ ((0 : Int) = 1 → Z' 54 1 = Z 36 1) ∧ (¬ (0 : Int) = 0 → Z' 52 1 = Z 52 1) ∧ (¬ (0 : Int) = 1 → Z' 54 1 = Z 54 1)) → Post (some (xI z), h')) : mx_J (tB l D b0 ad Hb tau) mt_131 (d + 1) 0 [some (.ref 1), some (xI 0)] [] h Post := by
    have a1 : 1 < n := lt83 (GI_n hG) rfl
    have s1 : S 1 = .inl (11, [2, 0, 0, 0, 2, 2, 2, 2, 2, 2, 2, 2, 2, 2, 2, 2, 2]) := GI_s hG 1 rfl
    have a35 : 35 < n := lt83 (GI_n hG) rfl
    have s35 : S 35 = .inr ((.object "TitheHeap$Moment"), 2, 2) := GI_s hG 35 rfl
    have a52 : 52 < n := lt83 (GI_n hG) rfl
    have s52 : S 52 = .inl (5, [2, 0, 0, 0, 0, 0]) := GI_s hG 52 rfl
    refine mx_J.step (sn_131 0) (fun _ _ => rfl) ?_
    refine Jif_lt (show mx_Sn _ _ 1 (mx_if_lt 9 4) from sn_131 1) (by omega) (fun q1 => ?_) (fun q1 => ?_)
    · skip
      exfalso; omega
    · skip
      refine mx_J.step (sn_131 4) (fun _ _ => rfl) ?_
      refine JcI (z := 2) (show mx_Sn _ _ 5 (mx_const (.int 2) 6) from sn_131 5) rfl ?_
      refine Jicmp_lt (show mx_Sn _ _ 6 (mx_icmp_lt 12 9) from sn_131 6) (by omega) (by omega) (fun q2 => ?_) (fun q2 => ?_)
      · skip
        refine mx_J.step (sn_131 12) (fun _ _ => rfl) ?_
        refine JgetR (g := 11) (b := 35) hx (show mx_Sn _ _ 13 (mx_getf 11 11 16) from sn_131 13) a1 s1 rfl rfl (hG.prr 1 11 rfl) ?_
        refine mx_J.step (sn_131 16) (fun _ _ => rfl) ?_
        refine JaaldR (i := 0) (b := 52) hx (show mx_Sn _ _ 17 (mx_aald 18) from sn_131 17) a35 s35 (by omega) (show Z 35 0 = 52 by have hq := GI_ex hG 35 0; replace hq : ((0 : Int) ≤ 0 → (0 : Int) ≤ 1 → (Z 35 0) = 52 + 2 * 0) := hq; omega) ?_
        refine mx_J.step (sn_131 18) (fun _ _ => rfl) ?_
        refine JgetR (g := 12) (b := 36) hx (show mx_Sn _ _ 19 (mx_getf 11 12 22) from sn_131 19) a1 s1 rfl rfl (hG.prr 1 12 rfl) ?_
        have b6 : 1 ≤ Z 36 1 ∧ Z 36 1 ≤ 18 := hG.pr 36 1
        obtain ⟨Z5, h5, hc5, hx5, hG5, hf5, b5⟩ := ct_33_52_36 (d := d + 0) (l := l) (D := D) (b0 := b0) (ad := ad) (Hb := Hb) (tau := tau) hx hG 
        have b7 : 1 ≤ Z5 52 1 ∧ Z5 52 1 ≤ 18 := hG5.pr 52 1
        refine Jcv0 hx (show mx_Sn _ _ 22 (mx_callv 33 2 5 25) from sn_131 22) a52 s52 hc5 rfl rfl rfl ?_
        refine mx_J.step (sn_131 25) (fun _ _ => rfl) ?_
        refine JgetR (g := 11) (b := 35) hx5 (show mx_Sn _ _ 26 (mx_getf 11 11 29) from sn_131 26) a1 s1 rfl rfl (hG5.prr 1 11 rfl) ?_
        refine mx_J.step (sn_131 29) (fun _ _ => rfl) ?_
        refine JaaldR (i := 0) (b := 52) hx5 (show mx_Sn _ _ 30 (mx_aald 31) from sn_131 30) a35 s35 (by omega) (show Z5 35 0 = 52 by have hq := GI_ex hG5 35 0; replace hq : ((0 : Int) ≤ 0 → (0 : Int) ≤ 1 → (Z5 35 0) = 52 + 2 * 0) := hq; omega) ?_
        refine JcI (z := 1) (show mx_Sn _ _ 31 (mx_const (.int 1) 32) from sn_131 31) rfl ?_
        refine JputI (g := 5) hx5 (show mx_Sn _ _ 32 (mx_putf 1 5 5 (.boolean) 35) from sn_131 32) a52 s52 rfl rfl (fit_z (by omega)) rfl (fun Z9 h9 hx9 hE9 => ?_)
        have hG9 := GI_up hG5 hE9 (show 0 ≤ 1 ∧ 1 ≤ 1 by omega) trivial rfl
        refine JcI (z := 0) (show mx_Sn _ _ 35 (mx_const (.int 0) 36) from sn_131 35) rfl ?_
        have eq10 : Z9 52 5 = 1 := (up_at hE9)
        have eq11 : Z9 54 5 = Z 54 5 := ((up_nk hE9 rfl).trans (hf5 54 5 rfl))
        have b12 : 0 ≤ Z 54 5 ∧ Z 54 5 ≤ 1 := hG.pr 54 5
        have eq13 : Z9 52 1 = Z5 52 1 := (up_ni hE9 (by decide))
        have eq14 : Z9 54 1 = Z 54 1 := ((up_nk hE9 rfl).trans (hf5 54 1 rfl))
        have b15 : 1 ≤ Z 54 1 ∧ Z 54 1 ≤ 18 := hG.pr 54 1
        have eq16 : Z9 36 1 = Z 36 1 := ((up_nk hE9 rfl).trans (hf5 36 1 rfl))
        have eq17 : Z9 52 5 = 1 := (up_at hE9)
        have eq18 : Z9 54 5 = Z 54 5 := ((up_nk hE9 rfl).trans (hf5 54 5 rfl))
        have eq19 : Z9 52 1 = Z5 52 1 := (up_ni hE9 (by decide))
        have eq20 : Z9 54 1 = Z 54 1 := ((up_nk hE9 rfl).trans (hf5 54 1 rfl))
        have eq21 : Z9 36 1 = Z 36 1 := ((up_nk hE9 rfl).trans (hf5 36 1 rfl))
        exact mx_J.ret (sn_131 36) (fun _ _ => rfl) (hP 0 Z9 h9 hx9 hG9 (fr_tr (M := [(52, 0), (52, 1), (52, 2), (52, 3), (52, 4), (52, 5)]) (fr_tr (M := [(52, 0), (52, 1), (52, 2), (52, 3), (52, 4), (52, 5)]) fr_rf (hf5) (M1 := []) rfl rfl) (fr_up hE9) rfl rfl) (by omega))
      · skip
        exfalso; omega
theorem ct_131_1_i0 {l : Launch} {D : va_G} {b0 : Nat} {ad : Nat → Nat} {Hb : Heap} {tau : Nat → Int64} {d n s : Nat} {S : Nat → xS} {Z : xZ} {h : mx_H} (hx : XH n s S Z h) (hG : GI n S Z)   : ∃ (z : Int) (Z' : xZ) (h' : mx_H), mx_Ca (tB l D b0 ad Hb tau) (d + 2) 131 [.ref 1, xI 0] h (some (xI z), h') ∧ XH n s S Z' h' ∧ GI n S Z' ∧ fr' [(52, 0), (52, 1), (52, 2), (52, 3), (52, 4), (52, 5)] Z Z' ∧ (0 ≤ z ∧ z ≤ 0 ∧ ((((0 : Int) < 0 ∨ 1 < (0 : Int)) → z = -2) ∧ (¬ ((0 : Int) < 0 ∨ 1 < (0 : Int)) → z = 0) ∧ (¬ (0 : Int) = 0 → Z' 52 5 = Z 52 5) ∧ (¬ (0 : Int) = 1 → Z' 54 5 = Z 54 5) ∧ ((0 : Int) = 0 → Z' 52 5 = 1) ∧ ((0 : Int) = 1 → Z' 54 5 = 1) ∧ ((0 : Int) = 0 → Z' 52 1 = Z 36 1) ∧ ((0 : Int) = 1 → Z' 54 1 = Z 36 1) ∧ (¬ (0 : Int) = 0 → Z' 52 1 = Z 52 1) ∧ (¬ (0 : Int) = 1 → Z' 54 1 = Z 54 1))) := by
  obtain ⟨r, hca, z, Z', h', e, q⟩ := Jmt (B := tB l D b0 ad Hb tau) (M := mt_131) (mi := 131) (as := [.ref 1, xI 0]) (d := d + 1) (ls := [some (.ref 1), some (xI 0)]) rfl rfl rfl rfl rfl rfl (cw_131_1_i0 (l := l) (D := D) (b0 := b0) (ad := ad) (Hb := Hb) (tau := tau) (d := d) (Post := fun r => ∃ (z : Int) (Z' : xZ) (h' : mx_H), r = (some (xI z), h') ∧ XH n s S Z' h' ∧ GI n S Z' ∧ fr' [(52, 0), (52, 1), (52, 2), (52, 3), (52, 4), (52, 5)] Z Z' ∧ (0 ≤ z ∧ z ≤ 0 ∧ ((((0 : Int) < 0 ∨ 1 < (0 : Int)) → z = -2) ∧ (¬ ((0 : Int) < 0 ∨ 1 < (0 : Int)) → z = 0) ∧ (¬ (0 : Int) = 0 → Z' 52 5 = Z 52 5) ∧ (¬ (0 : Int) = 1 → Z' 54 5 = Z 54 5) ∧ ((0 : Int) = 0 → Z' 52 5 = 1) ∧ ((0 : Int) = 1 → Z' 54 5 = 1) ∧ ((0 : Int) = 0 → Z' 52 1 = Z 36 1) ∧ ((0 : Int) = 1 → Z' 54 1 = Z 36 1) ∧ (¬ (0 : Int) = 0 → Z' 52 1 = Z 52 1) ∧ (¬ (0 : Int) = 1 → Z' 54 1 = Z 54 1)))) hx hG  (fun z Z' h' q1 q2 q3 q4 => ⟨z, Z', h', rfl, q1, q2, q3, q4⟩))
  subst e; exact ⟨z, Z', h', hca, q⟩
set_option maxRecDepth 100000 in
theorem cw_131_1_i1 {l : Launch} {D : va_G} {b0 : Nat} {ad : Nat → Nat} {Hb : Heap} {tau : Nat → Int64} {d n s : Nat} {S : Nat → xS} {Z : xZ} {h : mx_H} {Post : mx_R → Prop} (hx : XH n s S Z h) (hG : GI n S Z)   (hP : ∀ (z : Int) (Z' : xZ) (h' : mx_H), XH n s S Z' h' → GI n S Z' → fr' [(54, 0), (54, 1), (54, 2), (54, 3), (54, 4), (54, 5)] Z Z' → 0 ≤ z ∧ z ≤ 0 ∧ ((((1 : Int) < 0 ∨ 1 < (1 : Int)) → z = -2) ∧ (¬ ((1 : Int) < 0 ∨ 1 < (1 : Int)) → z = 0) ∧ (¬ (1 : Int) = 0 → Z' 52 5 = Z 52 5) ∧ (¬ (1 : Int) = 1 → Z' 54 5 = Z 54 5) ∧ ((1 : Int) = 0 → Z' 52 5 = 1) ∧ ((1 : Int) = 1 → Z' 54 5 = 1) ∧ ((1 : Int) = 0 → Z' 52 1 = Z 36 1) ∧ ((1 : Int) = 1 → Z' 54 1 = Z 36 1) ∧ (¬ (1 : Int) = 0 → Z' 52 1 = Z 52 1) ∧ (¬ (1 : Int) = 1 → Z' 54 1 = Z 54 1)) → Post (some (xI z), h')) : mx_J (tB l D b0 ad Hb tau) mt_131 (d + 1) 0 [some (.ref 1), some (xI 1)] [] h Post := by
    have a1 : 1 < n := lt83 (GI_n hG) rfl
    have s1 : S 1 = .inl (11, [2, 0, 0, 0, 2, 2, 2, 2, 2, 2, 2, 2, 2, 2, 2, 2, 2]) := GI_s hG 1 rfl
    have a35 : 35 < n := lt83 (GI_n hG) rfl
    have s35 : S 35 = .inr ((.object "TitheHeap$Moment"), 2, 2) := GI_s hG 35 rfl
    have a54 : 54 < n := lt83 (GI_n hG) rfl
    have s54 : S 54 = .inl (5, [2, 0, 0, 0, 0, 0]) := GI_s hG 54 rfl
    refine mx_J.step (sn_131 0) (fun _ _ => rfl) ?_
    refine Jif_lt (show mx_Sn _ _ 1 (mx_if_lt 9 4) from sn_131 1) (by omega) (fun q1 => ?_) (fun q1 => ?_)
    · skip
      exfalso; omega
    · skip
      refine mx_J.step (sn_131 4) (fun _ _ => rfl) ?_
      refine JcI (z := 2) (show mx_Sn _ _ 5 (mx_const (.int 2) 6) from sn_131 5) rfl ?_
      refine Jicmp_lt (show mx_Sn _ _ 6 (mx_icmp_lt 12 9) from sn_131 6) (by omega) (by omega) (fun q2 => ?_) (fun q2 => ?_)
      · skip
        refine mx_J.step (sn_131 12) (fun _ _ => rfl) ?_
        refine JgetR (g := 11) (b := 35) hx (show mx_Sn _ _ 13 (mx_getf 11 11 16) from sn_131 13) a1 s1 rfl rfl (hG.prr 1 11 rfl) ?_
        refine mx_J.step (sn_131 16) (fun _ _ => rfl) ?_
        refine JaaldR (i := 1) (b := 54) hx (show mx_Sn _ _ 17 (mx_aald 18) from sn_131 17) a35 s35 (by omega) (show Z 35 1 = 54 by have hq := GI_ex hG 35 1; replace hq : ((0 : Int) ≤ 1 → (1 : Int) ≤ 1 → (Z 35 1) = 52 + 2 * 1) := hq; omega) ?_
        refine mx_J.step (sn_131 18) (fun _ _ => rfl) ?_
        refine JgetR (g := 12) (b := 36) hx (show mx_Sn _ _ 19 (mx_getf 11 12 22) from sn_131 19) a1 s1 rfl rfl (hG.prr 1 12 rfl) ?_
        have b6 : 1 ≤ Z 36 1 ∧ Z 36 1 ≤ 18 := hG.pr 36 1
        obtain ⟨Z5, h5, hc5, hx5, hG5, hf5, b5⟩ := ct_33_54_36 (d := d + 0) (l := l) (D := D) (b0 := b0) (ad := ad) (Hb := Hb) (tau := tau) hx hG 
        have b7 : 1 ≤ Z5 54 1 ∧ Z5 54 1 ≤ 18 := hG5.pr 54 1
        refine Jcv0 hx (show mx_Sn _ _ 22 (mx_callv 33 2 5 25) from sn_131 22) a54 s54 hc5 rfl rfl rfl ?_
        refine mx_J.step (sn_131 25) (fun _ _ => rfl) ?_
        refine JgetR (g := 11) (b := 35) hx5 (show mx_Sn _ _ 26 (mx_getf 11 11 29) from sn_131 26) a1 s1 rfl rfl (hG5.prr 1 11 rfl) ?_
        refine mx_J.step (sn_131 29) (fun _ _ => rfl) ?_
        refine JaaldR (i := 1) (b := 54) hx5 (show mx_Sn _ _ 30 (mx_aald 31) from sn_131 30) a35 s35 (by omega) (show Z5 35 1 = 54 by have hq := GI_ex hG5 35 1; replace hq : ((0 : Int) ≤ 1 → (1 : Int) ≤ 1 → (Z5 35 1) = 52 + 2 * 1) := hq; omega) ?_
        refine JcI (z := 1) (show mx_Sn _ _ 31 (mx_const (.int 1) 32) from sn_131 31) rfl ?_
        refine JputI (g := 5) hx5 (show mx_Sn _ _ 32 (mx_putf 1 5 5 (.boolean) 35) from sn_131 32) a54 s54 rfl rfl (fit_z (by omega)) rfl (fun Z9 h9 hx9 hE9 => ?_)
        have hG9 := GI_up hG5 hE9 (show 0 ≤ 1 ∧ 1 ≤ 1 by omega) trivial rfl
        refine JcI (z := 0) (show mx_Sn _ _ 35 (mx_const (.int 0) 36) from sn_131 35) rfl ?_
        have eq10 : Z9 52 5 = Z 52 5 := ((up_nk hE9 rfl).trans (hf5 52 5 rfl))
        have b11 : 0 ≤ Z 52 5 ∧ Z 52 5 ≤ 1 := hG.pr 52 5
        have eq12 : Z9 54 5 = 1 := (up_at hE9)
        have eq13 : Z9 52 1 = Z 52 1 := ((up_nk hE9 rfl).trans (hf5 52 1 rfl))
        have b14 : 1 ≤ Z 52 1 ∧ Z 52 1 ≤ 18 := hG.pr 52 1
        have eq15 : Z9 54 1 = Z5 54 1 := (up_ni hE9 (by decide))
        have eq16 : Z9 36 1 = Z 36 1 := ((up_nk hE9 rfl).trans (hf5 36 1 rfl))
        have eq17 : Z9 52 5 = Z 52 5 := ((up_nk hE9 rfl).trans (hf5 52 5 rfl))
        have eq18 : Z9 54 5 = 1 := (up_at hE9)
        have eq19 : Z9 52 1 = Z 52 1 := ((up_nk hE9 rfl).trans (hf5 52 1 rfl))
        have eq20 : Z9 54 1 = Z5 54 1 := (up_ni hE9 (by decide))
        have eq21 : Z9 36 1 = Z 36 1 := ((up_nk hE9 rfl).trans (hf5 36 1 rfl))
        exact mx_J.ret (sn_131 36) (fun _ _ => rfl) (hP 0 Z9 h9 hx9 hG9 (fr_tr (M := [(54, 0), (54, 1), (54, 2), (54, 3), (54, 4), (54, 5)]) (fr_tr (M := [(54, 0), (54, 1), (54, 2), (54, 3), (54, 4), (54, 5)]) fr_rf (hf5) (M1 := []) rfl rfl) (fr_up hE9) rfl rfl) (by omega))
      · skip
        exfalso; omega
theorem ct_131_1_i1 {l : Launch} {D : va_G} {b0 : Nat} {ad : Nat → Nat} {Hb : Heap} {tau : Nat → Int64} {d n s : Nat} {S : Nat → xS} {Z : xZ} {h : mx_H} (hx : XH n s S Z h) (hG : GI n S Z)   : ∃ (z : Int) (Z' : xZ) (h' : mx_H), mx_Ca (tB l D b0 ad Hb tau) (d + 2) 131 [.ref 1, xI 1] h (some (xI z), h') ∧ XH n s S Z' h' ∧ GI n S Z' ∧ fr' [(54, 0), (54, 1), (54, 2), (54, 3), (54, 4), (54, 5)] Z Z' ∧ (0 ≤ z ∧ z ≤ 0 ∧ ((((1 : Int) < 0 ∨ 1 < (1 : Int)) → z = -2) ∧ (¬ ((1 : Int) < 0 ∨ 1 < (1 : Int)) → z = 0) ∧ (¬ (1 : Int) = 0 → Z' 52 5 = Z 52 5) ∧ (¬ (1 : Int) = 1 → Z' 54 5 = Z 54 5) ∧ ((1 : Int) = 0 → Z' 52 5 = 1) ∧ ((1 : Int) = 1 → Z' 54 5 = 1) ∧ ((1 : Int) = 0 → Z' 52 1 = Z 36 1) ∧ ((1 : Int) = 1 → Z' 54 1 = Z 36 1) ∧ (¬ (1 : Int) = 0 → Z' 52 1 = Z 52 1) ∧ (¬ (1 : Int) = 1 → Z' 54 1 = Z 54 1))) := by
  obtain ⟨r, hca, z, Z', h', e, q⟩ := Jmt (B := tB l D b0 ad Hb tau) (M := mt_131) (mi := 131) (as := [.ref 1, xI 1]) (d := d + 1) (ls := [some (.ref 1), some (xI 1)]) rfl rfl rfl rfl rfl rfl (cw_131_1_i1 (l := l) (D := D) (b0 := b0) (ad := ad) (Hb := Hb) (tau := tau) (d := d) (Post := fun r => ∃ (z : Int) (Z' : xZ) (h' : mx_H), r = (some (xI z), h') ∧ XH n s S Z' h' ∧ GI n S Z' ∧ fr' [(54, 0), (54, 1), (54, 2), (54, 3), (54, 4), (54, 5)] Z Z' ∧ (0 ≤ z ∧ z ≤ 0 ∧ ((((1 : Int) < 0 ∨ 1 < (1 : Int)) → z = -2) ∧ (¬ ((1 : Int) < 0 ∨ 1 < (1 : Int)) → z = 0) ∧ (¬ (1 : Int) = 0 → Z' 52 5 = Z 52 5) ∧ (¬ (1 : Int) = 1 → Z' 54 5 = Z 54 5) ∧ ((1 : Int) = 0 → Z' 52 5 = 1) ∧ ((1 : Int) = 1 → Z' 54 5 = 1) ∧ ((1 : Int) = 0 → Z' 52 1 = Z 36 1) ∧ ((1 : Int) = 1 → Z' 54 1 = Z 36 1) ∧ (¬ (1 : Int) = 0 → Z' 52 1 = Z 52 1) ∧ (¬ (1 : Int) = 1 → Z' 54 1 = Z 54 1)))) hx hG  (fun z Z' h' q1 q2 q3 q4 => ⟨z, Z', h', rfl, q1, q2, q3, q4⟩))
  subst e; exact ⟨z, Z', h', hca, q⟩
set_option maxRecDepth 100000 in
theorem cw_131_1_n {l : Launch} {D : va_G} {b0 : Nat} {ad : Nat → Nat} {Hb : Heap} {tau : Nat → Int64} {d n s : Nat} {S : Nat → xS} {Z : xZ} {h : mx_H} {Post : mx_R → Prop} (hx : XH n s S Z h) (hG : GI n S Z)  {x0 : Int} (p0 : (-2147483648) ≤ x0 ∧ x0 ≤ (-1)) (hP : ∀ z : Int, (-2) ≤ z ∧ z ≤ (-2) ∧ (((x0 < 0 ∨ 1 < x0) → z = -2) ∧ (¬ (x0 < 0 ∨ 1 < x0) → z = 0) ∧ (¬ x0 = 0 → Z 52 5 = Z 52 5) ∧ (¬ x0 = 1 → Z 54 5 = Z 54 5) ∧ (x0 = 0 → Z 52 5 = 1) ∧ (x0 = 1 → Z 54 5 = 1) ∧ (x0 = 0 → Z 52 1 = Z 36 1) ∧ (x0 = 1 → Z 54 1 = Z 36 1) ∧ (¬ x0 = 0 → Z 52 1 = Z 52 1) ∧ (¬ x0 = 1 → Z 54 1 = Z 54 1)) → Post (some (xI z), h)) : mx_J (tB l D b0 ad Hb tau) mt_131 (d + 0) 0 [some (.ref 1), some (xI x0)] [] h Post := by
    refine mx_J.step (sn_131 0) (fun _ _ => rfl) ?_
    refine Jif_lt (show mx_Sn _ _ 1 (mx_if_lt 9 4) from sn_131 1) (by omega) (fun q1 => ?_) (fun q1 => ?_)
    · skip
      refine JcI (z := (-2)) (show mx_Sn _ _ 9 (mx_const (.int (-2)) 11) from sn_131 9) rfl ?_
      have b2 : 0 ≤ Z 52 5 ∧ Z 52 5 ≤ 1 := hG.pr 52 5
      have b3 : 0 ≤ Z 54 5 ∧ Z 54 5 ≤ 1 := hG.pr 54 5
      have b4 : 1 ≤ Z 52 1 ∧ Z 52 1 ≤ 18 := hG.pr 52 1
      have b5 : 1 ≤ Z 54 1 ∧ Z 54 1 ≤ 18 := hG.pr 54 1
      have b6 : 1 ≤ Z 36 1 ∧ Z 36 1 ≤ 18 := hG.pr 36 1
      exact mx_J.ret (sn_131 11) (fun _ _ => rfl) (hP (-2) (by omega))
    · skip
      exfalso; omega
theorem ct_131_1_n {l : Launch} {D : va_G} {b0 : Nat} {ad : Nat → Nat} {Hb : Heap} {tau : Nat → Int64} {d n s : Nat} {S : Nat → xS} {Z : xZ} {h : mx_H} (hx : XH n s S Z h) (hG : GI n S Z)  {x0 : Int} (p0 : (-2147483648) ≤ x0 ∧ x0 ≤ (-1)) : ∃ z : Int, mx_Ca (tB l D b0 ad Hb tau) (d + 1) 131 [.ref 1, xI x0] h (some (xI z), h) ∧ ((-2) ≤ z ∧ z ≤ (-2) ∧ (((x0 < 0 ∨ 1 < x0) → z = -2) ∧ (¬ (x0 < 0 ∨ 1 < x0) → z = 0) ∧ (¬ x0 = 0 → Z 52 5 = Z 52 5) ∧ (¬ x0 = 1 → Z 54 5 = Z 54 5) ∧ (x0 = 0 → Z 52 5 = 1) ∧ (x0 = 1 → Z 54 5 = 1) ∧ (x0 = 0 → Z 52 1 = Z 36 1) ∧ (x0 = 1 → Z 54 1 = Z 36 1) ∧ (¬ x0 = 0 → Z 52 1 = Z 52 1) ∧ (¬ x0 = 1 → Z 54 1 = Z 54 1))) := by
  obtain ⟨r, hca, z, e, hp⟩ := Jmt (B := tB l D b0 ad Hb tau) (M := mt_131) (mi := 131) (as := [.ref 1, xI x0]) (d := d + 0) (ls := [some (.ref 1), some (xI x0)]) rfl rfl rfl rfl rfl rfl (cw_131_1_n (l := l) (D := D) (b0 := b0) (ad := ad) (Hb := Hb) (tau := tau) (d := d) (Post := fun r => ∃ z : Int, r = (some (xI z), h) ∧ ((-2) ≤ z ∧ z ≤ (-2) ∧ (((x0 < 0 ∨ 1 < x0) → z = -2) ∧ (¬ (x0 < 0 ∨ 1 < x0) → z = 0) ∧ (¬ x0 = 0 → Z 52 5 = Z 52 5) ∧ (¬ x0 = 1 → Z 54 5 = Z 54 5) ∧ (x0 = 0 → Z 52 5 = 1) ∧ (x0 = 1 → Z 54 5 = 1) ∧ (x0 = 0 → Z 52 1 = Z 36 1) ∧ (x0 = 1 → Z 54 1 = Z 36 1) ∧ (¬ x0 = 0 → Z 52 1 = Z 52 1) ∧ (¬ x0 = 1 → Z 54 1 = Z 54 1)))) hx hG p0 (fun z hz => ⟨z, rfl, hz⟩))
  subst e; exact ⟨z, hca, hp⟩
set_option maxRecDepth 100000 in
theorem cw_131_1_p {l : Launch} {D : va_G} {b0 : Nat} {ad : Nat → Nat} {Hb : Heap} {tau : Nat → Int64} {d n s : Nat} {S : Nat → xS} {Z : xZ} {h : mx_H} {Post : mx_R → Prop} (hx : XH n s S Z h) (hG : GI n S Z)  {x0 : Int} (p0 : 2 ≤ x0 ∧ x0 ≤ 2147483647) (hP : ∀ z : Int, (-2) ≤ z ∧ z ≤ (-2) ∧ (((x0 < 0 ∨ 1 < x0) → z = -2) ∧ (¬ (x0 < 0 ∨ 1 < x0) → z = 0) ∧ (¬ x0 = 0 → Z 52 5 = Z 52 5) ∧ (¬ x0 = 1 → Z 54 5 = Z 54 5) ∧ (x0 = 0 → Z 52 5 = 1) ∧ (x0 = 1 → Z 54 5 = 1) ∧ (x0 = 0 → Z 52 1 = Z 36 1) ∧ (x0 = 1 → Z 54 1 = Z 36 1) ∧ (¬ x0 = 0 → Z 52 1 = Z 52 1) ∧ (¬ x0 = 1 → Z 54 1 = Z 54 1)) → Post (some (xI z), h)) : mx_J (tB l D b0 ad Hb tau) mt_131 (d + 0) 0 [some (.ref 1), some (xI x0)] [] h Post := by
    refine mx_J.step (sn_131 0) (fun _ _ => rfl) ?_
    have c9 : (x0 < 0 ∨ 1 < x0) → mx_J (tB l D b0 ad Hb tau) mt_131 (d + 0) 9 [some (.ref 1), some (xI x0)] [] h Post := by
      intro f1_0
      refine JcI (z := (-2)) (show mx_Sn _ _ 9 (mx_const (.int (-2)) 11) from sn_131 9) rfl ?_
      have b2 : 0 ≤ Z 52 5 ∧ Z 52 5 ≤ 1 := hG.pr 52 5
      have b3 : 0 ≤ Z 54 5 ∧ Z 54 5 ≤ 1 := hG.pr 54 5
      have b4 : 1 ≤ Z 52 1 ∧ Z 52 1 ≤ 18 := hG.pr 52 1
      have b5 : 1 ≤ Z 54 1 ∧ Z 54 1 ≤ 18 := hG.pr 54 1
      have b6 : 1 ≤ Z 36 1 ∧ Z 36 1 ≤ 18 := hG.pr 36 1
      exact mx_J.ret (sn_131 11) (fun _ _ => rfl) (hP (-2) (by omega))
    refine Jif_lt (show mx_Sn _ _ 1 (mx_if_lt 9 4) from sn_131 1) (by omega) (fun q7 => ?_) (fun q7 => ?_)
    · skip
      exact c9 (by omega)
    · skip
      refine mx_J.step (sn_131 4) (fun _ _ => rfl) ?_
      refine JcI (z := 2) (show mx_Sn _ _ 5 (mx_const (.int 2) 6) from sn_131 5) rfl ?_
      refine Jicmp_lt (show mx_Sn _ _ 6 (mx_icmp_lt 12 9) from sn_131 6) (by omega) (by omega) (fun q8 => ?_) (fun q8 => ?_)
      · skip
        exfalso; omega
      · skip
        exact c9 (by omega)
theorem ct_131_1_p {l : Launch} {D : va_G} {b0 : Nat} {ad : Nat → Nat} {Hb : Heap} {tau : Nat → Int64} {d n s : Nat} {S : Nat → xS} {Z : xZ} {h : mx_H} (hx : XH n s S Z h) (hG : GI n S Z)  {x0 : Int} (p0 : 2 ≤ x0 ∧ x0 ≤ 2147483647) : ∃ z : Int, mx_Ca (tB l D b0 ad Hb tau) (d + 1) 131 [.ref 1, xI x0] h (some (xI z), h) ∧ ((-2) ≤ z ∧ z ≤ (-2) ∧ (((x0 < 0 ∨ 1 < x0) → z = -2) ∧ (¬ (x0 < 0 ∨ 1 < x0) → z = 0) ∧ (¬ x0 = 0 → Z 52 5 = Z 52 5) ∧ (¬ x0 = 1 → Z 54 5 = Z 54 5) ∧ (x0 = 0 → Z 52 5 = 1) ∧ (x0 = 1 → Z 54 5 = 1) ∧ (x0 = 0 → Z 52 1 = Z 36 1) ∧ (x0 = 1 → Z 54 1 = Z 36 1) ∧ (¬ x0 = 0 → Z 52 1 = Z 52 1) ∧ (¬ x0 = 1 → Z 54 1 = Z 54 1))) := by
  obtain ⟨r, hca, z, e, hp⟩ := Jmt (B := tB l D b0 ad Hb tau) (M := mt_131) (mi := 131) (as := [.ref 1, xI x0]) (d := d + 0) (ls := [some (.ref 1), some (xI x0)]) rfl rfl rfl rfl rfl rfl (cw_131_1_p (l := l) (D := D) (b0 := b0) (ad := ad) (Hb := Hb) (tau := tau) (d := d) (Post := fun r => ∃ z : Int, r = (some (xI z), h) ∧ ((-2) ≤ z ∧ z ≤ (-2) ∧ (((x0 < 0 ∨ 1 < x0) → z = -2) ∧ (¬ (x0 < 0 ∨ 1 < x0) → z = 0) ∧ (¬ x0 = 0 → Z 52 5 = Z 52 5) ∧ (¬ x0 = 1 → Z 54 5 = Z 54 5) ∧ (x0 = 0 → Z 52 5 = 1) ∧ (x0 = 1 → Z 54 5 = 1) ∧ (x0 = 0 → Z 52 1 = Z 36 1) ∧ (x0 = 1 → Z 54 1 = Z 36 1) ∧ (¬ x0 = 0 → Z 52 1 = Z 52 1) ∧ (¬ x0 = 1 → Z 54 1 = Z 54 1)))) hx hG p0 (fun z hz => ⟨z, rfl, hz⟩))
  subst e; exact ⟨z, hca, hp⟩
theorem ct_131_1 {l : Launch} {D : va_G} {b0 : Nat} {ad : Nat → Nat} {Hb : Heap} {tau : Nat → Int64} {d n s : Nat} {S : Nat → xS} {Z : xZ} {h : mx_H} (hx : XH n s S Z h) (hG : GI n S Z) {x0 : Int} (p0 : (-2147483648) ≤ x0 ∧ x0 ≤ 2147483647) : ∃ (z : Int) (Z' : xZ) (h' : mx_H), mx_Ca (tB l D b0 ad Hb tau) (d + 2) 131 [.ref 1, xI x0] h (some (xI z), h') ∧ XH n s S Z' h' ∧ GI n S Z' ∧ fr' [(52, 0), (52, 1), (52, 2), (52, 3), (52, 4), (52, 5), (54, 0), (54, 1), (54, 2), (54, 3), (54, 4), (54, 5)] Z Z' ∧ ((-2) ≤ z ∧ z ≤ 0 ∧ (((x0 < 0 ∨ 1 < x0) → z = -2) ∧ (¬ (x0 < 0 ∨ 1 < x0) → z = 0) ∧ (¬ x0 = 0 → Z' 52 5 = Z 52 5) ∧ (¬ x0 = 1 → Z' 54 5 = Z 54 5) ∧ (x0 = 0 → Z' 52 5 = 1) ∧ (x0 = 1 → Z' 54 5 = 1) ∧ (x0 = 0 → Z' 52 1 = Z 36 1) ∧ (x0 = 1 → Z' 54 1 = Z 36 1) ∧ (¬ x0 = 0 → Z' 52 1 = Z 52 1) ∧ (¬ x0 = 1 → Z' 54 1 = Z 54 1))) := by
  have hc : x0 = 0 ∨ x0 = 1 ∨ ((-2147483648) ≤ x0 ∧ x0 ≤ (-1)) ∨ (2 ≤ x0 ∧ x0 ≤ 2147483647) := by omega
  rcases hc with hc | hc | hc | hc
  · subst hc
    obtain ⟨z, Z', h', hca, q1, q2, q3, b⟩ := ct_131_1_i0 (d := d + 0) (l := l) (D := D) (b0 := b0) (ad := ad) (Hb := Hb) (tau := tau) hx hG 
    exact ⟨z, Z', h', hca, q1, q2, fr_tr (M1 := []) fr_rf q3 rfl rfl, ⟨Int.le_trans (by decide) b.1, Int.le_trans b.2.1 (by decide), b.2.2⟩⟩
  · subst hc
    obtain ⟨z, Z', h', hca, q1, q2, q3, b⟩ := ct_131_1_i1 (d := d + 0) (l := l) (D := D) (b0 := b0) (ad := ad) (Hb := Hb) (tau := tau) hx hG 
    exact ⟨z, Z', h', hca, q1, q2, fr_tr (M1 := []) fr_rf q3 rfl rfl, ⟨Int.le_trans (by decide) b.1, Int.le_trans b.2.1 (by decide), b.2.2⟩⟩
  · skip
    obtain ⟨z, hca, b⟩ := ct_131_1_n (d := d + 1) (l := l) (D := D) (b0 := b0) (ad := ad) (Hb := Hb) (tau := tau) hx hG hc
    exact ⟨z, Z, h, hca, hx, hG, fr_rf, ⟨Int.le_trans (by decide) b.1, Int.le_trans b.2.1 (by decide), b.2.2⟩⟩
  · skip
    obtain ⟨z, hca, b⟩ := ct_131_1_p (d := d + 1) (l := l) (D := D) (b0 := b0) (ad := ad) (Hb := Hb) (tau := tau) hx hG hc
    exact ⟨z, Z, h, hca, hx, hG, fr_rf, ⟨Int.le_trans (by decide) b.1, Int.le_trans b.2.1 (by decide), b.2.2⟩⟩
set_option maxRecDepth 100000 in
theorem cw_132_1_i0 {l : Launch} {D : va_G} {b0 : Nat} {ad : Nat → Nat} {Hb : Heap} {tau : Nat → Int64} {d n s : Nat} {S : Nat → xS} {Z : xZ} {h : mx_H} {Post : mx_R → Prop} (hx : XH n s S Z h) (hG : GI n S Z)   (k0 : CTB Z (Z 36 1)) (hP : ∀ (z : Int) (Z' : xZ) (h' : mx_H), XH n s S Z' h' → GI n S Z' → fr' [(7, 4), (7, 5), (9, (-1)), (10, (-1)), (11, (-1)), (12, 1), (12, 2), (17, (-1)), (36, 0), (36, 1), (36, 2), (36, 3), (36, 4), (40, 1)] Z Z' → CTB Z' (Z' 36 1) ∧ (-5) ≤ z ∧ z ≤ 0 ∧ ((((0 : Int) < 0 ∨ 1 < (0 : Int)) → z = -2) ∧ ((0 : Int) = 0 → (Z 52 5 = 0 → z = -5) ∧ (¬ Z 52 5 = 0 → z = 0)) ∧ ((0 : Int) = 1 → (Z 54 5 = 0 → z = -5) ∧ (¬ Z 54 5 = 0 → z = 0)) ∧ (((0 : Int) < 0 ∨ 1 < (0 : Int)) → Z' 36 1 = Z 36 1) ∧ ((0 : Int) = 0 → (Z 52 5 = 0 → Z' 36 1 = Z 36 1) ∧ (¬ Z 52 5 = 0 → Z' 36 1 = Z 52 1)) ∧ ((0 : Int) = 1 → (Z 54 5 = 0 → Z' 36 1 = Z 36 1) ∧ (¬ Z 54 5 = 0 → Z' 36 1 = Z 54 1))) → Post (some (xI z), h')) : mx_J (tB l D b0 ad Hb tau) mt_132 (d + 4) 0 [some (.ref 1), some (xI 0)] [] h Post := by
    have a1 : 1 < n := lt83 (GI_n hG) rfl
    have s1 : S 1 = .inl (11, [2, 0, 0, 0, 2, 2, 2, 2, 2, 2, 2, 2, 2, 2, 2, 2, 2]) := GI_s hG 1 rfl
    have a35 : 35 < n := lt83 (GI_n hG) rfl
    have s35 : S 35 = .inr ((.object "TitheHeap$Moment"), 2, 2) := GI_s hG 35 rfl
    have a36 : 36 < n := lt83 (GI_n hG) rfl
    have s36 : S 36 = .inl (5, [2, 0, 0, 0, 0, 0]) := GI_s hG 36 rfl
    have a52 : 52 < n := lt83 (GI_n hG) rfl
    have s52 : S 52 = .inl (5, [2, 0, 0, 0, 0, 0]) := GI_s hG 52 rfl
    refine mx_J.step (sn_132 0) (fun _ _ => rfl) ?_
    refine Jif_lt (show mx_Sn _ _ 1 (mx_if_lt 9 4) from sn_132 1) (by omega) (fun q1 => ?_) (fun q1 => ?_)
    · skip
      exfalso; omega
    · skip
      refine mx_J.step (sn_132 4) (fun _ _ => rfl) ?_
      refine JcI (z := 2) (show mx_Sn _ _ 5 (mx_const (.int 2) 6) from sn_132 5) rfl ?_
      refine Jicmp_lt (show mx_Sn _ _ 6 (mx_icmp_lt 12 9) from sn_132 6) (by omega) (by omega) (fun q2 => ?_) (fun q2 => ?_)
      · skip
        refine mx_J.step (sn_132 12) (fun _ _ => rfl) ?_
        refine JgetR (g := 11) (b := 35) hx (show mx_Sn _ _ 13 (mx_getf 11 11 16) from sn_132 13) a1 s1 rfl rfl (hG.prr 1 11 rfl) ?_
        refine mx_J.step (sn_132 16) (fun _ _ => rfl) ?_
        refine JaaldR (i := 0) (b := 52) hx (show mx_Sn _ _ 17 (mx_aald 18) from sn_132 17) a35 s35 (by omega) (show Z 35 0 = 52 by have hq := GI_ex hG 35 0; replace hq : ((0 : Int) ≤ 0 → (0 : Int) ≤ 1 → (Z 35 0) = 52 + 2 * 0) := hq; omega) ?_
        have b5 : 0 ≤ Z 52 5 ∧ Z 52 5 ≤ 1 := hG.pr 52 5
        refine JgetI (g := 5) (z := Z 52 5) hx (show mx_Sn _ _ 18 (mx_getf 5 5 21) from sn_132 18) a52 s52 rfl rfl rfl ?_
        refine Jif_ne (show mx_Sn _ _ 21 (mx_if_ne 27 24) from sn_132 21) (by omega) (fun q6 => ?_) (fun q6 => ?_)
        · skip
          refine mx_J.step (sn_132 27) (fun _ _ => rfl) ?_
          refine JgetR (g := 12) (b := 36) hx (show mx_Sn _ _ 28 (mx_getf 11 12 31) from sn_132 28) a1 s1 rfl rfl (hG.prr 1 12 rfl) ?_
          refine mx_J.step (sn_132 31) (fun _ _ => rfl) ?_
          refine JgetR (g := 11) (b := 35) hx (show mx_Sn _ _ 32 (mx_getf 11 11 35) from sn_132 32) a1 s1 rfl rfl (hG.prr 1 11 rfl) ?_
          refine mx_J.step (sn_132 35) (fun _ _ => rfl) ?_
          refine JaaldR (i := 0) (b := 52) hx (show mx_Sn _ _ 36 (mx_aald 37) from sn_132 36) a35 s35 (by omega) (show Z 35 0 = 52 by have hq := GI_ex hG 35 0; replace hq : ((0 : Int) ≤ 0 → (0 : Int) ≤ 1 → (Z 35 0) = 52 + 2 * 0) := hq; omega) ?_
          have b10 : 1 ≤ Z 52 1 ∧ Z 52 1 ≤ 18 := hG.pr 52 1
          obtain ⟨Z9, h9, hc9, hx9, hG9, hf9, b9⟩ := ct_33_36_52 (d := d + 3) (l := l) (D := D) (b0 := b0) (ad := ad) (Hb := Hb) (tau := tau) hx hG 
          have b11 : 1 ≤ Z9 36 1 ∧ Z9 36 1 ≤ 18 := hG9.pr 36 1
          refine Jcv0 hx (show mx_Sn _ _ 37 (mx_callv 33 2 5 40) from sn_132 37) a36 s36 hc9 rfl rfl rfl ?_
          refine mx_J.step (sn_132 40) (fun _ _ => rfl) ?_
          obtain ⟨Z12, h12, hc12, hx12, hG12, hf12, b12⟩ := ct_135_1 (d := d + 0) (l := l) (D := D) (b0 := b0) (ad := ad) (Hb := Hb) (tau := tau) hx9 hG9  (CTB_7 (CTB_c k0 (hf9 7 4 rfl) (hf9 7 5 rfl) (fun i => (hf9 9 i rfl)) (fun i => (hf9 10 i rfl))))
          have bs12_0 := b12
          clear b12
          refine Jcv0 hx9 (show mx_Sn _ _ 41 (mx_callv 135 1 11 44) from sn_132 41) a1 s1 hc12 rfl rfl rfl ?_
          refine JcI (z := 0) (show mx_Sn _ _ 44 (mx_const (.int 0) 45) from sn_132 44) rfl ?_
          have eq13 : Z12 36 1 = Z9 36 1 := (hf12 36 1 rfl)
          have eq14 : Z12 36 1 = Z9 36 1 := (hf12 36 1 rfl)
          have eq15 : Z12 52 5 = Z 52 5 := ((hf12 52 5 rfl).trans (hf9 52 5 rfl))
          have eq16 : Z12 54 5 = Z 54 5 := ((hf12 54 5 rfl).trans (hf9 54 5 rfl))
          have b17 : 0 ≤ Z 54 5 ∧ Z 54 5 ≤ 1 := hG.pr 54 5
          have eq18 : Z12 52 1 = Z 52 1 := ((hf12 52 1 rfl).trans (hf9 52 1 rfl))
          have eq19 : Z12 54 1 = Z 54 1 := ((hf12 54 1 rfl).trans (hf9 54 1 rfl))
          have b20 : 1 ≤ Z 54 1 ∧ Z 54 1 ≤ 18 := hG.pr 54 1
          have eq21 : Z12 36 1 = Z9 36 1 := (hf12 36 1 rfl)
          exact mx_J.ret (sn_132 45) (fun _ _ => rfl) (hP 0 Z12 h12 hx12 hG12 (fr_tr (M := [(7, 4), (7, 5), (9, (-1)), (10, (-1)), (11, (-1)), (12, 1), (12, 2), (17, (-1)), (36, 0), (36, 1), (36, 2), (36, 3), (36, 4), (40, 1)]) (fr_tr (M := [(7, 4), (7, 5), (9, (-1)), (10, (-1)), (11, (-1)), (12, 1), (12, 2), (17, (-1)), (36, 0), (36, 1), (36, 2), (36, 3), (36, 4), (40, 1)]) fr_rf (hf9) (M1 := []) rfl rfl) (hf12) rfl rfl) ⟨(CTB_e (by assumption) (hf12 36 1 rfl)), by omega⟩)
        · skip
          refine JcI (z := (-5)) (show mx_Sn _ _ 24 (mx_const (.int (-5)) 26) from sn_132 24) rfl ?_
          have b22 : 1 ≤ Z 36 1 ∧ Z 36 1 ≤ 18 := hG.pr 36 1
          have b23 : 0 ≤ Z 54 5 ∧ Z 54 5 ≤ 1 := hG.pr 54 5
          have b24 : 1 ≤ Z 52 1 ∧ Z 52 1 ≤ 18 := hG.pr 52 1
          have b25 : 1 ≤ Z 54 1 ∧ Z 54 1 ≤ 18 := hG.pr 54 1
          exact mx_J.ret (sn_132 26) (fun _ _ => rfl) (hP (-5) Z h hx hG fr_rf ⟨(k0), by omega⟩)
      · skip
        exfalso; omega
theorem ct_132_1_i0 {l : Launch} {D : va_G} {b0 : Nat} {ad : Nat → Nat} {Hb : Heap} {tau : Nat → Int64} {d n s : Nat} {S : Nat → xS} {Z : xZ} {h : mx_H} (hx : XH n s S Z h) (hG : GI n S Z)   (k0 : CTB Z (Z 36 1)) : ∃ (z : Int) (Z' : xZ) (h' : mx_H), mx_Ca (tB l D b0 ad Hb tau) (d + 5) 132 [.ref 1, xI 0] h (some (xI z), h') ∧ XH n s S Z' h' ∧ GI n S Z' ∧ fr' [(7, 4), (7, 5), (9, (-1)), (10, (-1)), (11, (-1)), (12, 1), (12, 2), (17, (-1)), (36, 0), (36, 1), (36, 2), (36, 3), (36, 4), (40, 1)] Z Z' ∧ (CTB Z' (Z' 36 1) ∧ (-5) ≤ z ∧ z ≤ 0 ∧ ((((0 : Int) < 0 ∨ 1 < (0 : Int)) → z = -2) ∧ ((0 : Int) = 0 → (Z 52 5 = 0 → z = -5) ∧ (¬ Z 52 5 = 0 → z = 0)) ∧ ((0 : Int) = 1 → (Z 54 5 = 0 → z = -5) ∧ (¬ Z 54 5 = 0 → z = 0)) ∧ (((0 : Int) < 0 ∨ 1 < (0 : Int)) → Z' 36 1 = Z 36 1) ∧ ((0 : Int) = 0 → (Z 52 5 = 0 → Z' 36 1 = Z 36 1) ∧ (¬ Z 52 5 = 0 → Z' 36 1 = Z 52 1)) ∧ ((0 : Int) = 1 → (Z 54 5 = 0 → Z' 36 1 = Z 36 1) ∧ (¬ Z 54 5 = 0 → Z' 36 1 = Z 54 1)))) := by
  obtain ⟨r, hca, z, Z', h', e, q⟩ := Jmt (B := tB l D b0 ad Hb tau) (M := mt_132) (mi := 132) (as := [.ref 1, xI 0]) (d := d + 4) (ls := [some (.ref 1), some (xI 0)]) rfl rfl rfl rfl rfl rfl (cw_132_1_i0 (l := l) (D := D) (b0 := b0) (ad := ad) (Hb := Hb) (tau := tau) (d := d) (Post := fun r => ∃ (z : Int) (Z' : xZ) (h' : mx_H), r = (some (xI z), h') ∧ XH n s S Z' h' ∧ GI n S Z' ∧ fr' [(7, 4), (7, 5), (9, (-1)), (10, (-1)), (11, (-1)), (12, 1), (12, 2), (17, (-1)), (36, 0), (36, 1), (36, 2), (36, 3), (36, 4), (40, 1)] Z Z' ∧ (CTB Z' (Z' 36 1) ∧ (-5) ≤ z ∧ z ≤ 0 ∧ ((((0 : Int) < 0 ∨ 1 < (0 : Int)) → z = -2) ∧ ((0 : Int) = 0 → (Z 52 5 = 0 → z = -5) ∧ (¬ Z 52 5 = 0 → z = 0)) ∧ ((0 : Int) = 1 → (Z 54 5 = 0 → z = -5) ∧ (¬ Z 54 5 = 0 → z = 0)) ∧ (((0 : Int) < 0 ∨ 1 < (0 : Int)) → Z' 36 1 = Z 36 1) ∧ ((0 : Int) = 0 → (Z 52 5 = 0 → Z' 36 1 = Z 36 1) ∧ (¬ Z 52 5 = 0 → Z' 36 1 = Z 52 1)) ∧ ((0 : Int) = 1 → (Z 54 5 = 0 → Z' 36 1 = Z 36 1) ∧ (¬ Z 54 5 = 0 → Z' 36 1 = Z 54 1))))) hx hG k0 (fun z Z' h' q1 q2 q3 q4 => ⟨z, Z', h', rfl, q1, q2, q3, q4⟩))
  subst e; exact ⟨z, Z', h', hca, q⟩
set_option maxRecDepth 100000 in
theorem cw_132_1_i1 {l : Launch} {D : va_G} {b0 : Nat} {ad : Nat → Nat} {Hb : Heap} {tau : Nat → Int64} {d n s : Nat} {S : Nat → xS} {Z : xZ} {h : mx_H} {Post : mx_R → Prop} (hx : XH n s S Z h) (hG : GI n S Z)   (k0 : CTB Z (Z 36 1)) (hP : ∀ (z : Int) (Z' : xZ) (h' : mx_H), XH n s S Z' h' → GI n S Z' → fr' [(7, 4), (7, 5), (9, (-1)), (10, (-1)), (11, (-1)), (12, 1), (12, 2), (17, (-1)), (36, 0), (36, 1), (36, 2), (36, 3), (36, 4), (40, 1)] Z Z' → CTB Z' (Z' 36 1) ∧ (-5) ≤ z ∧ z ≤ 0 ∧ ((((1 : Int) < 0 ∨ 1 < (1 : Int)) → z = -2) ∧ ((1 : Int) = 0 → (Z 52 5 = 0 → z = -5) ∧ (¬ Z 52 5 = 0 → z = 0)) ∧ ((1 : Int) = 1 → (Z 54 5 = 0 → z = -5) ∧ (¬ Z 54 5 = 0 → z = 0)) ∧ (((1 : Int) < 0 ∨ 1 < (1 : Int)) → Z' 36 1 = Z 36 1) ∧ ((1 : Int) = 0 → (Z 52 5 = 0 → Z' 36 1 = Z 36 1) ∧ (¬ Z 52 5 = 0 → Z' 36 1 = Z 52 1)) ∧ ((1 : Int) = 1 → (Z 54 5 = 0 → Z' 36 1 = Z 36 1) ∧ (¬ Z 54 5 = 0 → Z' 36 1 = Z 54 1))) → Post (some (xI z), h')) : mx_J (tB l D b0 ad Hb tau) mt_132 (d + 4) 0 [some (.ref 1), some (xI 1)] [] h Post := by
    have a1 : 1 < n := lt83 (GI_n hG) rfl
    have s1 : S 1 = .inl (11, [2, 0, 0, 0, 2, 2, 2, 2, 2, 2, 2, 2, 2, 2, 2, 2, 2]) := GI_s hG 1 rfl
    have a35 : 35 < n := lt83 (GI_n hG) rfl
    have s35 : S 35 = .inr ((.object "TitheHeap$Moment"), 2, 2) := GI_s hG 35 rfl
    have a36 : 36 < n := lt83 (GI_n hG) rfl
    have s36 : S 36 = .inl (5, [2, 0, 0, 0, 0, 0]) := GI_s hG 36 rfl
    have a54 : 54 < n := lt83 (GI_n hG) rfl
    have s54 : S 54 = .inl (5, [2, 0, 0, 0, 0, 0]) := GI_s hG 54 rfl
    refine mx_J.step (sn_132 0) (fun _ _ => rfl) ?_
    refine Jif_lt (show mx_Sn _ _ 1 (mx_if_lt 9 4) from sn_132 1) (by omega) (fun q1 => ?_) (fun q1 => ?_)
    · skip
      exfalso; omega
    · skip
      refine mx_J.step (sn_132 4) (fun _ _ => rfl) ?_
      refine JcI (z := 2) (show mx_Sn _ _ 5 (mx_const (.int 2) 6) from sn_132 5) rfl ?_
      refine Jicmp_lt (show mx_Sn _ _ 6 (mx_icmp_lt 12 9) from sn_132 6) (by omega) (by omega) (fun q2 => ?_) (fun q2 => ?_)
      · skip
        refine mx_J.step (sn_132 12) (fun _ _ => rfl) ?_
        refine JgetR (g := 11) (b := 35) hx (show mx_Sn _ _ 13 (mx_getf 11 11 16) from sn_132 13) a1 s1 rfl rfl (hG.prr 1 11 rfl) ?_
        refine mx_J.step (sn_132 16) (fun _ _ => rfl) ?_
        refine JaaldR (i := 1) (b := 54) hx (show mx_Sn _ _ 17 (mx_aald 18) from sn_132 17) a35 s35 (by omega) (show Z 35 1 = 54 by have hq := GI_ex hG 35 1; replace hq : ((0 : Int) ≤ 1 → (1 : Int) ≤ 1 → (Z 35 1) = 52 + 2 * 1) := hq; omega) ?_
        have b5 : 0 ≤ Z 54 5 ∧ Z 54 5 ≤ 1 := hG.pr 54 5
        refine JgetI (g := 5) (z := Z 54 5) hx (show mx_Sn _ _ 18 (mx_getf 5 5 21) from sn_132 18) a54 s54 rfl rfl rfl ?_
        refine Jif_ne (show mx_Sn _ _ 21 (mx_if_ne 27 24) from sn_132 21) (by omega) (fun q6 => ?_) (fun q6 => ?_)
        · skip
          refine mx_J.step (sn_132 27) (fun _ _ => rfl) ?_
          refine JgetR (g := 12) (b := 36) hx (show mx_Sn _ _ 28 (mx_getf 11 12 31) from sn_132 28) a1 s1 rfl rfl (hG.prr 1 12 rfl) ?_
          refine mx_J.step (sn_132 31) (fun _ _ => rfl) ?_
          refine JgetR (g := 11) (b := 35) hx (show mx_Sn _ _ 32 (mx_getf 11 11 35) from sn_132 32) a1 s1 rfl rfl (hG.prr 1 11 rfl) ?_
          refine mx_J.step (sn_132 35) (fun _ _ => rfl) ?_
          refine JaaldR (i := 1) (b := 54) hx (show mx_Sn _ _ 36 (mx_aald 37) from sn_132 36) a35 s35 (by omega) (show Z 35 1 = 54 by have hq := GI_ex hG 35 1; replace hq : ((0 : Int) ≤ 1 → (1 : Int) ≤ 1 → (Z 35 1) = 52 + 2 * 1) := hq; omega) ?_
          have b10 : 1 ≤ Z 54 1 ∧ Z 54 1 ≤ 18 := hG.pr 54 1
          obtain ⟨Z9, h9, hc9, hx9, hG9, hf9, b9⟩ := ct_33_36_54 (d := d + 3) (l := l) (D := D) (b0 := b0) (ad := ad) (Hb := Hb) (tau := tau) hx hG 
          have b11 : 1 ≤ Z9 36 1 ∧ Z9 36 1 ≤ 18 := hG9.pr 36 1
          refine Jcv0 hx (show mx_Sn _ _ 37 (mx_callv 33 2 5 40) from sn_132 37) a36 s36 hc9 rfl rfl rfl ?_
          refine mx_J.step (sn_132 40) (fun _ _ => rfl) ?_
          obtain ⟨Z12, h12, hc12, hx12, hG12, hf12, b12⟩ := ct_135_1 (d := d + 0) (l := l) (D := D) (b0 := b0) (ad := ad) (Hb := Hb) (tau := tau) hx9 hG9  (CTB_7 (CTB_c k0 (hf9 7 4 rfl) (hf9 7 5 rfl) (fun i => (hf9 9 i rfl)) (fun i => (hf9 10 i rfl))))
          have bs12_0 := b12
          clear b12
          refine Jcv0 hx9 (show mx_Sn _ _ 41 (mx_callv 135 1 11 44) from sn_132 41) a1 s1 hc12 rfl rfl rfl ?_
          refine JcI (z := 0) (show mx_Sn _ _ 44 (mx_const (.int 0) 45) from sn_132 44) rfl ?_
          have eq13 : Z12 36 1 = Z9 36 1 := (hf12 36 1 rfl)
          have eq14 : Z12 36 1 = Z9 36 1 := (hf12 36 1 rfl)
          have eq15 : Z12 52 5 = Z 52 5 := ((hf12 52 5 rfl).trans (hf9 52 5 rfl))
          have b16 : 0 ≤ Z 52 5 ∧ Z 52 5 ≤ 1 := hG.pr 52 5
          have eq17 : Z12 54 5 = Z 54 5 := ((hf12 54 5 rfl).trans (hf9 54 5 rfl))
          have eq18 : Z12 52 1 = Z 52 1 := ((hf12 52 1 rfl).trans (hf9 52 1 rfl))
          have b19 : 1 ≤ Z 52 1 ∧ Z 52 1 ≤ 18 := hG.pr 52 1
          have eq20 : Z12 54 1 = Z 54 1 := ((hf12 54 1 rfl).trans (hf9 54 1 rfl))
          have eq21 : Z12 36 1 = Z9 36 1 := (hf12 36 1 rfl)
          exact mx_J.ret (sn_132 45) (fun _ _ => rfl) (hP 0 Z12 h12 hx12 hG12 (fr_tr (M := [(7, 4), (7, 5), (9, (-1)), (10, (-1)), (11, (-1)), (12, 1), (12, 2), (17, (-1)), (36, 0), (36, 1), (36, 2), (36, 3), (36, 4), (40, 1)]) (fr_tr (M := [(7, 4), (7, 5), (9, (-1)), (10, (-1)), (11, (-1)), (12, 1), (12, 2), (17, (-1)), (36, 0), (36, 1), (36, 2), (36, 3), (36, 4), (40, 1)]) fr_rf (hf9) (M1 := []) rfl rfl) (hf12) rfl rfl) ⟨(CTB_e (by assumption) (hf12 36 1 rfl)), by omega⟩)
        · skip
          refine JcI (z := (-5)) (show mx_Sn _ _ 24 (mx_const (.int (-5)) 26) from sn_132 24) rfl ?_
          have b22 : 1 ≤ Z 36 1 ∧ Z 36 1 ≤ 18 := hG.pr 36 1
          have b23 : 0 ≤ Z 52 5 ∧ Z 52 5 ≤ 1 := hG.pr 52 5
          have b24 : 1 ≤ Z 52 1 ∧ Z 52 1 ≤ 18 := hG.pr 52 1
          have b25 : 1 ≤ Z 54 1 ∧ Z 54 1 ≤ 18 := hG.pr 54 1
          exact mx_J.ret (sn_132 26) (fun _ _ => rfl) (hP (-5) Z h hx hG fr_rf ⟨(k0), by omega⟩)
      · skip
        exfalso; omega
theorem ct_132_1_i1 {l : Launch} {D : va_G} {b0 : Nat} {ad : Nat → Nat} {Hb : Heap} {tau : Nat → Int64} {d n s : Nat} {S : Nat → xS} {Z : xZ} {h : mx_H} (hx : XH n s S Z h) (hG : GI n S Z)   (k0 : CTB Z (Z 36 1)) : ∃ (z : Int) (Z' : xZ) (h' : mx_H), mx_Ca (tB l D b0 ad Hb tau) (d + 5) 132 [.ref 1, xI 1] h (some (xI z), h') ∧ XH n s S Z' h' ∧ GI n S Z' ∧ fr' [(7, 4), (7, 5), (9, (-1)), (10, (-1)), (11, (-1)), (12, 1), (12, 2), (17, (-1)), (36, 0), (36, 1), (36, 2), (36, 3), (36, 4), (40, 1)] Z Z' ∧ (CTB Z' (Z' 36 1) ∧ (-5) ≤ z ∧ z ≤ 0 ∧ ((((1 : Int) < 0 ∨ 1 < (1 : Int)) → z = -2) ∧ ((1 : Int) = 0 → (Z 52 5 = 0 → z = -5) ∧ (¬ Z 52 5 = 0 → z = 0)) ∧ ((1 : Int) = 1 → (Z 54 5 = 0 → z = -5) ∧ (¬ Z 54 5 = 0 → z = 0)) ∧ (((1 : Int) < 0 ∨ 1 < (1 : Int)) → Z' 36 1 = Z 36 1) ∧ ((1 : Int) = 0 → (Z 52 5 = 0 → Z' 36 1 = Z 36 1) ∧ (¬ Z 52 5 = 0 → Z' 36 1 = Z 52 1)) ∧ ((1 : Int) = 1 → (Z 54 5 = 0 → Z' 36 1 = Z 36 1) ∧ (¬ Z 54 5 = 0 → Z' 36 1 = Z 54 1)))) := by
  obtain ⟨r, hca, z, Z', h', e, q⟩ := Jmt (B := tB l D b0 ad Hb tau) (M := mt_132) (mi := 132) (as := [.ref 1, xI 1]) (d := d + 4) (ls := [some (.ref 1), some (xI 1)]) rfl rfl rfl rfl rfl rfl (cw_132_1_i1 (l := l) (D := D) (b0 := b0) (ad := ad) (Hb := Hb) (tau := tau) (d := d) (Post := fun r => ∃ (z : Int) (Z' : xZ) (h' : mx_H), r = (some (xI z), h') ∧ XH n s S Z' h' ∧ GI n S Z' ∧ fr' [(7, 4), (7, 5), (9, (-1)), (10, (-1)), (11, (-1)), (12, 1), (12, 2), (17, (-1)), (36, 0), (36, 1), (36, 2), (36, 3), (36, 4), (40, 1)] Z Z' ∧ (CTB Z' (Z' 36 1) ∧ (-5) ≤ z ∧ z ≤ 0 ∧ ((((1 : Int) < 0 ∨ 1 < (1 : Int)) → z = -2) ∧ ((1 : Int) = 0 → (Z 52 5 = 0 → z = -5) ∧ (¬ Z 52 5 = 0 → z = 0)) ∧ ((1 : Int) = 1 → (Z 54 5 = 0 → z = -5) ∧ (¬ Z 54 5 = 0 → z = 0)) ∧ (((1 : Int) < 0 ∨ 1 < (1 : Int)) → Z' 36 1 = Z 36 1) ∧ ((1 : Int) = 0 → (Z 52 5 = 0 → Z' 36 1 = Z 36 1) ∧ (¬ Z 52 5 = 0 → Z' 36 1 = Z 52 1)) ∧ ((1 : Int) = 1 → (Z 54 5 = 0 → Z' 36 1 = Z 36 1) ∧ (¬ Z 54 5 = 0 → Z' 36 1 = Z 54 1))))) hx hG k0 (fun z Z' h' q1 q2 q3 q4 => ⟨z, Z', h', rfl, q1, q2, q3, q4⟩))
  subst e; exact ⟨z, Z', h', hca, q⟩
set_option maxRecDepth 100000 in
theorem cw_132_1_n {l : Launch} {D : va_G} {b0 : Nat} {ad : Nat → Nat} {Hb : Heap} {tau : Nat → Int64} {d n s : Nat} {S : Nat → xS} {Z : xZ} {h : mx_H} {Post : mx_R → Prop} (hx : XH n s S Z h) (hG : GI n S Z)  {x0 : Int} (p0 : (-2147483648) ≤ x0 ∧ x0 ≤ (-1)) (k0 : CTB Z (Z 36 1)) (hP : ∀ z : Int, CTB Z (Z 36 1) ∧ (-2) ≤ z ∧ z ≤ (-2) ∧ (((x0 < 0 ∨ 1 < x0) → z = -2) ∧ (x0 = 0 → (Z 52 5 = 0 → z = -5) ∧ (¬ Z 52 5 = 0 → z = 0)) ∧ (x0 = 1 → (Z 54 5 = 0 → z = -5) ∧ (¬ Z 54 5 = 0 → z = 0)) ∧ ((x0 < 0 ∨ 1 < x0) → Z 36 1 = Z 36 1) ∧ (x0 = 0 → (Z 52 5 = 0 → Z 36 1 = Z 36 1) ∧ (¬ Z 52 5 = 0 → Z 36 1 = Z 52 1)) ∧ (x0 = 1 → (Z 54 5 = 0 → Z 36 1 = Z 36 1) ∧ (¬ Z 54 5 = 0 → Z 36 1 = Z 54 1))) → Post (some (xI z), h)) : mx_J (tB l D b0 ad Hb tau) mt_132 (d + 0) 0 [some (.ref 1), some (xI x0)] [] h Post := by
    refine mx_J.step (sn_132 0) (fun _ _ => rfl) ?_
    refine Jif_lt (show mx_Sn _ _ 1 (mx_if_lt 9 4) from sn_132 1) (by omega) (fun q1 => ?_) (fun q1 => ?_)
    · skip
      refine JcI (z := (-2)) (show mx_Sn _ _ 9 (mx_const (.int (-2)) 11) from sn_132 9) rfl ?_
      have b2 : 1 ≤ Z 36 1 ∧ Z 36 1 ≤ 18 := hG.pr 36 1
      have b3 : 0 ≤ Z 52 5 ∧ Z 52 5 ≤ 1 := hG.pr 52 5
      have b4 : 0 ≤ Z 54 5 ∧ Z 54 5 ≤ 1 := hG.pr 54 5
      have b5 : 1 ≤ Z 52 1 ∧ Z 52 1 ≤ 18 := hG.pr 52 1
      have b6 : 1 ≤ Z 54 1 ∧ Z 54 1 ≤ 18 := hG.pr 54 1
      exact mx_J.ret (sn_132 11) (fun _ _ => rfl) (hP (-2) ⟨(k0), by omega⟩)
    · skip
      exfalso; omega
theorem ct_132_1_n {l : Launch} {D : va_G} {b0 : Nat} {ad : Nat → Nat} {Hb : Heap} {tau : Nat → Int64} {d n s : Nat} {S : Nat → xS} {Z : xZ} {h : mx_H} (hx : XH n s S Z h) (hG : GI n S Z)  {x0 : Int} (p0 : (-2147483648) ≤ x0 ∧ x0 ≤ (-1)) (k0 : CTB Z (Z 36 1)) : ∃ z : Int, mx_Ca (tB l D b0 ad Hb tau) (d + 1) 132 [.ref 1, xI x0] h (some (xI z), h) ∧ (CTB Z (Z 36 1) ∧ (-2) ≤ z ∧ z ≤ (-2) ∧ (((x0 < 0 ∨ 1 < x0) → z = -2) ∧ (x0 = 0 → (Z 52 5 = 0 → z = -5) ∧ (¬ Z 52 5 = 0 → z = 0)) ∧ (x0 = 1 → (Z 54 5 = 0 → z = -5) ∧ (¬ Z 54 5 = 0 → z = 0)) ∧ ((x0 < 0 ∨ 1 < x0) → Z 36 1 = Z 36 1) ∧ (x0 = 0 → (Z 52 5 = 0 → Z 36 1 = Z 36 1) ∧ (¬ Z 52 5 = 0 → Z 36 1 = Z 52 1)) ∧ (x0 = 1 → (Z 54 5 = 0 → Z 36 1 = Z 36 1) ∧ (¬ Z 54 5 = 0 → Z 36 1 = Z 54 1)))) := by
  obtain ⟨r, hca, z, e, hp⟩ := Jmt (B := tB l D b0 ad Hb tau) (M := mt_132) (mi := 132) (as := [.ref 1, xI x0]) (d := d + 0) (ls := [some (.ref 1), some (xI x0)]) rfl rfl rfl rfl rfl rfl (cw_132_1_n (l := l) (D := D) (b0 := b0) (ad := ad) (Hb := Hb) (tau := tau) (d := d) (Post := fun r => ∃ z : Int, r = (some (xI z), h) ∧ (CTB Z (Z 36 1) ∧ (-2) ≤ z ∧ z ≤ (-2) ∧ (((x0 < 0 ∨ 1 < x0) → z = -2) ∧ (x0 = 0 → (Z 52 5 = 0 → z = -5) ∧ (¬ Z 52 5 = 0 → z = 0)) ∧ (x0 = 1 → (Z 54 5 = 0 → z = -5) ∧ (¬ Z 54 5 = 0 → z = 0)) ∧ ((x0 < 0 ∨ 1 < x0) → Z 36 1 = Z 36 1) ∧ (x0 = 0 → (Z 52 5 = 0 → Z 36 1 = Z 36 1) ∧ (¬ Z 52 5 = 0 → Z 36 1 = Z 52 1)) ∧ (x0 = 1 → (Z 54 5 = 0 → Z 36 1 = Z 36 1) ∧ (¬ Z 54 5 = 0 → Z 36 1 = Z 54 1))))) hx hG p0 k0 (fun z hz => ⟨z, rfl, hz⟩))
  subst e; exact ⟨z, hca, hp⟩
set_option maxRecDepth 100000 in
theorem cw_132_1_p {l : Launch} {D : va_G} {b0 : Nat} {ad : Nat → Nat} {Hb : Heap} {tau : Nat → Int64} {d n s : Nat} {S : Nat → xS} {Z : xZ} {h : mx_H} {Post : mx_R → Prop} (hx : XH n s S Z h) (hG : GI n S Z)  {x0 : Int} (p0 : 2 ≤ x0 ∧ x0 ≤ 2147483647) (k0 : CTB Z (Z 36 1)) (hP : ∀ z : Int, CTB Z (Z 36 1) ∧ (-2) ≤ z ∧ z ≤ (-2) ∧ (((x0 < 0 ∨ 1 < x0) → z = -2) ∧ (x0 = 0 → (Z 52 5 = 0 → z = -5) ∧ (¬ Z 52 5 = 0 → z = 0)) ∧ (x0 = 1 → (Z 54 5 = 0 → z = -5) ∧ (¬ Z 54 5 = 0 → z = 0)) ∧ ((x0 < 0 ∨ 1 < x0) → Z 36 1 = Z 36 1) ∧ (x0 = 0 → (Z 52 5 = 0 → Z 36 1 = Z 36 1) ∧ (¬ Z 52 5 = 0 → Z 36 1 = Z 52 1)) ∧ (x0 = 1 → (Z 54 5 = 0 → Z 36 1 = Z 36 1) ∧ (¬ Z 54 5 = 0 → Z 36 1 = Z 54 1))) → Post (some (xI z), h)) : mx_J (tB l D b0 ad Hb tau) mt_132 (d + 0) 0 [some (.ref 1), some (xI x0)] [] h Post := by
    refine mx_J.step (sn_132 0) (fun _ _ => rfl) ?_
    have c9 : (x0 < 0 ∨ 1 < x0) → mx_J (tB l D b0 ad Hb tau) mt_132 (d + 0) 9 [some (.ref 1), some (xI x0)] [] h Post := by
      intro f1_0
      refine JcI (z := (-2)) (show mx_Sn _ _ 9 (mx_const (.int (-2)) 11) from sn_132 9) rfl ?_
      have b2 : 1 ≤ Z 36 1 ∧ Z 36 1 ≤ 18 := hG.pr 36 1
      have b3 : 0 ≤ Z 52 5 ∧ Z 52 5 ≤ 1 := hG.pr 52 5
      have b4 : 0 ≤ Z 54 5 ∧ Z 54 5 ≤ 1 := hG.pr 54 5
      have b5 : 1 ≤ Z 52 1 ∧ Z 52 1 ≤ 18 := hG.pr 52 1
      have b6 : 1 ≤ Z 54 1 ∧ Z 54 1 ≤ 18 := hG.pr 54 1
      exact mx_J.ret (sn_132 11) (fun _ _ => rfl) (hP (-2) ⟨(k0), by omega⟩)
    refine Jif_lt (show mx_Sn _ _ 1 (mx_if_lt 9 4) from sn_132 1) (by omega) (fun q7 => ?_) (fun q7 => ?_)
    · skip
      exact c9 (by omega)
    · skip
      refine mx_J.step (sn_132 4) (fun _ _ => rfl) ?_
      refine JcI (z := 2) (show mx_Sn _ _ 5 (mx_const (.int 2) 6) from sn_132 5) rfl ?_
      refine Jicmp_lt (show mx_Sn _ _ 6 (mx_icmp_lt 12 9) from sn_132 6) (by omega) (by omega) (fun q8 => ?_) (fun q8 => ?_)
      · skip
        exfalso; omega
      · skip
        exact c9 (by omega)
theorem ct_132_1_p {l : Launch} {D : va_G} {b0 : Nat} {ad : Nat → Nat} {Hb : Heap} {tau : Nat → Int64} {d n s : Nat} {S : Nat → xS} {Z : xZ} {h : mx_H} (hx : XH n s S Z h) (hG : GI n S Z)  {x0 : Int} (p0 : 2 ≤ x0 ∧ x0 ≤ 2147483647) (k0 : CTB Z (Z 36 1)) : ∃ z : Int, mx_Ca (tB l D b0 ad Hb tau) (d + 1) 132 [.ref 1, xI x0] h (some (xI z), h) ∧ (CTB Z (Z 36 1) ∧ (-2) ≤ z ∧ z ≤ (-2) ∧ (((x0 < 0 ∨ 1 < x0) → z = -2) ∧ (x0 = 0 → (Z 52 5 = 0 → z = -5) ∧ (¬ Z 52 5 = 0 → z = 0)) ∧ (x0 = 1 → (Z 54 5 = 0 → z = -5) ∧ (¬ Z 54 5 = 0 → z = 0)) ∧ ((x0 < 0 ∨ 1 < x0) → Z 36 1 = Z 36 1) ∧ (x0 = 0 → (Z 52 5 = 0 → Z 36 1 = Z 36 1) ∧ (¬ Z 52 5 = 0 → Z 36 1 = Z 52 1)) ∧ (x0 = 1 → (Z 54 5 = 0 → Z 36 1 = Z 36 1) ∧ (¬ Z 54 5 = 0 → Z 36 1 = Z 54 1)))) := by
  obtain ⟨r, hca, z, e, hp⟩ := Jmt (B := tB l D b0 ad Hb tau) (M := mt_132) (mi := 132) (as := [.ref 1, xI x0]) (d := d + 0) (ls := [some (.ref 1), some (xI x0)]) rfl rfl rfl rfl rfl rfl (cw_132_1_p (l := l) (D := D) (b0 := b0) (ad := ad) (Hb := Hb) (tau := tau) (d := d) (Post := fun r => ∃ z : Int, r = (some (xI z), h) ∧ (CTB Z (Z 36 1) ∧ (-2) ≤ z ∧ z ≤ (-2) ∧ (((x0 < 0 ∨ 1 < x0) → z = -2) ∧ (x0 = 0 → (Z 52 5 = 0 → z = -5) ∧ (¬ Z 52 5 = 0 → z = 0)) ∧ (x0 = 1 → (Z 54 5 = 0 → z = -5) ∧ (¬ Z 54 5 = 0 → z = 0)) ∧ ((x0 < 0 ∨ 1 < x0) → Z 36 1 = Z 36 1) ∧ (x0 = 0 → (Z 52 5 = 0 → Z 36 1 = Z 36 1) ∧ (¬ Z 52 5 = 0 → Z 36 1 = Z 52 1)) ∧ (x0 = 1 → (Z 54 5 = 0 → Z 36 1 = Z 36 1) ∧ (¬ Z 54 5 = 0 → Z 36 1 = Z 54 1))))) hx hG p0 k0 (fun z hz => ⟨z, rfl, hz⟩))
  subst e; exact ⟨z, hca, hp⟩
theorem ct_132_1 {l : Launch} {D : va_G} {b0 : Nat} {ad : Nat → Nat} {Hb : Heap} {tau : Nat → Int64} {d n s : Nat} {S : Nat → xS} {Z : xZ} {h : mx_H} (hx : XH n s S Z h) (hG : GI n S Z) {x0 : Int} (p0 : (-2147483648) ≤ x0 ∧ x0 ≤ 2147483647) (k0 : CTB Z (Z 36 1)) : ∃ (z : Int) (Z' : xZ) (h' : mx_H), mx_Ca (tB l D b0 ad Hb tau) (d + 5) 132 [.ref 1, xI x0] h (some (xI z), h') ∧ XH n s S Z' h' ∧ GI n S Z' ∧ fr' [(7, 4), (7, 5), (9, (-1)), (10, (-1)), (11, (-1)), (12, 1), (12, 2), (17, (-1)), (36, 0), (36, 1), (36, 2), (36, 3), (36, 4), (40, 1)] Z Z' ∧ (CTB Z' (Z' 36 1) ∧ (-5) ≤ z ∧ z ≤ 0 ∧ (((x0 < 0 ∨ 1 < x0) → z = -2) ∧ (x0 = 0 → (Z 52 5 = 0 → z = -5) ∧ (¬ Z 52 5 = 0 → z = 0)) ∧ (x0 = 1 → (Z 54 5 = 0 → z = -5) ∧ (¬ Z 54 5 = 0 → z = 0)) ∧ ((x0 < 0 ∨ 1 < x0) → Z' 36 1 = Z 36 1) ∧ (x0 = 0 → (Z 52 5 = 0 → Z' 36 1 = Z 36 1) ∧ (¬ Z 52 5 = 0 → Z' 36 1 = Z 52 1)) ∧ (x0 = 1 → (Z 54 5 = 0 → Z' 36 1 = Z 36 1) ∧ (¬ Z 54 5 = 0 → Z' 36 1 = Z 54 1)))) := by
  have hc : x0 = 0 ∨ x0 = 1 ∨ ((-2147483648) ≤ x0 ∧ x0 ≤ (-1)) ∨ (2 ≤ x0 ∧ x0 ≤ 2147483647) := by omega
  rcases hc with hc | hc | hc | hc
  · subst hc
    obtain ⟨z, Z', h', hca, q1, q2, q3, b⟩ := ct_132_1_i0 (d := d + 0) (l := l) (D := D) (b0 := b0) (ad := ad) (Hb := Hb) (tau := tau) hx hG k0
    exact ⟨z, Z', h', hca, q1, q2, fr_tr (M1 := []) fr_rf q3 rfl rfl, ⟨b.1, Int.le_trans (by decide) b.2.1, Int.le_trans b.2.2.1 (by decide), b.2.2.2⟩⟩
  · subst hc
    obtain ⟨z, Z', h', hca, q1, q2, q3, b⟩ := ct_132_1_i1 (d := d + 0) (l := l) (D := D) (b0 := b0) (ad := ad) (Hb := Hb) (tau := tau) hx hG k0
    exact ⟨z, Z', h', hca, q1, q2, fr_tr (M1 := []) fr_rf q3 rfl rfl, ⟨b.1, Int.le_trans (by decide) b.2.1, Int.le_trans b.2.2.1 (by decide), b.2.2.2⟩⟩
  · skip
    obtain ⟨z, hca, b⟩ := ct_132_1_n (d := d + 4) (l := l) (D := D) (b0 := b0) (ad := ad) (Hb := Hb) (tau := tau) hx hG hc k0
    exact ⟨z, Z, h, hca, hx, hG, fr_rf, ⟨b.1, Int.le_trans (by decide) b.2.1, Int.le_trans b.2.2.1 (by decide), b.2.2.2⟩⟩
  · skip
    obtain ⟨z, hca, b⟩ := ct_132_1_p (d := d + 4) (l := l) (D := D) (b0 := b0) (ad := ad) (Hb := Hb) (tau := tau) hx hG hc k0
    exact ⟨z, Z, h, hca, hx, hG, fr_rf, ⟨b.1, Int.le_trans (by decide) b.2.1, Int.le_trans b.2.2.1 (by decide), b.2.2.2⟩⟩
set_option maxRecDepth 100000 in
theorem cw_109_1_i0 {l : Launch} {D : va_G} {b0 : Nat} {ad : Nat → Nat} {Hb : Heap} {tau : Nat → Int64} {d n s : Nat} {S : Nat → xS} {Z : xZ} {h : mx_H} {Post : mx_R → Prop} (hx : XH n s S Z h) (hG : GI n S Z)  {x1 : Int} (p1 : (-2147483648) ≤ x1 ∧ x1 ≤ 2147483647) (hP : ∀ (z : Int) (Z' : xZ) (h' : mx_H), XH n s S Z' h' → GI n S Z' → fr' [(14, (-1)), (16, (-1)), (17, (-1)), (18, (-1)), (19, (-1)), (25, 8), (26, (-1)), (27, (-1)), (28, (-1)), (29, (-1)), (42, (-1))] Z Z' → (-6) ≤ z ∧ z ≤ 18 → Post (some (xI z), h')) : mx_J (tB l D b0 ad Hb tau) mt_109 (d + 6) 0 [some (.ref 1), some (xI 0), some (xI x1), none, none] [] h Post := by
    have a1 : 1 < n := lt83 (GI_n hG) rfl
    have s1 : S 1 = .inl (11, [2, 0, 0, 0, 2, 2, 2, 2, 2, 2, 2, 2, 2, 2, 2, 2, 2]) := GI_s hG 1 rfl
    have a25 : 25 < n := lt83 (GI_n hG) rfl
    have s25 : S 25 = .inl (8, [2, 2, 2, 2, 2, 2, 2, 2, 0]) := GI_s hG 25 rfl
    have a36 : 36 < n := lt83 (GI_n hG) rfl
    have s36 : S 36 = .inl (5, [2, 0, 0, 0, 0, 0]) := GI_s hG 36 rfl
    refine mx_J.step (sn_109 0) (fun _ _ => rfl) ?_
    refine mx_J.step (sn_109 1) (fun _ _ => rfl) ?_
    obtain ⟨z1, Z1, h1, hc1, hx1, hG1, hf1, b1⟩ := ct_145_1_i0 (d := d + 3) (l := l) (D := D) (b0 := b0) (ad := ad) (Hb := Hb) (tau := tau) hx hG 
    obtain ⟨bs1_0, b1⟩ := b1
    obtain ⟨bs1_1, b1⟩ := b1
    obtain ⟨bs1_2, b1⟩ := b1
    obtain ⟨bs1_3, b1⟩ := b1
    obtain ⟨bs1_4, b1⟩ := b1
    refine Jcv hx (show mx_Sn _ _ 2 (mx_callv 145 2 11 5) from sn_109 2) a1 s1 hc1 rfl rfl rfl ?_
    refine mx_J.step (ls2 := [some (.ref 1), some (xI 0), some (xI x1), some (xI z1), none]) (sn_109 5) (fun _ _ => rfl) ?_
    refine mx_J.step (sn_109 6) (fun _ _ => rfl) ?_
    refine Jif_ge (show mx_Sn _ _ 7 (mx_if_ge 12 10) from sn_109 7) (by omega) (fun q2 => ?_) (fun q2 => ?_)
    · skip
      refine mx_J.step (sn_109 12) (fun _ _ => rfl) ?_
      refine Jif_ge (show mx_Sn _ _ 13 (mx_if_ge 19 16) from sn_109 13) (by omega) (fun q3 => ?_) (fun q3 => ?_)
      · skip
        refine mx_J.step (sn_109 19) (fun _ _ => rfl) ?_
        refine JgetR (g := 8) (b := 25) hx1 (show mx_Sn _ _ 20 (mx_getf 11 8 23) from sn_109 20) a1 s1 rfl rfl (hG1.prr 1 8 rfl) ?_
        refine mx_J.step (sn_109 23) (fun _ _ => rfl) ?_
        refine JgetR (g := 12) (b := 36) hx1 (show mx_Sn _ _ 24 (mx_getf 11 12 27) from sn_109 24) a1 s1 rfl rfl (hG1.prr 1 12 rfl) ?_
        have b7 : 0 ≤ Z 36 2 ∧ Z 36 2 ≤ 384 := hG.pr 36 2
        refine JgetI (g := 2) (z := Z 36 2) hx1 (show mx_Sn _ _ 27 (mx_getf 5 2 30) from sn_109 27) a36 s36 rfl rfl (hf1 36 2 rfl) ?_
        refine mx_J.step (sn_109 30) (fun _ _ => rfl) ?_
        obtain ⟨z8, Z8, h8, hc8, hx8, hG8, hf8, b8⟩ := ct_61_25 (d := d + 0) (l := l) (D := D) (b0 := b0) (ad := ad) (Hb := Hb) (tau := tau) hx1 hG1 (show 0 ≤ Z 36 2 ∧ Z 36 2 ≤ 384 by omega) (show (-1) ≤ z1 ∧ z1 ≤ 384 by omega)
        refine Jcv hx1 (show mx_Sn _ _ 31 (mx_callv 61 3 8 34) from sn_109 31) a25 s25 hc8 rfl rfl rfl ?_
        refine mx_J.step (ls2 := [some (.ref 1), some (xI 0), some (xI x1), some (xI z1), some (xI z8)]) (sn_109 34) (fun _ _ => rfl) ?_
        refine mx_J.step (sn_109 36) (fun _ _ => rfl) ?_
        refine mx_J.step (sn_109 37) (fun _ _ => rfl) ?_
        have c60 : ∀ (k9_0 : Int), (-1) ≤ k9_0 ∧ k9_0 ≤ 18 → mx_J (tB l D b0 ad Hb tau) mt_109 (d + 6) 60 [some (.ref 1), some (xI 0), some (xI x1), some (xI z1), some (xI z8)] [xI k9_0] h8 Post := by
          intro k9_0 f9_0
          exact mx_J.ret (sn_109 60) (fun _ _ => rfl) (hP k9_0 Z8 h8 hx8 hG8 (fr_tr (M := [(14, (-1)), (16, (-1)), (17, (-1)), (18, (-1)), (19, (-1)), (25, 8), (26, (-1)), (27, (-1)), (28, (-1)), (29, (-1)), (42, (-1))]) (fr_tr (M := [(14, (-1)), (16, (-1)), (17, (-1)), (18, (-1)), (19, (-1)), (25, 8), (26, (-1)), (27, (-1)), (28, (-1)), (29, (-1)), (42, (-1))]) fr_rf (hf1) (M1 := []) rfl rfl) (hf8) rfl rfl) (by omega))
        refine Jicmp_ge (show mx_Sn _ _ 39 (mx_icmp_ge 59 42) from sn_109 39) (by omega) (by omega) (fun q10 => ?_) (fun q10 => ?_)
        · skip
          refine JcI (z := (-1)) (show mx_Sn _ _ 59 (mx_const (.int (-1)) 60) from sn_109 59) rfl ?_
          exact c60 (-1) (by omega)
        · skip
          refine mx_J.step (sn_109 42) (fun _ _ => rfl) ?_
          refine JgetR (g := 8) (b := 25) hx8 (show mx_Sn _ _ 43 (mx_getf 11 8 46) from sn_109 43) a1 s1 rfl rfl (hG8.prr 1 8 rfl) ?_
          refine mx_J.step (sn_109 46) (fun _ _ => rfl) ?_
          refine mx_J.step (sn_109 47) (fun _ _ => rfl) ?_
          refine JcI (z := 1) (show mx_Sn _ _ 49 (mx_const (.int 1) 50) from sn_109 49) rfl ?_
          refine Jisub (show mx_Sn _ _ 50 (mx_isub 51) from sn_109 50) ?_
          refine mx_J.step (sn_109 51) (fun _ _ => rfl) ?_
          refine Jisub (show mx_Sn _ _ 52 (mx_isub 53) from sn_109 52) ?_
          obtain ⟨z12, hc12, b12⟩ := ct_63_25 (d := d + 5) (l := l) (D := D) (b0 := b0) (ad := ad) (Hb := Hb) (tau := tau) hx8 hG8 (show 0 ≤ z1 ∧ z1 ≤ 384 by omega) (show (-2147483648) ≤ (z8 - 1) - x1 ∧ (z8 - 1) - x1 ≤ 2147483647 by omega)
          refine Jcv hx8 (show mx_Sn _ _ 53 (mx_callv 63 3 8 56) from sn_109 53) a25 s25 hc12 rfl rfl rfl ?_
          refine mx_J.step (sn_109 56) (fun _ _ => rfl) ?_
          exact c60 z12 (by omega)
      · skip
        refine JcI (z := (-3)) (show mx_Sn _ _ 16 (mx_const (.int (-3)) 18) from sn_109 16) rfl ?_
        exact mx_J.ret (sn_109 18) (fun _ _ => rfl) (hP (-3) Z1 h1 hx1 hG1 (fr_tr (M := [(14, (-1)), (16, (-1)), (17, (-1)), (18, (-1)), (19, (-1)), (25, 8), (26, (-1)), (27, (-1)), (28, (-1)), (29, (-1)), (42, (-1))]) fr_rf (hf1) (M1 := []) rfl rfl) (by omega))
    · skip
      refine mx_J.step (sn_109 10) (fun _ _ => rfl) ?_
      exact mx_J.ret (sn_109 11) (fun _ _ => rfl) (hP z1 Z1 h1 hx1 hG1 (fr_tr (M := [(14, (-1)), (16, (-1)), (17, (-1)), (18, (-1)), (19, (-1)), (25, 8), (26, (-1)), (27, (-1)), (28, (-1)), (29, (-1)), (42, (-1))]) fr_rf (hf1) (M1 := []) rfl rfl) (by omega))
theorem ct_109_1_i0 {l : Launch} {D : va_G} {b0 : Nat} {ad : Nat → Nat} {Hb : Heap} {tau : Nat → Int64} {d n s : Nat} {S : Nat → xS} {Z : xZ} {h : mx_H} (hx : XH n s S Z h) (hG : GI n S Z)  {x1 : Int} (p1 : (-2147483648) ≤ x1 ∧ x1 ≤ 2147483647) : ∃ (z : Int) (Z' : xZ) (h' : mx_H), mx_Ca (tB l D b0 ad Hb tau) (d + 7) 109 [.ref 1, xI 0, xI x1] h (some (xI z), h') ∧ XH n s S Z' h' ∧ GI n S Z' ∧ fr' [(14, (-1)), (16, (-1)), (17, (-1)), (18, (-1)), (19, (-1)), (25, 8), (26, (-1)), (27, (-1)), (28, (-1)), (29, (-1)), (42, (-1))] Z Z' ∧ ((-6) ≤ z ∧ z ≤ 18) := by
  obtain ⟨r, hca, z, Z', h', e, q⟩ := Jmt (B := tB l D b0 ad Hb tau) (M := mt_109) (mi := 109) (as := [.ref 1, xI 0, xI x1]) (d := d + 6) (ls := [some (.ref 1), some (xI 0), some (xI x1), none, none]) rfl rfl rfl rfl rfl rfl (cw_109_1_i0 (l := l) (D := D) (b0 := b0) (ad := ad) (Hb := Hb) (tau := tau) (d := d) (Post := fun r => ∃ (z : Int) (Z' : xZ) (h' : mx_H), r = (some (xI z), h') ∧ XH n s S Z' h' ∧ GI n S Z' ∧ fr' [(14, (-1)), (16, (-1)), (17, (-1)), (18, (-1)), (19, (-1)), (25, 8), (26, (-1)), (27, (-1)), (28, (-1)), (29, (-1)), (42, (-1))] Z Z' ∧ ((-6) ≤ z ∧ z ≤ 18)) hx hG p1 (fun z Z' h' q1 q2 q3 q4 => ⟨z, Z', h', rfl, q1, q2, q3, q4⟩))
  subst e; exact ⟨z, Z', h', hca, q⟩
set_option maxRecDepth 100000 in
theorem cw_109_1_i1 {l : Launch} {D : va_G} {b0 : Nat} {ad : Nat → Nat} {Hb : Heap} {tau : Nat → Int64} {d n s : Nat} {S : Nat → xS} {Z : xZ} {h : mx_H} {Post : mx_R → Prop} (hx : XH n s S Z h) (hG : GI n S Z)  {x1 : Int} (p1 : (-2147483648) ≤ x1 ∧ x1 ≤ 2147483647) (hP : ∀ (z : Int) (Z' : xZ) (h' : mx_H), XH n s S Z' h' → GI n S Z' → fr' [(14, (-1)), (16, (-1)), (17, (-1)), (18, (-1)), (19, (-1)), (25, 8), (26, (-1)), (27, (-1)), (28, (-1)), (29, (-1)), (42, (-1))] Z Z' → (-6) ≤ z ∧ z ≤ 18 → Post (some (xI z), h')) : mx_J (tB l D b0 ad Hb tau) mt_109 (d + 6) 0 [some (.ref 1), some (xI 1), some (xI x1), none, none] [] h Post := by
    have a1 : 1 < n := lt83 (GI_n hG) rfl
    have s1 : S 1 = .inl (11, [2, 0, 0, 0, 2, 2, 2, 2, 2, 2, 2, 2, 2, 2, 2, 2, 2]) := GI_s hG 1 rfl
    have a25 : 25 < n := lt83 (GI_n hG) rfl
    have s25 : S 25 = .inl (8, [2, 2, 2, 2, 2, 2, 2, 2, 0]) := GI_s hG 25 rfl
    have a36 : 36 < n := lt83 (GI_n hG) rfl
    have s36 : S 36 = .inl (5, [2, 0, 0, 0, 0, 0]) := GI_s hG 36 rfl
    refine mx_J.step (sn_109 0) (fun _ _ => rfl) ?_
    refine mx_J.step (sn_109 1) (fun _ _ => rfl) ?_
    obtain ⟨z1, Z1, h1, hc1, hx1, hG1, hf1, b1⟩ := ct_145_1_i1 (d := d + 3) (l := l) (D := D) (b0 := b0) (ad := ad) (Hb := Hb) (tau := tau) hx hG 
    obtain ⟨bs1_0, b1⟩ := b1
    obtain ⟨bs1_1, b1⟩ := b1
    obtain ⟨bs1_2, b1⟩ := b1
    obtain ⟨bs1_3, b1⟩ := b1
    obtain ⟨bs1_4, b1⟩ := b1
    refine Jcv hx (show mx_Sn _ _ 2 (mx_callv 145 2 11 5) from sn_109 2) a1 s1 hc1 rfl rfl rfl ?_
    refine mx_J.step (ls2 := [some (.ref 1), some (xI 1), some (xI x1), some (xI z1), none]) (sn_109 5) (fun _ _ => rfl) ?_
    refine mx_J.step (sn_109 6) (fun _ _ => rfl) ?_
    refine Jif_ge (show mx_Sn _ _ 7 (mx_if_ge 12 10) from sn_109 7) (by omega) (fun q2 => ?_) (fun q2 => ?_)
    · skip
      refine mx_J.step (sn_109 12) (fun _ _ => rfl) ?_
      refine Jif_ge (show mx_Sn _ _ 13 (mx_if_ge 19 16) from sn_109 13) (by omega) (fun q3 => ?_) (fun q3 => ?_)
      · skip
        refine mx_J.step (sn_109 19) (fun _ _ => rfl) ?_
        refine JgetR (g := 8) (b := 25) hx1 (show mx_Sn _ _ 20 (mx_getf 11 8 23) from sn_109 20) a1 s1 rfl rfl (hG1.prr 1 8 rfl) ?_
        refine mx_J.step (sn_109 23) (fun _ _ => rfl) ?_
        refine JgetR (g := 12) (b := 36) hx1 (show mx_Sn _ _ 24 (mx_getf 11 12 27) from sn_109 24) a1 s1 rfl rfl (hG1.prr 1 12 rfl) ?_
        have b7 : 0 ≤ Z 36 2 ∧ Z 36 2 ≤ 384 := hG.pr 36 2
        refine JgetI (g := 2) (z := Z 36 2) hx1 (show mx_Sn _ _ 27 (mx_getf 5 2 30) from sn_109 27) a36 s36 rfl rfl (hf1 36 2 rfl) ?_
        refine mx_J.step (sn_109 30) (fun _ _ => rfl) ?_
        obtain ⟨z8, Z8, h8, hc8, hx8, hG8, hf8, b8⟩ := ct_61_25 (d := d + 0) (l := l) (D := D) (b0 := b0) (ad := ad) (Hb := Hb) (tau := tau) hx1 hG1 (show 0 ≤ Z 36 2 ∧ Z 36 2 ≤ 384 by omega) (show (-1) ≤ z1 ∧ z1 ≤ 384 by omega)
        refine Jcv hx1 (show mx_Sn _ _ 31 (mx_callv 61 3 8 34) from sn_109 31) a25 s25 hc8 rfl rfl rfl ?_
        refine mx_J.step (ls2 := [some (.ref 1), some (xI 1), some (xI x1), some (xI z1), some (xI z8)]) (sn_109 34) (fun _ _ => rfl) ?_
        refine mx_J.step (sn_109 36) (fun _ _ => rfl) ?_
        refine mx_J.step (sn_109 37) (fun _ _ => rfl) ?_
        have c60 : ∀ (k9_0 : Int), (-1) ≤ k9_0 ∧ k9_0 ≤ 18 → mx_J (tB l D b0 ad Hb tau) mt_109 (d + 6) 60 [some (.ref 1), some (xI 1), some (xI x1), some (xI z1), some (xI z8)] [xI k9_0] h8 Post := by
          intro k9_0 f9_0
          exact mx_J.ret (sn_109 60) (fun _ _ => rfl) (hP k9_0 Z8 h8 hx8 hG8 (fr_tr (M := [(14, (-1)), (16, (-1)), (17, (-1)), (18, (-1)), (19, (-1)), (25, 8), (26, (-1)), (27, (-1)), (28, (-1)), (29, (-1)), (42, (-1))]) (fr_tr (M := [(14, (-1)), (16, (-1)), (17, (-1)), (18, (-1)), (19, (-1)), (25, 8), (26, (-1)), (27, (-1)), (28, (-1)), (29, (-1)), (42, (-1))]) fr_rf (hf1) (M1 := []) rfl rfl) (hf8) rfl rfl) (by omega))
        refine Jicmp_ge (show mx_Sn _ _ 39 (mx_icmp_ge 59 42) from sn_109 39) (by omega) (by omega) (fun q10 => ?_) (fun q10 => ?_)
        · skip
          refine JcI (z := (-1)) (show mx_Sn _ _ 59 (mx_const (.int (-1)) 60) from sn_109 59) rfl ?_
          exact c60 (-1) (by omega)
        · skip
          refine mx_J.step (sn_109 42) (fun _ _ => rfl) ?_
          refine JgetR (g := 8) (b := 25) hx8 (show mx_Sn _ _ 43 (mx_getf 11 8 46) from sn_109 43) a1 s1 rfl rfl (hG8.prr 1 8 rfl) ?_
          refine mx_J.step (sn_109 46) (fun _ _ => rfl) ?_
          refine mx_J.step (sn_109 47) (fun _ _ => rfl) ?_
          refine JcI (z := 1) (show mx_Sn _ _ 49 (mx_const (.int 1) 50) from sn_109 49) rfl ?_
          refine Jisub (show mx_Sn _ _ 50 (mx_isub 51) from sn_109 50) ?_
          refine mx_J.step (sn_109 51) (fun _ _ => rfl) ?_
          refine Jisub (show mx_Sn _ _ 52 (mx_isub 53) from sn_109 52) ?_
          obtain ⟨z12, hc12, b12⟩ := ct_63_25 (d := d + 5) (l := l) (D := D) (b0 := b0) (ad := ad) (Hb := Hb) (tau := tau) hx8 hG8 (show 0 ≤ z1 ∧ z1 ≤ 384 by omega) (show (-2147483648) ≤ (z8 - 1) - x1 ∧ (z8 - 1) - x1 ≤ 2147483647 by omega)
          refine Jcv hx8 (show mx_Sn _ _ 53 (mx_callv 63 3 8 56) from sn_109 53) a25 s25 hc12 rfl rfl rfl ?_
          refine mx_J.step (sn_109 56) (fun _ _ => rfl) ?_
          exact c60 z12 (by omega)
      · skip
        refine JcI (z := (-3)) (show mx_Sn _ _ 16 (mx_const (.int (-3)) 18) from sn_109 16) rfl ?_
        exact mx_J.ret (sn_109 18) (fun _ _ => rfl) (hP (-3) Z1 h1 hx1 hG1 (fr_tr (M := [(14, (-1)), (16, (-1)), (17, (-1)), (18, (-1)), (19, (-1)), (25, 8), (26, (-1)), (27, (-1)), (28, (-1)), (29, (-1)), (42, (-1))]) fr_rf (hf1) (M1 := []) rfl rfl) (by omega))
    · skip
      refine mx_J.step (sn_109 10) (fun _ _ => rfl) ?_
      exact mx_J.ret (sn_109 11) (fun _ _ => rfl) (hP z1 Z1 h1 hx1 hG1 (fr_tr (M := [(14, (-1)), (16, (-1)), (17, (-1)), (18, (-1)), (19, (-1)), (25, 8), (26, (-1)), (27, (-1)), (28, (-1)), (29, (-1)), (42, (-1))]) fr_rf (hf1) (M1 := []) rfl rfl) (by omega))
theorem ct_109_1_i1 {l : Launch} {D : va_G} {b0 : Nat} {ad : Nat → Nat} {Hb : Heap} {tau : Nat → Int64} {d n s : Nat} {S : Nat → xS} {Z : xZ} {h : mx_H} (hx : XH n s S Z h) (hG : GI n S Z)  {x1 : Int} (p1 : (-2147483648) ≤ x1 ∧ x1 ≤ 2147483647) : ∃ (z : Int) (Z' : xZ) (h' : mx_H), mx_Ca (tB l D b0 ad Hb tau) (d + 7) 109 [.ref 1, xI 1, xI x1] h (some (xI z), h') ∧ XH n s S Z' h' ∧ GI n S Z' ∧ fr' [(14, (-1)), (16, (-1)), (17, (-1)), (18, (-1)), (19, (-1)), (25, 8), (26, (-1)), (27, (-1)), (28, (-1)), (29, (-1)), (42, (-1))] Z Z' ∧ ((-6) ≤ z ∧ z ≤ 18) := by
  obtain ⟨r, hca, z, Z', h', e, q⟩ := Jmt (B := tB l D b0 ad Hb tau) (M := mt_109) (mi := 109) (as := [.ref 1, xI 1, xI x1]) (d := d + 6) (ls := [some (.ref 1), some (xI 1), some (xI x1), none, none]) rfl rfl rfl rfl rfl rfl (cw_109_1_i1 (l := l) (D := D) (b0 := b0) (ad := ad) (Hb := Hb) (tau := tau) (d := d) (Post := fun r => ∃ (z : Int) (Z' : xZ) (h' : mx_H), r = (some (xI z), h') ∧ XH n s S Z' h' ∧ GI n S Z' ∧ fr' [(14, (-1)), (16, (-1)), (17, (-1)), (18, (-1)), (19, (-1)), (25, 8), (26, (-1)), (27, (-1)), (28, (-1)), (29, (-1)), (42, (-1))] Z Z' ∧ ((-6) ≤ z ∧ z ≤ 18)) hx hG p1 (fun z Z' h' q1 q2 q3 q4 => ⟨z, Z', h', rfl, q1, q2, q3, q4⟩))
  subst e; exact ⟨z, Z', h', hca, q⟩
set_option maxRecDepth 100000 in
theorem cw_109_1_i2 {l : Launch} {D : va_G} {b0 : Nat} {ad : Nat → Nat} {Hb : Heap} {tau : Nat → Int64} {d n s : Nat} {S : Nat → xS} {Z : xZ} {h : mx_H} {Post : mx_R → Prop} (hx : XH n s S Z h) (hG : GI n S Z)  {x1 : Int} (p1 : (-2147483648) ≤ x1 ∧ x1 ≤ 2147483647) (hP : ∀ (z : Int) (Z' : xZ) (h' : mx_H), XH n s S Z' h' → GI n S Z' → fr' [(14, (-1)), (16, (-1)), (17, (-1)), (18, (-1)), (19, (-1)), (25, 8), (26, (-1)), (27, (-1)), (28, (-1)), (29, (-1)), (42, (-1))] Z Z' → (-6) ≤ z ∧ z ≤ 18 → Post (some (xI z), h')) : mx_J (tB l D b0 ad Hb tau) mt_109 (d + 6) 0 [some (.ref 1), some (xI 2), some (xI x1), none, none] [] h Post := by
    have a1 : 1 < n := lt83 (GI_n hG) rfl
    have s1 : S 1 = .inl (11, [2, 0, 0, 0, 2, 2, 2, 2, 2, 2, 2, 2, 2, 2, 2, 2, 2]) := GI_s hG 1 rfl
    have a25 : 25 < n := lt83 (GI_n hG) rfl
    have s25 : S 25 = .inl (8, [2, 2, 2, 2, 2, 2, 2, 2, 0]) := GI_s hG 25 rfl
    have a36 : 36 < n := lt83 (GI_n hG) rfl
    have s36 : S 36 = .inl (5, [2, 0, 0, 0, 0, 0]) := GI_s hG 36 rfl
    refine mx_J.step (sn_109 0) (fun _ _ => rfl) ?_
    refine mx_J.step (sn_109 1) (fun _ _ => rfl) ?_
    obtain ⟨z1, Z1, h1, hc1, hx1, hG1, hf1, b1⟩ := ct_145_1_i2 (d := d + 3) (l := l) (D := D) (b0 := b0) (ad := ad) (Hb := Hb) (tau := tau) hx hG 
    obtain ⟨bs1_0, b1⟩ := b1
    obtain ⟨bs1_1, b1⟩ := b1
    obtain ⟨bs1_2, b1⟩ := b1
    obtain ⟨bs1_3, b1⟩ := b1
    obtain ⟨bs1_4, b1⟩ := b1
    refine Jcv hx (show mx_Sn _ _ 2 (mx_callv 145 2 11 5) from sn_109 2) a1 s1 hc1 rfl rfl rfl ?_
    refine mx_J.step (ls2 := [some (.ref 1), some (xI 2), some (xI x1), some (xI z1), none]) (sn_109 5) (fun _ _ => rfl) ?_
    refine mx_J.step (sn_109 6) (fun _ _ => rfl) ?_
    refine Jif_ge (show mx_Sn _ _ 7 (mx_if_ge 12 10) from sn_109 7) (by omega) (fun q2 => ?_) (fun q2 => ?_)
    · skip
      refine mx_J.step (sn_109 12) (fun _ _ => rfl) ?_
      refine Jif_ge (show mx_Sn _ _ 13 (mx_if_ge 19 16) from sn_109 13) (by omega) (fun q3 => ?_) (fun q3 => ?_)
      · skip
        refine mx_J.step (sn_109 19) (fun _ _ => rfl) ?_
        refine JgetR (g := 8) (b := 25) hx1 (show mx_Sn _ _ 20 (mx_getf 11 8 23) from sn_109 20) a1 s1 rfl rfl (hG1.prr 1 8 rfl) ?_
        refine mx_J.step (sn_109 23) (fun _ _ => rfl) ?_
        refine JgetR (g := 12) (b := 36) hx1 (show mx_Sn _ _ 24 (mx_getf 11 12 27) from sn_109 24) a1 s1 rfl rfl (hG1.prr 1 12 rfl) ?_
        have b7 : 0 ≤ Z 36 2 ∧ Z 36 2 ≤ 384 := hG.pr 36 2
        refine JgetI (g := 2) (z := Z 36 2) hx1 (show mx_Sn _ _ 27 (mx_getf 5 2 30) from sn_109 27) a36 s36 rfl rfl (hf1 36 2 rfl) ?_
        refine mx_J.step (sn_109 30) (fun _ _ => rfl) ?_
        obtain ⟨z8, Z8, h8, hc8, hx8, hG8, hf8, b8⟩ := ct_61_25 (d := d + 0) (l := l) (D := D) (b0 := b0) (ad := ad) (Hb := Hb) (tau := tau) hx1 hG1 (show 0 ≤ Z 36 2 ∧ Z 36 2 ≤ 384 by omega) (show (-1) ≤ z1 ∧ z1 ≤ 384 by omega)
        refine Jcv hx1 (show mx_Sn _ _ 31 (mx_callv 61 3 8 34) from sn_109 31) a25 s25 hc8 rfl rfl rfl ?_
        refine mx_J.step (ls2 := [some (.ref 1), some (xI 2), some (xI x1), some (xI z1), some (xI z8)]) (sn_109 34) (fun _ _ => rfl) ?_
        refine mx_J.step (sn_109 36) (fun _ _ => rfl) ?_
        refine mx_J.step (sn_109 37) (fun _ _ => rfl) ?_
        have c60 : ∀ (k9_0 : Int), (-1) ≤ k9_0 ∧ k9_0 ≤ 18 → mx_J (tB l D b0 ad Hb tau) mt_109 (d + 6) 60 [some (.ref 1), some (xI 2), some (xI x1), some (xI z1), some (xI z8)] [xI k9_0] h8 Post := by
          intro k9_0 f9_0
          exact mx_J.ret (sn_109 60) (fun _ _ => rfl) (hP k9_0 Z8 h8 hx8 hG8 (fr_tr (M := [(14, (-1)), (16, (-1)), (17, (-1)), (18, (-1)), (19, (-1)), (25, 8), (26, (-1)), (27, (-1)), (28, (-1)), (29, (-1)), (42, (-1))]) (fr_tr (M := [(14, (-1)), (16, (-1)), (17, (-1)), (18, (-1)), (19, (-1)), (25, 8), (26, (-1)), (27, (-1)), (28, (-1)), (29, (-1)), (42, (-1))]) fr_rf (hf1) (M1 := []) rfl rfl) (hf8) rfl rfl) (by omega))
        refine Jicmp_ge (show mx_Sn _ _ 39 (mx_icmp_ge 59 42) from sn_109 39) (by omega) (by omega) (fun q10 => ?_) (fun q10 => ?_)
        · skip
          refine JcI (z := (-1)) (show mx_Sn _ _ 59 (mx_const (.int (-1)) 60) from sn_109 59) rfl ?_
          exact c60 (-1) (by omega)
        · skip
          refine mx_J.step (sn_109 42) (fun _ _ => rfl) ?_
          refine JgetR (g := 8) (b := 25) hx8 (show mx_Sn _ _ 43 (mx_getf 11 8 46) from sn_109 43) a1 s1 rfl rfl (hG8.prr 1 8 rfl) ?_
          refine mx_J.step (sn_109 46) (fun _ _ => rfl) ?_
          refine mx_J.step (sn_109 47) (fun _ _ => rfl) ?_
          refine JcI (z := 1) (show mx_Sn _ _ 49 (mx_const (.int 1) 50) from sn_109 49) rfl ?_
          refine Jisub (show mx_Sn _ _ 50 (mx_isub 51) from sn_109 50) ?_
          refine mx_J.step (sn_109 51) (fun _ _ => rfl) ?_
          refine Jisub (show mx_Sn _ _ 52 (mx_isub 53) from sn_109 52) ?_
          obtain ⟨z12, hc12, b12⟩ := ct_63_25 (d := d + 5) (l := l) (D := D) (b0 := b0) (ad := ad) (Hb := Hb) (tau := tau) hx8 hG8 (show 0 ≤ z1 ∧ z1 ≤ 384 by omega) (show (-2147483648) ≤ (z8 - 1) - x1 ∧ (z8 - 1) - x1 ≤ 2147483647 by omega)
          refine Jcv hx8 (show mx_Sn _ _ 53 (mx_callv 63 3 8 56) from sn_109 53) a25 s25 hc12 rfl rfl rfl ?_
          refine mx_J.step (sn_109 56) (fun _ _ => rfl) ?_
          exact c60 z12 (by omega)
      · skip
        refine JcI (z := (-3)) (show mx_Sn _ _ 16 (mx_const (.int (-3)) 18) from sn_109 16) rfl ?_
        exact mx_J.ret (sn_109 18) (fun _ _ => rfl) (hP (-3) Z1 h1 hx1 hG1 (fr_tr (M := [(14, (-1)), (16, (-1)), (17, (-1)), (18, (-1)), (19, (-1)), (25, 8), (26, (-1)), (27, (-1)), (28, (-1)), (29, (-1)), (42, (-1))]) fr_rf (hf1) (M1 := []) rfl rfl) (by omega))
    · skip
      refine mx_J.step (sn_109 10) (fun _ _ => rfl) ?_
      exact mx_J.ret (sn_109 11) (fun _ _ => rfl) (hP z1 Z1 h1 hx1 hG1 (fr_tr (M := [(14, (-1)), (16, (-1)), (17, (-1)), (18, (-1)), (19, (-1)), (25, 8), (26, (-1)), (27, (-1)), (28, (-1)), (29, (-1)), (42, (-1))]) fr_rf (hf1) (M1 := []) rfl rfl) (by omega))
theorem ct_109_1_i2 {l : Launch} {D : va_G} {b0 : Nat} {ad : Nat → Nat} {Hb : Heap} {tau : Nat → Int64} {d n s : Nat} {S : Nat → xS} {Z : xZ} {h : mx_H} (hx : XH n s S Z h) (hG : GI n S Z)  {x1 : Int} (p1 : (-2147483648) ≤ x1 ∧ x1 ≤ 2147483647) : ∃ (z : Int) (Z' : xZ) (h' : mx_H), mx_Ca (tB l D b0 ad Hb tau) (d + 7) 109 [.ref 1, xI 2, xI x1] h (some (xI z), h') ∧ XH n s S Z' h' ∧ GI n S Z' ∧ fr' [(14, (-1)), (16, (-1)), (17, (-1)), (18, (-1)), (19, (-1)), (25, 8), (26, (-1)), (27, (-1)), (28, (-1)), (29, (-1)), (42, (-1))] Z Z' ∧ ((-6) ≤ z ∧ z ≤ 18) := by
  obtain ⟨r, hca, z, Z', h', e, q⟩ := Jmt (B := tB l D b0 ad Hb tau) (M := mt_109) (mi := 109) (as := [.ref 1, xI 2, xI x1]) (d := d + 6) (ls := [some (.ref 1), some (xI 2), some (xI x1), none, none]) rfl rfl rfl rfl rfl rfl (cw_109_1_i2 (l := l) (D := D) (b0 := b0) (ad := ad) (Hb := Hb) (tau := tau) (d := d) (Post := fun r => ∃ (z : Int) (Z' : xZ) (h' : mx_H), r = (some (xI z), h') ∧ XH n s S Z' h' ∧ GI n S Z' ∧ fr' [(14, (-1)), (16, (-1)), (17, (-1)), (18, (-1)), (19, (-1)), (25, 8), (26, (-1)), (27, (-1)), (28, (-1)), (29, (-1)), (42, (-1))] Z Z' ∧ ((-6) ≤ z ∧ z ≤ 18)) hx hG p1 (fun z Z' h' q1 q2 q3 q4 => ⟨z, Z', h', rfl, q1, q2, q3, q4⟩))
  subst e; exact ⟨z, Z', h', hca, q⟩
set_option maxRecDepth 100000 in
theorem cw_109_1_i3 {l : Launch} {D : va_G} {b0 : Nat} {ad : Nat → Nat} {Hb : Heap} {tau : Nat → Int64} {d n s : Nat} {S : Nat → xS} {Z : xZ} {h : mx_H} {Post : mx_R → Prop} (hx : XH n s S Z h) (hG : GI n S Z)  {x1 : Int} (p1 : (-2147483648) ≤ x1 ∧ x1 ≤ 2147483647) (hP : ∀ (z : Int) (Z' : xZ) (h' : mx_H), XH n s S Z' h' → GI n S Z' → fr' [(14, (-1)), (16, (-1)), (17, (-1)), (18, (-1)), (19, (-1)), (25, 8), (26, (-1)), (27, (-1)), (28, (-1)), (29, (-1)), (42, (-1))] Z Z' → (-6) ≤ z ∧ z ≤ 18 → Post (some (xI z), h')) : mx_J (tB l D b0 ad Hb tau) mt_109 (d + 6) 0 [some (.ref 1), some (xI 3), some (xI x1), none, none] [] h Post := by
    have a1 : 1 < n := lt83 (GI_n hG) rfl
    have s1 : S 1 = .inl (11, [2, 0, 0, 0, 2, 2, 2, 2, 2, 2, 2, 2, 2, 2, 2, 2, 2]) := GI_s hG 1 rfl
    have a25 : 25 < n := lt83 (GI_n hG) rfl
    have s25 : S 25 = .inl (8, [2, 2, 2, 2, 2, 2, 2, 2, 0]) := GI_s hG 25 rfl
    have a36 : 36 < n := lt83 (GI_n hG) rfl
    have s36 : S 36 = .inl (5, [2, 0, 0, 0, 0, 0]) := GI_s hG 36 rfl
    refine mx_J.step (sn_109 0) (fun _ _ => rfl) ?_
    refine mx_J.step (sn_109 1) (fun _ _ => rfl) ?_
    obtain ⟨z1, Z1, h1, hc1, hx1, hG1, hf1, b1⟩ := ct_145_1_i3 (d := d + 3) (l := l) (D := D) (b0 := b0) (ad := ad) (Hb := Hb) (tau := tau) hx hG 
    obtain ⟨bs1_0, b1⟩ := b1
    obtain ⟨bs1_1, b1⟩ := b1
    obtain ⟨bs1_2, b1⟩ := b1
    obtain ⟨bs1_3, b1⟩ := b1
    obtain ⟨bs1_4, b1⟩ := b1
    refine Jcv hx (show mx_Sn _ _ 2 (mx_callv 145 2 11 5) from sn_109 2) a1 s1 hc1 rfl rfl rfl ?_
    refine mx_J.step (ls2 := [some (.ref 1), some (xI 3), some (xI x1), some (xI z1), none]) (sn_109 5) (fun _ _ => rfl) ?_
    refine mx_J.step (sn_109 6) (fun _ _ => rfl) ?_
    refine Jif_ge (show mx_Sn _ _ 7 (mx_if_ge 12 10) from sn_109 7) (by omega) (fun q2 => ?_) (fun q2 => ?_)
    · skip
      refine mx_J.step (sn_109 12) (fun _ _ => rfl) ?_
      refine Jif_ge (show mx_Sn _ _ 13 (mx_if_ge 19 16) from sn_109 13) (by omega) (fun q3 => ?_) (fun q3 => ?_)
      · skip
        refine mx_J.step (sn_109 19) (fun _ _ => rfl) ?_
        refine JgetR (g := 8) (b := 25) hx1 (show mx_Sn _ _ 20 (mx_getf 11 8 23) from sn_109 20) a1 s1 rfl rfl (hG1.prr 1 8 rfl) ?_
        refine mx_J.step (sn_109 23) (fun _ _ => rfl) ?_
        refine JgetR (g := 12) (b := 36) hx1 (show mx_Sn _ _ 24 (mx_getf 11 12 27) from sn_109 24) a1 s1 rfl rfl (hG1.prr 1 12 rfl) ?_
        have b7 : 0 ≤ Z 36 2 ∧ Z 36 2 ≤ 384 := hG.pr 36 2
        refine JgetI (g := 2) (z := Z 36 2) hx1 (show mx_Sn _ _ 27 (mx_getf 5 2 30) from sn_109 27) a36 s36 rfl rfl (hf1 36 2 rfl) ?_
        refine mx_J.step (sn_109 30) (fun _ _ => rfl) ?_
        obtain ⟨z8, Z8, h8, hc8, hx8, hG8, hf8, b8⟩ := ct_61_25 (d := d + 0) (l := l) (D := D) (b0 := b0) (ad := ad) (Hb := Hb) (tau := tau) hx1 hG1 (show 0 ≤ Z 36 2 ∧ Z 36 2 ≤ 384 by omega) (show (-1) ≤ z1 ∧ z1 ≤ 384 by omega)
        refine Jcv hx1 (show mx_Sn _ _ 31 (mx_callv 61 3 8 34) from sn_109 31) a25 s25 hc8 rfl rfl rfl ?_
        refine mx_J.step (ls2 := [some (.ref 1), some (xI 3), some (xI x1), some (xI z1), some (xI z8)]) (sn_109 34) (fun _ _ => rfl) ?_
        refine mx_J.step (sn_109 36) (fun _ _ => rfl) ?_
        refine mx_J.step (sn_109 37) (fun _ _ => rfl) ?_
        have c60 : ∀ (k9_0 : Int), (-1) ≤ k9_0 ∧ k9_0 ≤ 18 → mx_J (tB l D b0 ad Hb tau) mt_109 (d + 6) 60 [some (.ref 1), some (xI 3), some (xI x1), some (xI z1), some (xI z8)] [xI k9_0] h8 Post := by
          intro k9_0 f9_0
          exact mx_J.ret (sn_109 60) (fun _ _ => rfl) (hP k9_0 Z8 h8 hx8 hG8 (fr_tr (M := [(14, (-1)), (16, (-1)), (17, (-1)), (18, (-1)), (19, (-1)), (25, 8), (26, (-1)), (27, (-1)), (28, (-1)), (29, (-1)), (42, (-1))]) (fr_tr (M := [(14, (-1)), (16, (-1)), (17, (-1)), (18, (-1)), (19, (-1)), (25, 8), (26, (-1)), (27, (-1)), (28, (-1)), (29, (-1)), (42, (-1))]) fr_rf (hf1) (M1 := []) rfl rfl) (hf8) rfl rfl) (by omega))
        refine Jicmp_ge (show mx_Sn _ _ 39 (mx_icmp_ge 59 42) from sn_109 39) (by omega) (by omega) (fun q10 => ?_) (fun q10 => ?_)
        · skip
          refine JcI (z := (-1)) (show mx_Sn _ _ 59 (mx_const (.int (-1)) 60) from sn_109 59) rfl ?_
          exact c60 (-1) (by omega)
        · skip
          refine mx_J.step (sn_109 42) (fun _ _ => rfl) ?_
          refine JgetR (g := 8) (b := 25) hx8 (show mx_Sn _ _ 43 (mx_getf 11 8 46) from sn_109 43) a1 s1 rfl rfl (hG8.prr 1 8 rfl) ?_
          refine mx_J.step (sn_109 46) (fun _ _ => rfl) ?_
          refine mx_J.step (sn_109 47) (fun _ _ => rfl) ?_
          refine JcI (z := 1) (show mx_Sn _ _ 49 (mx_const (.int 1) 50) from sn_109 49) rfl ?_
          refine Jisub (show mx_Sn _ _ 50 (mx_isub 51) from sn_109 50) ?_
          refine mx_J.step (sn_109 51) (fun _ _ => rfl) ?_
          refine Jisub (show mx_Sn _ _ 52 (mx_isub 53) from sn_109 52) ?_
          obtain ⟨z12, hc12, b12⟩ := ct_63_25 (d := d + 5) (l := l) (D := D) (b0 := b0) (ad := ad) (Hb := Hb) (tau := tau) hx8 hG8 (show 0 ≤ z1 ∧ z1 ≤ 384 by omega) (show (-2147483648) ≤ (z8 - 1) - x1 ∧ (z8 - 1) - x1 ≤ 2147483647 by omega)
          refine Jcv hx8 (show mx_Sn _ _ 53 (mx_callv 63 3 8 56) from sn_109 53) a25 s25 hc12 rfl rfl rfl ?_
          refine mx_J.step (sn_109 56) (fun _ _ => rfl) ?_
          exact c60 z12 (by omega)
      · skip
        refine JcI (z := (-3)) (show mx_Sn _ _ 16 (mx_const (.int (-3)) 18) from sn_109 16) rfl ?_
        exact mx_J.ret (sn_109 18) (fun _ _ => rfl) (hP (-3) Z1 h1 hx1 hG1 (fr_tr (M := [(14, (-1)), (16, (-1)), (17, (-1)), (18, (-1)), (19, (-1)), (25, 8), (26, (-1)), (27, (-1)), (28, (-1)), (29, (-1)), (42, (-1))]) fr_rf (hf1) (M1 := []) rfl rfl) (by omega))
    · skip
      refine mx_J.step (sn_109 10) (fun _ _ => rfl) ?_
      exact mx_J.ret (sn_109 11) (fun _ _ => rfl) (hP z1 Z1 h1 hx1 hG1 (fr_tr (M := [(14, (-1)), (16, (-1)), (17, (-1)), (18, (-1)), (19, (-1)), (25, 8), (26, (-1)), (27, (-1)), (28, (-1)), (29, (-1)), (42, (-1))]) fr_rf (hf1) (M1 := []) rfl rfl) (by omega))
theorem ct_109_1_i3 {l : Launch} {D : va_G} {b0 : Nat} {ad : Nat → Nat} {Hb : Heap} {tau : Nat → Int64} {d n s : Nat} {S : Nat → xS} {Z : xZ} {h : mx_H} (hx : XH n s S Z h) (hG : GI n S Z)  {x1 : Int} (p1 : (-2147483648) ≤ x1 ∧ x1 ≤ 2147483647) : ∃ (z : Int) (Z' : xZ) (h' : mx_H), mx_Ca (tB l D b0 ad Hb tau) (d + 7) 109 [.ref 1, xI 3, xI x1] h (some (xI z), h') ∧ XH n s S Z' h' ∧ GI n S Z' ∧ fr' [(14, (-1)), (16, (-1)), (17, (-1)), (18, (-1)), (19, (-1)), (25, 8), (26, (-1)), (27, (-1)), (28, (-1)), (29, (-1)), (42, (-1))] Z Z' ∧ ((-6) ≤ z ∧ z ≤ 18) := by
  obtain ⟨r, hca, z, Z', h', e, q⟩ := Jmt (B := tB l D b0 ad Hb tau) (M := mt_109) (mi := 109) (as := [.ref 1, xI 3, xI x1]) (d := d + 6) (ls := [some (.ref 1), some (xI 3), some (xI x1), none, none]) rfl rfl rfl rfl rfl rfl (cw_109_1_i3 (l := l) (D := D) (b0 := b0) (ad := ad) (Hb := Hb) (tau := tau) (d := d) (Post := fun r => ∃ (z : Int) (Z' : xZ) (h' : mx_H), r = (some (xI z), h') ∧ XH n s S Z' h' ∧ GI n S Z' ∧ fr' [(14, (-1)), (16, (-1)), (17, (-1)), (18, (-1)), (19, (-1)), (25, 8), (26, (-1)), (27, (-1)), (28, (-1)), (29, (-1)), (42, (-1))] Z Z' ∧ ((-6) ≤ z ∧ z ≤ 18)) hx hG p1 (fun z Z' h' q1 q2 q3 q4 => ⟨z, Z', h', rfl, q1, q2, q3, q4⟩))
  subst e; exact ⟨z, Z', h', hca, q⟩
set_option maxRecDepth 100000 in
theorem cw_109_1_n {l : Launch} {D : va_G} {b0 : Nat} {ad : Nat → Nat} {Hb : Heap} {tau : Nat → Int64} {d n s : Nat} {S : Nat → xS} {Z : xZ} {h : mx_H} {Post : mx_R → Prop} (hx : XH n s S Z h) (hG : GI n S Z)  {x0 x1 : Int} (p0 : (-2147483648) ≤ x0 ∧ x0 ≤ (-1)) (p1 : (-2147483648) ≤ x1 ∧ x1 ≤ 2147483647) (hP : ∀ z : Int, (-2) ≤ z ∧ z ≤ (-2) → Post (some (xI z), h)) : mx_J (tB l D b0 ad Hb tau) mt_109 (d + 2) 0 [some (.ref 1), some (xI x0), some (xI x1), none, none] [] h Post := by
    have a1 : 1 < n := lt83 (GI_n hG) rfl
    have s1 : S 1 = .inl (11, [2, 0, 0, 0, 2, 2, 2, 2, 2, 2, 2, 2, 2, 2, 2, 2, 2]) := GI_s hG 1 rfl
    refine mx_J.step (sn_109 0) (fun _ _ => rfl) ?_
    refine mx_J.step (sn_109 1) (fun _ _ => rfl) ?_
    obtain ⟨z1, hc1, b1⟩ := ct_145_1_n (d := d + 0) (l := l) (D := D) (b0 := b0) (ad := ad) (Hb := Hb) (tau := tau) hx hG (show (-2147483648) ≤ x0 ∧ x0 ≤ (-1) by omega)
    obtain ⟨bs1_0, b1⟩ := b1
    obtain ⟨bs1_1, b1⟩ := b1
    obtain ⟨bs1_2, b1⟩ := b1
    obtain ⟨bs1_3, b1⟩ := b1
    obtain ⟨bs1_4, b1⟩ := b1
    refine Jcv hx (show mx_Sn _ _ 2 (mx_callv 145 2 11 5) from sn_109 2) a1 s1 hc1 rfl rfl rfl ?_
    refine mx_J.step (ls2 := [some (.ref 1), some (xI x0), some (xI x1), some (xI z1), none]) (sn_109 5) (fun _ _ => rfl) ?_
    refine mx_J.step (sn_109 6) (fun _ _ => rfl) ?_
    refine Jif_ge (show mx_Sn _ _ 7 (mx_if_ge 12 10) from sn_109 7) (by omega) (fun q2 => ?_) (fun q2 => ?_)
    · skip
      exfalso; omega
    · skip
      refine mx_J.step (sn_109 10) (fun _ _ => rfl) ?_
      exact mx_J.ret (sn_109 11) (fun _ _ => rfl) (hP z1 (by omega))
theorem ct_109_1_n {l : Launch} {D : va_G} {b0 : Nat} {ad : Nat → Nat} {Hb : Heap} {tau : Nat → Int64} {d n s : Nat} {S : Nat → xS} {Z : xZ} {h : mx_H} (hx : XH n s S Z h) (hG : GI n S Z)  {x0 x1 : Int} (p0 : (-2147483648) ≤ x0 ∧ x0 ≤ (-1)) (p1 : (-2147483648) ≤ x1 ∧ x1 ≤ 2147483647) : ∃ z : Int, mx_Ca (tB l D b0 ad Hb tau) (d + 3) 109 [.ref 1, xI x0, xI x1] h (some (xI z), h) ∧ ((-2) ≤ z ∧ z ≤ (-2)) := by
  obtain ⟨r, hca, z, e, hp⟩ := Jmt (B := tB l D b0 ad Hb tau) (M := mt_109) (mi := 109) (as := [.ref 1, xI x0, xI x1]) (d := d + 2) (ls := [some (.ref 1), some (xI x0), some (xI x1), none, none]) rfl rfl rfl rfl rfl rfl (cw_109_1_n (l := l) (D := D) (b0 := b0) (ad := ad) (Hb := Hb) (tau := tau) (d := d) (Post := fun r => ∃ z : Int, r = (some (xI z), h) ∧ ((-2) ≤ z ∧ z ≤ (-2))) hx hG p0 p1 (fun z hz => ⟨z, rfl, hz⟩))
  subst e; exact ⟨z, hca, hp⟩
set_option maxRecDepth 100000 in
theorem cw_109_1_p {l : Launch} {D : va_G} {b0 : Nat} {ad : Nat → Nat} {Hb : Heap} {tau : Nat → Int64} {d n s : Nat} {S : Nat → xS} {Z : xZ} {h : mx_H} {Post : mx_R → Prop} (hx : XH n s S Z h) (hG : GI n S Z)  {x0 x1 : Int} (p0 : 4 ≤ x0 ∧ x0 ≤ 2147483647) (p1 : (-2147483648) ≤ x1 ∧ x1 ≤ 2147483647) (hP : ∀ z : Int, (-2) ≤ z ∧ z ≤ (-2) → Post (some (xI z), h)) : mx_J (tB l D b0 ad Hb tau) mt_109 (d + 2) 0 [some (.ref 1), some (xI x0), some (xI x1), none, none] [] h Post := by
    have a1 : 1 < n := lt83 (GI_n hG) rfl
    have s1 : S 1 = .inl (11, [2, 0, 0, 0, 2, 2, 2, 2, 2, 2, 2, 2, 2, 2, 2, 2, 2]) := GI_s hG 1 rfl
    refine mx_J.step (sn_109 0) (fun _ _ => rfl) ?_
    refine mx_J.step (sn_109 1) (fun _ _ => rfl) ?_
    obtain ⟨z1, hc1, b1⟩ := ct_145_1_p (d := d + 0) (l := l) (D := D) (b0 := b0) (ad := ad) (Hb := Hb) (tau := tau) hx hG (show 4 ≤ x0 ∧ x0 ≤ 2147483647 by omega)
    obtain ⟨bs1_0, b1⟩ := b1
    obtain ⟨bs1_1, b1⟩ := b1
    obtain ⟨bs1_2, b1⟩ := b1
    obtain ⟨bs1_3, b1⟩ := b1
    obtain ⟨bs1_4, b1⟩ := b1
    refine Jcv hx (show mx_Sn _ _ 2 (mx_callv 145 2 11 5) from sn_109 2) a1 s1 hc1 rfl rfl rfl ?_
    refine mx_J.step (ls2 := [some (.ref 1), some (xI x0), some (xI x1), some (xI z1), none]) (sn_109 5) (fun _ _ => rfl) ?_
    refine mx_J.step (sn_109 6) (fun _ _ => rfl) ?_
    refine Jif_ge (show mx_Sn _ _ 7 (mx_if_ge 12 10) from sn_109 7) (by omega) (fun q2 => ?_) (fun q2 => ?_)
    · skip
      exfalso; omega
    · skip
      refine mx_J.step (sn_109 10) (fun _ _ => rfl) ?_
      exact mx_J.ret (sn_109 11) (fun _ _ => rfl) (hP z1 (by omega))
theorem ct_109_1_p {l : Launch} {D : va_G} {b0 : Nat} {ad : Nat → Nat} {Hb : Heap} {tau : Nat → Int64} {d n s : Nat} {S : Nat → xS} {Z : xZ} {h : mx_H} (hx : XH n s S Z h) (hG : GI n S Z)  {x0 x1 : Int} (p0 : 4 ≤ x0 ∧ x0 ≤ 2147483647) (p1 : (-2147483648) ≤ x1 ∧ x1 ≤ 2147483647) : ∃ z : Int, mx_Ca (tB l D b0 ad Hb tau) (d + 3) 109 [.ref 1, xI x0, xI x1] h (some (xI z), h) ∧ ((-2) ≤ z ∧ z ≤ (-2)) := by
  obtain ⟨r, hca, z, e, hp⟩ := Jmt (B := tB l D b0 ad Hb tau) (M := mt_109) (mi := 109) (as := [.ref 1, xI x0, xI x1]) (d := d + 2) (ls := [some (.ref 1), some (xI x0), some (xI x1), none, none]) rfl rfl rfl rfl rfl rfl (cw_109_1_p (l := l) (D := D) (b0 := b0) (ad := ad) (Hb := Hb) (tau := tau) (d := d) (Post := fun r => ∃ z : Int, r = (some (xI z), h) ∧ ((-2) ≤ z ∧ z ≤ (-2))) hx hG p0 p1 (fun z hz => ⟨z, rfl, hz⟩))
  subst e; exact ⟨z, hca, hp⟩
theorem ct_109_1 {l : Launch} {D : va_G} {b0 : Nat} {ad : Nat → Nat} {Hb : Heap} {tau : Nat → Int64} {d n s : Nat} {S : Nat → xS} {Z : xZ} {h : mx_H} (hx : XH n s S Z h) (hG : GI n S Z) {x0 x1 : Int} (p0 : (-2147483648) ≤ x0 ∧ x0 ≤ 2147483647) (p1 : (-2147483648) ≤ x1 ∧ x1 ≤ 2147483647) : ∃ (z : Int) (Z' : xZ) (h' : mx_H), mx_Ca (tB l D b0 ad Hb tau) (d + 7) 109 [.ref 1, xI x0, xI x1] h (some (xI z), h') ∧ XH n s S Z' h' ∧ GI n S Z' ∧ fr' [(14, (-1)), (16, (-1)), (17, (-1)), (18, (-1)), (19, (-1)), (25, 8), (26, (-1)), (27, (-1)), (28, (-1)), (29, (-1)), (42, (-1))] Z Z' ∧ ((-6) ≤ z ∧ z ≤ 18) := by
  have hc : x0 = 0 ∨ x0 = 1 ∨ x0 = 2 ∨ x0 = 3 ∨ ((-2147483648) ≤ x0 ∧ x0 ≤ (-1)) ∨ (4 ≤ x0 ∧ x0 ≤ 2147483647) := by omega
  rcases hc with hc | hc | hc | hc | hc | hc
  · subst hc
    obtain ⟨z, Z', h', hca, q1, q2, q3, b⟩ := ct_109_1_i0 (d := d + 0) (l := l) (D := D) (b0 := b0) (ad := ad) (Hb := Hb) (tau := tau) hx hG p1
    exact ⟨z, Z', h', hca, q1, q2, fr_tr (M1 := []) fr_rf q3 rfl rfl, by omega⟩
  · subst hc
    obtain ⟨z, Z', h', hca, q1, q2, q3, b⟩ := ct_109_1_i1 (d := d + 0) (l := l) (D := D) (b0 := b0) (ad := ad) (Hb := Hb) (tau := tau) hx hG p1
    exact ⟨z, Z', h', hca, q1, q2, fr_tr (M1 := []) fr_rf q3 rfl rfl, by omega⟩
  · subst hc
    obtain ⟨z, Z', h', hca, q1, q2, q3, b⟩ := ct_109_1_i2 (d := d + 0) (l := l) (D := D) (b0 := b0) (ad := ad) (Hb := Hb) (tau := tau) hx hG p1
    exact ⟨z, Z', h', hca, q1, q2, fr_tr (M1 := []) fr_rf q3 rfl rfl, by omega⟩
  · subst hc
    obtain ⟨z, Z', h', hca, q1, q2, q3, b⟩ := ct_109_1_i3 (d := d + 0) (l := l) (D := D) (b0 := b0) (ad := ad) (Hb := Hb) (tau := tau) hx hG p1
    exact ⟨z, Z', h', hca, q1, q2, fr_tr (M1 := []) fr_rf q3 rfl rfl, by omega⟩
  · skip
    obtain ⟨z, hca, b⟩ := ct_109_1_n (d := d + 4) (l := l) (D := D) (b0 := b0) (ad := ad) (Hb := Hb) (tau := tau) hx hG hc p1
    exact ⟨z, Z, h, hca, hx, hG, fr_rf, by omega⟩
  · skip
    obtain ⟨z, hca, b⟩ := ct_109_1_p (d := d + 4) (l := l) (D := D) (b0 := b0) (ad := ad) (Hb := Hb) (tau := tau) hx hG hc p1
    exact ⟨z, Z, h, hca, hx, hG, fr_rf, by omega⟩
set_option maxRecDepth 100000 in
theorem cw_128_1_i0 {l : Launch} {D : va_G} {b0 : Nat} {ad : Nat → Nat} {Hb : Heap} {tau : Nat → Int64} {d n s : Nat} {S : Nat → xS} {Z : xZ} {h : mx_H} {Post : mx_R → Prop} (hx : XH n s S Z h) (hG : GI n S Z)  {x1 x2 : Int} (p1 : (-2147483648) ≤ x1 ∧ x1 ≤ 2147483647) (p2 : (-2147483648) ≤ x2 ∧ x2 ≤ 2147483647) (hP : ∀ (z : Int) (Z' : xZ) (h' : mx_H), XH n s S Z' h' → GI n S Z' → fr' [(44, 1), (44, 2), (44, 3), (45, (-1))] Z Z' → ((((0 : Int) < 0 ∨ 3 < (0 : Int) ∨ x1 < 0 ∨ 3 < x1) ∨ (x2 < 0 ∨ 40 < x2) ∨ ¬ (0 : Int) = 0) → ∀ i, Z' 45 i = Z 45 i) ∧ (¬ ((0 : Int) < 0 ∨ 3 < (0 : Int) ∨ x1 < 0 ∨ 3 < x1) → ¬ (x2 < 0 ∨ 40 < x2) → (0 : Int) = 0 → FLL Z' 45 40 0) ∧ ((((0 : Int) < 0 ∨ 3 < (0 : Int) ∨ x1 < 0 ∨ 3 < x1) ∨ (x2 < 0 ∨ 40 < x2) ∨ ¬ (0 : Int) = 1) → ∀ i, Z' 47 i = Z 47 i) ∧ (¬ ((0 : Int) < 0 ∨ 3 < (0 : Int) ∨ x1 < 0 ∨ 3 < x1) → ¬ (x2 < 0 ∨ 40 < x2) → (0 : Int) = 1 → FLL Z' 47 40 0) ∧ ((((0 : Int) < 0 ∨ 3 < (0 : Int) ∨ x1 < 0 ∨ 3 < x1) ∨ (x2 < 0 ∨ 40 < x2) ∨ ¬ (0 : Int) = 2) → ∀ i, Z' 49 i = Z 49 i) ∧ (¬ ((0 : Int) < 0 ∨ 3 < (0 : Int) ∨ x1 < 0 ∨ 3 < x1) → ¬ (x2 < 0 ∨ 40 < x2) → (0 : Int) = 2 → FLL Z' 49 40 0) ∧ ((((0 : Int) < 0 ∨ 3 < (0 : Int) ∨ x1 < 0 ∨ 3 < x1) ∨ (x2 < 0 ∨ 40 < x2) ∨ ¬ (0 : Int) = 3) → ∀ i, Z' 51 i = Z 51 i) ∧ (¬ ((0 : Int) < 0 ∨ 3 < (0 : Int) ∨ x1 < 0 ∨ 3 < x1) → ¬ (x2 < 0 ∨ 40 < x2) → (0 : Int) = 3 → FLL Z' 51 40 0) ∧ (-3) ≤ z ∧ z ≤ 0 ∧ (((((0 : Int) < 0 ∨ 3 < (0 : Int) ∨ x1 < 0 ∨ 3 < x1) → z = -2) ∧ (¬ ((0 : Int) < 0 ∨ 3 < (0 : Int) ∨ x1 < 0 ∨ 3 < x1) → (x2 < 0 ∨ 40 < x2) → z = -3) ∧ (¬ ((0 : Int) < 0 ∨ 3 < (0 : Int) ∨ x1 < 0 ∨ 3 < x1) → ¬ (x2 < 0 ∨ 40 < x2) → z = 0)) ∧ ((((0 : Int) < 0 ∨ 3 < (0 : Int) ∨ x1 < 0 ∨ 3 < x1) ∨ (x2 < 0 ∨ 40 < x2) ∨ ¬ (0 : Int) = 0) → Z' 44 1 = Z 44 1 ∧ Z' 44 2 = Z 44 2 ∧ Z' 44 3 = Z 44 3) ∧ (¬ ((0 : Int) < 0 ∨ 3 < (0 : Int) ∨ x1 < 0 ∨ 3 < x1) → ¬ (x2 < 0 ∨ 40 < x2) → (0 : Int) = 0 → Z' 44 1 = x1 ∧ Z' 44 2 = x2 ∧ Z' 44 3 = 0) ∧ ((((0 : Int) < 0 ∨ 3 < (0 : Int) ∨ x1 < 0 ∨ 3 < x1) ∨ (x2 < 0 ∨ 40 < x2) ∨ ¬ (0 : Int) = 1) → Z' 46 1 = Z 46 1 ∧ Z' 46 2 = Z 46 2 ∧ Z' 46 3 = Z 46 3) ∧ (¬ ((0 : Int) < 0 ∨ 3 < (0 : Int) ∨ x1 < 0 ∨ 3 < x1) → ¬ (x2 < 0 ∨ 40 < x2) → (0 : Int) = 1 → Z' 46 1 = x1 ∧ Z' 46 2 = x2 ∧ Z' 46 3 = 0) ∧ ((((0 : Int) < 0 ∨ 3 < (0 : Int) ∨ x1 < 0 ∨ 3 < x1) ∨ (x2 < 0 ∨ 40 < x2) ∨ ¬ (0 : Int) = 2) → Z' 48 1 = Z 48 1 ∧ Z' 48 2 = Z 48 2 ∧ Z' 48 3 = Z 48 3) ∧ (¬ ((0 : Int) < 0 ∨ 3 < (0 : Int) ∨ x1 < 0 ∨ 3 < x1) → ¬ (x2 < 0 ∨ 40 < x2) → (0 : Int) = 2 → Z' 48 1 = x1 ∧ Z' 48 2 = x2 ∧ Z' 48 3 = 0) ∧ ((((0 : Int) < 0 ∨ 3 < (0 : Int) ∨ x1 < 0 ∨ 3 < x1) ∨ (x2 < 0 ∨ 40 < x2) ∨ ¬ (0 : Int) = 3) → Z' 50 1 = Z 50 1 ∧ Z' 50 2 = Z 50 2 ∧ Z' 50 3 = Z 50 3) ∧ (¬ ((0 : Int) < 0 ∨ 3 < (0 : Int) ∨ x1 < 0 ∨ 3 < x1) → ¬ (x2 < 0 ∨ 40 < x2) → (0 : Int) = 3 → Z' 50 1 = x1 ∧ Z' 50 2 = x2 ∧ Z' 50 3 = 0)) → Post (some (xI z), h')) : mx_J (tB l D b0 ad Hb tau) mt_128 (d + 2) 0 [some (.ref 1), some (xI 0), some (xI x1), some (xI x2)] [] h Post := by
    have a1 : 1 < n := lt83 (GI_n hG) rfl
    have s1 : S 1 = .inl (11, [2, 0, 0, 0, 2, 2, 2, 2, 2, 2, 2, 2, 2, 2, 2, 2, 2]) := GI_s hG 1 rfl
    have a34 : 34 < n := lt83 (GI_n hG) rfl
    have s34 : S 34 = .inr ((.object "TitheHeap$Tray"), 4, 2) := GI_s hG 34 rfl
    have a44 : 44 < n := lt83 (GI_n hG) rfl
    have s44 : S 44 = .inl (10, [2, 0, 0, 0]) := GI_s hG 44 rfl
    refine mx_J.step (sn_128 0) (fun _ _ => rfl) ?_
    refine mx_J.step (sn_128 1) (fun _ _ => rfl) ?_
    obtain ⟨z1, hc1, b1⟩ := ct_144_1_y (d := d + 1) (l := l) (D := D) (b0 := b0) (ad := ad) (Hb := Hb) (tau := tau) hx hG (show 0 ≤ 0 ∧ 0 ≤ 3 by omega)
    refine Jcv hx (show mx_Sn _ _ 2 (mx_callv 144 2 11 5) from sn_128 2) a1 s1 hc1 rfl rfl rfl ?_
    have c17 : (0 < 0 ∨ 3 < 0 ∨ x1 < 0 ∨ 3 < x1) → mx_J (tB l D b0 ad Hb tau) mt_128 (d + 2) 17 [some (.ref 1), some (xI 0), some (xI x1), some (xI x2)] [] h Post := by
      intro f2_0
      refine JcI (z := (-2)) (show mx_Sn _ _ 17 (mx_const (.int (-2)) 19) from sn_128 17) rfl ?_
      have b3 : 0 ≤ Z 44 1 ∧ Z 44 1 ≤ 3 := hG.pr 44 1
      have b4 : 0 ≤ Z 44 2 ∧ Z 44 2 ≤ 40 := hG.pr 44 2
      have b5 : 0 ≤ Z 44 3 ∧ Z 44 3 ≤ 1 := hG.pr 44 3
      have b6 : 0 ≤ Z 46 1 ∧ Z 46 1 ≤ 3 := hG.pr 46 1
      have b7 : 0 ≤ Z 46 2 ∧ Z 46 2 ≤ 40 := hG.pr 46 2
      have b8 : 0 ≤ Z 46 3 ∧ Z 46 3 ≤ 1 := hG.pr 46 3
      have b9 : 0 ≤ Z 48 1 ∧ Z 48 1 ≤ 3 := hG.pr 48 1
      have b10 : 0 ≤ Z 48 2 ∧ Z 48 2 ≤ 40 := hG.pr 48 2
      have b11 : 0 ≤ Z 48 3 ∧ Z 48 3 ≤ 1 := hG.pr 48 3
      have b12 : 0 ≤ Z 50 1 ∧ Z 50 1 ≤ 3 := hG.pr 50 1
      have b13 : 0 ≤ Z 50 2 ∧ Z 50 2 ≤ 40 := hG.pr 50 2
      have b14 : 0 ≤ Z 50 3 ∧ Z 50 3 ≤ 1 := hG.pr 50 3
      exact mx_J.ret (sn_128 19) (fun _ _ => rfl) (hP (-2) Z h hx hG fr_rf ⟨(fun _ => (fun i => rfl)), (fun a _ _ => absurd (by omega) a), (fun _ => (fun i => rfl)), (fun a _ _ => absurd (by omega) a), (fun _ => (fun i => rfl)), (fun a _ _ => absurd (by omega) a), (fun _ => (fun i => rfl)), (fun a _ _ => absurd (by omega) a), by omega⟩)
    refine Jif_ne (show mx_Sn _ _ 5 (mx_if_ne 17 8) from sn_128 5) (by omega) (fun q15 => ?_) (fun q15 => ?_)
    · skip
      exact c17 (by omega)
    · skip
      refine mx_J.step (sn_128 8) (fun _ _ => rfl) ?_
      refine Jif_lt (show mx_Sn _ _ 9 (mx_if_lt 17 12) from sn_128 9) (by omega) (fun q16 => ?_) (fun q16 => ?_)
      · skip
        exact c17 (by omega)
      · skip
        refine mx_J.step (sn_128 12) (fun _ _ => rfl) ?_
        refine JcI (z := 3) (show mx_Sn _ _ 13 (mx_const (.int 3) 14) from sn_128 13) rfl ?_
        refine Jicmp_le (show mx_Sn _ _ 14 (mx_icmp_le 20 17) from sn_128 14) (by omega) (by omega) (fun q17 => ?_) (fun q17 => ?_)
        · skip
          refine mx_J.step (sn_128 20) (fun _ _ => rfl) ?_
          have c30 : (x2 < 0 ∨ 40 < x2) → mx_J (tB l D b0 ad Hb tau) mt_128 (d + 2) 30 [some (.ref 1), some (xI 0), some (xI x1), some (xI x2)] [] h Post := by
            intro f18_0
            refine JcI (z := (-3)) (show mx_Sn _ _ 30 (mx_const (.int (-3)) 32) from sn_128 30) rfl ?_
            have b19 : 0 ≤ Z 44 1 ∧ Z 44 1 ≤ 3 := hG.pr 44 1
            have b20 : 0 ≤ Z 44 2 ∧ Z 44 2 ≤ 40 := hG.pr 44 2
            have b21 : 0 ≤ Z 44 3 ∧ Z 44 3 ≤ 1 := hG.pr 44 3
            have b22 : 0 ≤ Z 46 1 ∧ Z 46 1 ≤ 3 := hG.pr 46 1
            have b23 : 0 ≤ Z 46 2 ∧ Z 46 2 ≤ 40 := hG.pr 46 2
            have b24 : 0 ≤ Z 46 3 ∧ Z 46 3 ≤ 1 := hG.pr 46 3
            have b25 : 0 ≤ Z 48 1 ∧ Z 48 1 ≤ 3 := hG.pr 48 1
            have b26 : 0 ≤ Z 48 2 ∧ Z 48 2 ≤ 40 := hG.pr 48 2
            have b27 : 0 ≤ Z 48 3 ∧ Z 48 3 ≤ 1 := hG.pr 48 3
            have b28 : 0 ≤ Z 50 1 ∧ Z 50 1 ≤ 3 := hG.pr 50 1
            have b29 : 0 ≤ Z 50 2 ∧ Z 50 2 ≤ 40 := hG.pr 50 2
            have b30 : 0 ≤ Z 50 3 ∧ Z 50 3 ≤ 1 := hG.pr 50 3
            exact mx_J.ret (sn_128 32) (fun _ _ => rfl) (hP (-3) Z h hx hG fr_rf ⟨(fun _ => (fun i => rfl)), (fun _ b _ => absurd (by omega) b), (fun _ => (fun i => rfl)), (fun _ b _ => absurd (by omega) b), (fun _ => (fun i => rfl)), (fun _ b _ => absurd (by omega) b), (fun _ => (fun i => rfl)), (fun _ b _ => absurd (by omega) b), by omega⟩)
          refine Jif_lt (show mx_Sn _ _ 21 (mx_if_lt 30 24) from sn_128 21) (by omega) (fun q31 => ?_) (fun q31 => ?_)
          · skip
            exact c30 (by omega)
          · skip
            refine mx_J.step (sn_128 24) (fun _ _ => rfl) ?_
            refine JcI (z := 40) (show mx_Sn _ _ 25 (mx_const (.int 40) 27) from sn_128 25) rfl ?_
            refine Jicmp_le (show mx_Sn _ _ 27 (mx_icmp_le 33 30) from sn_128 27) (by omega) (by omega) (fun q32 => ?_) (fun q32 => ?_)
            · skip
              refine mx_J.step (sn_128 33) (fun _ _ => rfl) ?_
              refine JgetR (g := 10) (b := 34) hx (show mx_Sn _ _ 34 (mx_getf 11 10 37) from sn_128 34) a1 s1 rfl rfl (hG.prr 1 10 rfl) ?_
              refine mx_J.step (sn_128 37) (fun _ _ => rfl) ?_
              refine JaaldR (i := 0) (b := 44) hx (show mx_Sn _ _ 38 (mx_aald 39) from sn_128 38) a34 s34 (by omega) (show Z 34 0 = 44 by have hq := GI_ex hG 34 0; replace hq : ((0 : Int) ≤ 0 → (0 : Int) ≤ 3 → (Z 34 0) = 44 + 2 * 0) := hq; omega) ?_
              refine mx_J.step (sn_128 39) (fun _ _ => rfl) ?_
              refine mx_J.step (sn_128 40) (fun _ _ => rfl) ?_
              obtain ⟨Z34, h34, hc34, hx34, hG34, hf34, b34⟩ := ct_83_44 (d := d + 0) (l := l) (D := D) (b0 := b0) (ad := ad) (Hb := Hb) (tau := tau) hx hG (show 0 ≤ x1 ∧ x1 ≤ 3 by omega) (show 0 ≤ x2 ∧ x2 ≤ 40 by omega)
              obtain ⟨bs34_0, b34⟩ := b34
              have b35 : 0 ≤ Z34 44 1 ∧ Z34 44 1 ≤ 3 := hG34.pr 44 1
              have b36 : 0 ≤ Z34 44 2 ∧ Z34 44 2 ≤ 40 := hG34.pr 44 2
              have b37 : 0 ≤ Z34 44 3 ∧ Z34 44 3 ≤ 1 := hG34.pr 44 3
              refine Jcv0 hx (show mx_Sn _ _ 41 (mx_callv 83 3 10 44) from sn_128 41) a44 s44 hc34 rfl rfl rfl ?_
              refine JcI (z := 0) (show mx_Sn _ _ 44 (mx_const (.int 0) 45) from sn_128 44) rfl ?_
              have eq38 : Z34 46 1 = Z 46 1 := (hf34 46 1 rfl)
              have b39 : 0 ≤ Z 46 1 ∧ Z 46 1 ≤ 3 := hG.pr 46 1
              have eq40 : Z34 46 2 = Z 46 2 := (hf34 46 2 rfl)
              have b41 : 0 ≤ Z 46 2 ∧ Z 46 2 ≤ 40 := hG.pr 46 2
              have eq42 : Z34 46 3 = Z 46 3 := (hf34 46 3 rfl)
              have b43 : 0 ≤ Z 46 3 ∧ Z 46 3 ≤ 1 := hG.pr 46 3
              have eq44 : Z34 48 1 = Z 48 1 := (hf34 48 1 rfl)
              have b45 : 0 ≤ Z 48 1 ∧ Z 48 1 ≤ 3 := hG.pr 48 1
              have eq46 : Z34 48 2 = Z 48 2 := (hf34 48 2 rfl)
              have b47 : 0 ≤ Z 48 2 ∧ Z 48 2 ≤ 40 := hG.pr 48 2
              have eq48 : Z34 48 3 = Z 48 3 := (hf34 48 3 rfl)
              have b49 : 0 ≤ Z 48 3 ∧ Z 48 3 ≤ 1 := hG.pr 48 3
              have eq50 : Z34 50 1 = Z 50 1 := (hf34 50 1 rfl)
              have b51 : 0 ≤ Z 50 1 ∧ Z 50 1 ≤ 3 := hG.pr 50 1
              have eq52 : Z34 50 2 = Z 50 2 := (hf34 50 2 rfl)
              have b53 : 0 ≤ Z 50 2 ∧ Z 50 2 ≤ 40 := hG.pr 50 2
              have eq54 : Z34 50 3 = Z 50 3 := (hf34 50 3 rfl)
              have b55 : 0 ≤ Z 50 3 ∧ Z 50 3 ≤ 1 := hG.pr 50 3
              have eq56 : Z34 46 1 = Z 46 1 := (hf34 46 1 rfl)
              have eq57 : Z34 46 2 = Z 46 2 := (hf34 46 2 rfl)
              have eq58 : Z34 46 3 = Z 46 3 := (hf34 46 3 rfl)
              have eq59 : Z34 48 1 = Z 48 1 := (hf34 48 1 rfl)
              have eq60 : Z34 48 2 = Z 48 2 := (hf34 48 2 rfl)
              have eq61 : Z34 48 3 = Z 48 3 := (hf34 48 3 rfl)
              have eq62 : Z34 50 1 = Z 50 1 := (hf34 50 1 rfl)
              have eq63 : Z34 50 2 = Z 50 2 := (hf34 50 2 rfl)
              have eq64 : Z34 50 3 = Z 50 3 := (hf34 50 3 rfl)
              exact mx_J.ret (sn_128 45) (fun _ _ => rfl) (hP 0 Z34 h34 hx34 hG34 (fr_tr (M := [(44, 1), (44, 2), (44, 3), (45, (-1))]) fr_rf (hf34) (M1 := []) rfl rfl) ⟨(fun q => absurd q (by omega)), (fun _ _ _ => (by assumption)), (fun _ => (fun i => (hf34 47 i rfl))), (fun _ _ q => absurd q (by decide)), (fun _ => (fun i => (hf34 49 i rfl))), (fun _ _ q => absurd q (by decide)), (fun _ => (fun i => (hf34 51 i rfl))), (fun _ _ q => absurd q (by decide)), by omega⟩)
            · skip
              exact c30 (by omega)
        · skip
          exact c17 (by omega)
theorem ct_128_1_i0 {l : Launch} {D : va_G} {b0 : Nat} {ad : Nat → Nat} {Hb : Heap} {tau : Nat → Int64} {d n s : Nat} {S : Nat → xS} {Z : xZ} {h : mx_H} (hx : XH n s S Z h) (hG : GI n S Z)  {x1 x2 : Int} (p1 : (-2147483648) ≤ x1 ∧ x1 ≤ 2147483647) (p2 : (-2147483648) ≤ x2 ∧ x2 ≤ 2147483647) : ∃ (z : Int) (Z' : xZ) (h' : mx_H), mx_Ca (tB l D b0 ad Hb tau) (d + 3) 128 [.ref 1, xI 0, xI x1, xI x2] h (some (xI z), h') ∧ XH n s S Z' h' ∧ GI n S Z' ∧ fr' [(44, 1), (44, 2), (44, 3), (45, (-1))] Z Z' ∧ (((((0 : Int) < 0 ∨ 3 < (0 : Int) ∨ x1 < 0 ∨ 3 < x1) ∨ (x2 < 0 ∨ 40 < x2) ∨ ¬ (0 : Int) = 0) → ∀ i, Z' 45 i = Z 45 i) ∧ (¬ ((0 : Int) < 0 ∨ 3 < (0 : Int) ∨ x1 < 0 ∨ 3 < x1) → ¬ (x2 < 0 ∨ 40 < x2) → (0 : Int) = 0 → FLL Z' 45 40 0) ∧ ((((0 : Int) < 0 ∨ 3 < (0 : Int) ∨ x1 < 0 ∨ 3 < x1) ∨ (x2 < 0 ∨ 40 < x2) ∨ ¬ (0 : Int) = 1) → ∀ i, Z' 47 i = Z 47 i) ∧ (¬ ((0 : Int) < 0 ∨ 3 < (0 : Int) ∨ x1 < 0 ∨ 3 < x1) → ¬ (x2 < 0 ∨ 40 < x2) → (0 : Int) = 1 → FLL Z' 47 40 0) ∧ ((((0 : Int) < 0 ∨ 3 < (0 : Int) ∨ x1 < 0 ∨ 3 < x1) ∨ (x2 < 0 ∨ 40 < x2) ∨ ¬ (0 : Int) = 2) → ∀ i, Z' 49 i = Z 49 i) ∧ (¬ ((0 : Int) < 0 ∨ 3 < (0 : Int) ∨ x1 < 0 ∨ 3 < x1) → ¬ (x2 < 0 ∨ 40 < x2) → (0 : Int) = 2 → FLL Z' 49 40 0) ∧ ((((0 : Int) < 0 ∨ 3 < (0 : Int) ∨ x1 < 0 ∨ 3 < x1) ∨ (x2 < 0 ∨ 40 < x2) ∨ ¬ (0 : Int) = 3) → ∀ i, Z' 51 i = Z 51 i) ∧ (¬ ((0 : Int) < 0 ∨ 3 < (0 : Int) ∨ x1 < 0 ∨ 3 < x1) → ¬ (x2 < 0 ∨ 40 < x2) → (0 : Int) = 3 → FLL Z' 51 40 0) ∧ (-3) ≤ z ∧ z ≤ 0 ∧ (((((0 : Int) < 0 ∨ 3 < (0 : Int) ∨ x1 < 0 ∨ 3 < x1) → z = -2) ∧ (¬ ((0 : Int) < 0 ∨ 3 < (0 : Int) ∨ x1 < 0 ∨ 3 < x1) → (x2 < 0 ∨ 40 < x2) → z = -3) ∧ (¬ ((0 : Int) < 0 ∨ 3 < (0 : Int) ∨ x1 < 0 ∨ 3 < x1) → ¬ (x2 < 0 ∨ 40 < x2) → z = 0)) ∧ ((((0 : Int) < 0 ∨ 3 < (0 : Int) ∨ x1 < 0 ∨ 3 < x1) ∨ (x2 < 0 ∨ 40 < x2) ∨ ¬ (0 : Int) = 0) → Z' 44 1 = Z 44 1 ∧ Z' 44 2 = Z 44 2 ∧ Z' 44 3 = Z 44 3) ∧ (¬ ((0 : Int) < 0 ∨ 3 < (0 : Int) ∨ x1 < 0 ∨ 3 < x1) → ¬ (x2 < 0 ∨ 40 < x2) → (0 : Int) = 0 → Z' 44 1 = x1 ∧ Z' 44 2 = x2 ∧ Z' 44 3 = 0) ∧ ((((0 : Int) < 0 ∨ 3 < (0 : Int) ∨ x1 < 0 ∨ 3 < x1) ∨ (x2 < 0 ∨ 40 < x2) ∨ ¬ (0 : Int) = 1) → Z' 46 1 = Z 46 1 ∧ Z' 46 2 = Z 46 2 ∧ Z' 46 3 = Z 46 3) ∧ (¬ ((0 : Int) < 0 ∨ 3 < (0 : Int) ∨ x1 < 0 ∨ 3 < x1) → ¬ (x2 < 0 ∨ 40 < x2) → (0 : Int) = 1 → Z' 46 1 = x1 ∧ Z' 46 2 = x2 ∧ Z' 46 3 = 0) ∧ ((((0 : Int) < 0 ∨ 3 < (0 : Int) ∨ x1 < 0 ∨ 3 < x1) ∨ (x2 < 0 ∨ 40 < x2) ∨ ¬ (0 : Int) = 2) → Z' 48 1 = Z 48 1 ∧ Z' 48 2 = Z 48 2 ∧ Z' 48 3 = Z 48 3) ∧ (¬ ((0 : Int) < 0 ∨ 3 < (0 : Int) ∨ x1 < 0 ∨ 3 < x1) → ¬ (x2 < 0 ∨ 40 < x2) → (0 : Int) = 2 → Z' 48 1 = x1 ∧ Z' 48 2 = x2 ∧ Z' 48 3 = 0) ∧ ((((0 : Int) < 0 ∨ 3 < (0 : Int) ∨ x1 < 0 ∨ 3 < x1) ∨ (x2 < 0 ∨ 40 < x2) ∨ ¬ (0 : Int) = 3) → Z' 50 1 = Z 50 1 ∧ Z' 50 2 = Z 50 2 ∧ Z' 50 3 = Z 50 3) ∧ (¬ ((0 : Int) < 0 ∨ 3 < (0 : Int) ∨ x1 < 0 ∨ 3 < x1) → ¬ (x2 < 0 ∨ 40 < x2) → (0 : Int) = 3 → Z' 50 1 = x1 ∧ Z' 50 2 = x2 ∧ Z' 50 3 = 0))) := by
  obtain ⟨r, hca, z, Z', h', e, q⟩ := Jmt (B := tB l D b0 ad Hb tau) (M := mt_128) (mi := 128) (as := [.ref 1, xI 0, xI x1, xI x2]) (d := d + 2) (ls := [some (.ref 1), some (xI 0), some (xI x1), some (xI x2)]) rfl rfl rfl rfl rfl rfl (cw_128_1_i0 (l := l) (D := D) (b0 := b0) (ad := ad) (Hb := Hb) (tau := tau) (d := d) (Post := fun r => ∃ (z : Int) (Z' : xZ) (h' : mx_H), r = (some (xI z), h') ∧ XH n s S Z' h' ∧ GI n S Z' ∧ fr' [(44, 1), (44, 2), (44, 3), (45, (-1))] Z Z' ∧ (((((0 : Int) < 0 ∨ 3 < (0 : Int) ∨ x1 < 0 ∨ 3 < x1) ∨ (x2 < 0 ∨ 40 < x2) ∨ ¬ (0 : Int) = 0) → ∀ i, Z' 45 i = Z 45 i) ∧ (¬ ((0 : Int) < 0 ∨ 3 < (0 : Int) ∨ x1 < 0 ∨ 3 < x1) → ¬ (x2 < 0 ∨ 40 < x2) → (0 : Int) = 0 → FLL Z' 45 40 0) ∧ ((((0 : Int) < 0 ∨ 3 < (0 : Int) ∨ x1 < 0 ∨ 3 < x1) ∨ (x2 < 0 ∨ 40 < x2) ∨ ¬ (0 : Int) = 1) → ∀ i, Z' 47 i = Z 47 i) ∧ (¬ ((0 : Int) < 0 ∨ 3 < (0 : Int) ∨ x1 < 0 ∨ 3 < x1) → ¬ (x2 < 0 ∨ 40 < x2) → (0 : Int) = 1 → FLL Z' 47 40 0) ∧ ((((0 : Int) < 0 ∨ 3 < (0 : Int) ∨ x1 < 0 ∨ 3 < x1) ∨ (x2 < 0 ∨ 40 < x2) ∨ ¬ (0 : Int) = 2) → ∀ i, Z' 49 i = Z 49 i) ∧ (¬ ((0 : Int) < 0 ∨ 3 < (0 : Int) ∨ x1 < 0 ∨ 3 < x1) → ¬ (x2 < 0 ∨ 40 < x2) → (0 : Int) = 2 → FLL Z' 49 40 0) ∧ ((((0 : Int) < 0 ∨ 3 < (0 : Int) ∨ x1 < 0 ∨ 3 < x1) ∨ (x2 < 0 ∨ 40 < x2) ∨ ¬ (0 : Int) = 3) → ∀ i, Z' 51 i = Z 51 i) ∧ (¬ ((0 : Int) < 0 ∨ 3 < (0 : Int) ∨ x1 < 0 ∨ 3 < x1) → ¬ (x2 < 0 ∨ 40 < x2) → (0 : Int) = 3 → FLL Z' 51 40 0) ∧ (-3) ≤ z ∧ z ≤ 0 ∧ (((((0 : Int) < 0 ∨ 3 < (0 : Int) ∨ x1 < 0 ∨ 3 < x1) → z = -2) ∧ (¬ ((0 : Int) < 0 ∨ 3 < (0 : Int) ∨ x1 < 0 ∨ 3 < x1) → (x2 < 0 ∨ 40 < x2) → z = -3) ∧ (¬ ((0 : Int) < 0 ∨ 3 < (0 : Int) ∨ x1 < 0 ∨ 3 < x1) → ¬ (x2 < 0 ∨ 40 < x2) → z = 0)) ∧ ((((0 : Int) < 0 ∨ 3 < (0 : Int) ∨ x1 < 0 ∨ 3 < x1) ∨ (x2 < 0 ∨ 40 < x2) ∨ ¬ (0 : Int) = 0) → Z' 44 1 = Z 44 1 ∧ Z' 44 2 = Z 44 2 ∧ Z' 44 3 = Z 44 3) ∧ (¬ ((0 : Int) < 0 ∨ 3 < (0 : Int) ∨ x1 < 0 ∨ 3 < x1) → ¬ (x2 < 0 ∨ 40 < x2) → (0 : Int) = 0 → Z' 44 1 = x1 ∧ Z' 44 2 = x2 ∧ Z' 44 3 = 0) ∧ ((((0 : Int) < 0 ∨ 3 < (0 : Int) ∨ x1 < 0 ∨ 3 < x1) ∨ (x2 < 0 ∨ 40 < x2) ∨ ¬ (0 : Int) = 1) → Z' 46 1 = Z 46 1 ∧ Z' 46 2 = Z 46 2 ∧ Z' 46 3 = Z 46 3) ∧ (¬ ((0 : Int) < 0 ∨ 3 < (0 : Int) ∨ x1 < 0 ∨ 3 < x1) → ¬ (x2 < 0 ∨ 40 < x2) → (0 : Int) = 1 → Z' 46 1 = x1 ∧ Z' 46 2 = x2 ∧ Z' 46 3 = 0) ∧ ((((0 : Int) < 0 ∨ 3 < (0 : Int) ∨ x1 < 0 ∨ 3 < x1) ∨ (x2 < 0 ∨ 40 < x2) ∨ ¬ (0 : Int) = 2) → Z' 48 1 = Z 48 1 ∧ Z' 48 2 = Z 48 2 ∧ Z' 48 3 = Z 48 3) ∧ (¬ ((0 : Int) < 0 ∨ 3 < (0 : Int) ∨ x1 < 0 ∨ 3 < x1) → ¬ (x2 < 0 ∨ 40 < x2) → (0 : Int) = 2 → Z' 48 1 = x1 ∧ Z' 48 2 = x2 ∧ Z' 48 3 = 0) ∧ ((((0 : Int) < 0 ∨ 3 < (0 : Int) ∨ x1 < 0 ∨ 3 < x1) ∨ (x2 < 0 ∨ 40 < x2) ∨ ¬ (0 : Int) = 3) → Z' 50 1 = Z 50 1 ∧ Z' 50 2 = Z 50 2 ∧ Z' 50 3 = Z 50 3) ∧ (¬ ((0 : Int) < 0 ∨ 3 < (0 : Int) ∨ x1 < 0 ∨ 3 < x1) → ¬ (x2 < 0 ∨ 40 < x2) → (0 : Int) = 3 → Z' 50 1 = x1 ∧ Z' 50 2 = x2 ∧ Z' 50 3 = 0)))) hx hG p1 p2 (fun z Z' h' q1 q2 q3 q4 => ⟨z, Z', h', rfl, q1, q2, q3, q4⟩))
  subst e; exact ⟨z, Z', h', hca, q⟩
set_option maxRecDepth 100000 in
theorem cw_128_1_i1 {l : Launch} {D : va_G} {b0 : Nat} {ad : Nat → Nat} {Hb : Heap} {tau : Nat → Int64} {d n s : Nat} {S : Nat → xS} {Z : xZ} {h : mx_H} {Post : mx_R → Prop} (hx : XH n s S Z h) (hG : GI n S Z)  {x1 x2 : Int} (p1 : (-2147483648) ≤ x1 ∧ x1 ≤ 2147483647) (p2 : (-2147483648) ≤ x2 ∧ x2 ≤ 2147483647) (hP : ∀ (z : Int) (Z' : xZ) (h' : mx_H), XH n s S Z' h' → GI n S Z' → fr' [(46, 1), (46, 2), (46, 3), (47, (-1))] Z Z' → ((((1 : Int) < 0 ∨ 3 < (1 : Int) ∨ x1 < 0 ∨ 3 < x1) ∨ (x2 < 0 ∨ 40 < x2) ∨ ¬ (1 : Int) = 0) → ∀ i, Z' 45 i = Z 45 i) ∧ (¬ ((1 : Int) < 0 ∨ 3 < (1 : Int) ∨ x1 < 0 ∨ 3 < x1) → ¬ (x2 < 0 ∨ 40 < x2) → (1 : Int) = 0 → FLL Z' 45 40 0) ∧ ((((1 : Int) < 0 ∨ 3 < (1 : Int) ∨ x1 < 0 ∨ 3 < x1) ∨ (x2 < 0 ∨ 40 < x2) ∨ ¬ (1 : Int) = 1) → ∀ i, Z' 47 i = Z 47 i) ∧ (¬ ((1 : Int) < 0 ∨ 3 < (1 : Int) ∨ x1 < 0 ∨ 3 < x1) → ¬ (x2 < 0 ∨ 40 < x2) → (1 : Int) = 1 → FLL Z' 47 40 0) ∧ ((((1 : Int) < 0 ∨ 3 < (1 : Int) ∨ x1 < 0 ∨ 3 < x1) ∨ (x2 < 0 ∨ 40 < x2) ∨ ¬ (1 : Int) = 2) → ∀ i, Z' 49 i = Z 49 i) ∧ (¬ ((1 : Int) < 0 ∨ 3 < (1 : Int) ∨ x1 < 0 ∨ 3 < x1) → ¬ (x2 < 0 ∨ 40 < x2) → (1 : Int) = 2 → FLL Z' 49 40 0) ∧ ((((1 : Int) < 0 ∨ 3 < (1 : Int) ∨ x1 < 0 ∨ 3 < x1) ∨ (x2 < 0 ∨ 40 < x2) ∨ ¬ (1 : Int) = 3) → ∀ i, Z' 51 i = Z 51 i) ∧ (¬ ((1 : Int) < 0 ∨ 3 < (1 : Int) ∨ x1 < 0 ∨ 3 < x1) → ¬ (x2 < 0 ∨ 40 < x2) → (1 : Int) = 3 → FLL Z' 51 40 0) ∧ (-3) ≤ z ∧ z ≤ 0 ∧ (((((1 : Int) < 0 ∨ 3 < (1 : Int) ∨ x1 < 0 ∨ 3 < x1) → z = -2) ∧ (¬ ((1 : Int) < 0 ∨ 3 < (1 : Int) ∨ x1 < 0 ∨ 3 < x1) → (x2 < 0 ∨ 40 < x2) → z = -3) ∧ (¬ ((1 : Int) < 0 ∨ 3 < (1 : Int) ∨ x1 < 0 ∨ 3 < x1) → ¬ (x2 < 0 ∨ 40 < x2) → z = 0)) ∧ ((((1 : Int) < 0 ∨ 3 < (1 : Int) ∨ x1 < 0 ∨ 3 < x1) ∨ (x2 < 0 ∨ 40 < x2) ∨ ¬ (1 : Int) = 0) → Z' 44 1 = Z 44 1 ∧ Z' 44 2 = Z 44 2 ∧ Z' 44 3 = Z 44 3) ∧ (¬ ((1 : Int) < 0 ∨ 3 < (1 : Int) ∨ x1 < 0 ∨ 3 < x1) → ¬ (x2 < 0 ∨ 40 < x2) → (1 : Int) = 0 → Z' 44 1 = x1 ∧ Z' 44 2 = x2 ∧ Z' 44 3 = 0) ∧ ((((1 : Int) < 0 ∨ 3 < (1 : Int) ∨ x1 < 0 ∨ 3 < x1) ∨ (x2 < 0 ∨ 40 < x2) ∨ ¬ (1 : Int) = 1) → Z' 46 1 = Z 46 1 ∧ Z' 46 2 = Z 46 2 ∧ Z' 46 3 = Z 46 3) ∧ (¬ ((1 : Int) < 0 ∨ 3 < (1 : Int) ∨ x1 < 0 ∨ 3 < x1) → ¬ (x2 < 0 ∨ 40 < x2) → (1 : Int) = 1 → Z' 46 1 = x1 ∧ Z' 46 2 = x2 ∧ Z' 46 3 = 0) ∧ ((((1 : Int) < 0 ∨ 3 < (1 : Int) ∨ x1 < 0 ∨ 3 < x1) ∨ (x2 < 0 ∨ 40 < x2) ∨ ¬ (1 : Int) = 2) → Z' 48 1 = Z 48 1 ∧ Z' 48 2 = Z 48 2 ∧ Z' 48 3 = Z 48 3) ∧ (¬ ((1 : Int) < 0 ∨ 3 < (1 : Int) ∨ x1 < 0 ∨ 3 < x1) → ¬ (x2 < 0 ∨ 40 < x2) → (1 : Int) = 2 → Z' 48 1 = x1 ∧ Z' 48 2 = x2 ∧ Z' 48 3 = 0) ∧ ((((1 : Int) < 0 ∨ 3 < (1 : Int) ∨ x1 < 0 ∨ 3 < x1) ∨ (x2 < 0 ∨ 40 < x2) ∨ ¬ (1 : Int) = 3) → Z' 50 1 = Z 50 1 ∧ Z' 50 2 = Z 50 2 ∧ Z' 50 3 = Z 50 3) ∧ (¬ ((1 : Int) < 0 ∨ 3 < (1 : Int) ∨ x1 < 0 ∨ 3 < x1) → ¬ (x2 < 0 ∨ 40 < x2) → (1 : Int) = 3 → Z' 50 1 = x1 ∧ Z' 50 2 = x2 ∧ Z' 50 3 = 0)) → Post (some (xI z), h')) : mx_J (tB l D b0 ad Hb tau) mt_128 (d + 2) 0 [some (.ref 1), some (xI 1), some (xI x1), some (xI x2)] [] h Post := by
    have a1 : 1 < n := lt83 (GI_n hG) rfl
    have s1 : S 1 = .inl (11, [2, 0, 0, 0, 2, 2, 2, 2, 2, 2, 2, 2, 2, 2, 2, 2, 2]) := GI_s hG 1 rfl
    have a34 : 34 < n := lt83 (GI_n hG) rfl
    have s34 : S 34 = .inr ((.object "TitheHeap$Tray"), 4, 2) := GI_s hG 34 rfl
    have a46 : 46 < n := lt83 (GI_n hG) rfl
    have s46 : S 46 = .inl (10, [2, 0, 0, 0]) := GI_s hG 46 rfl
    refine mx_J.step (sn_128 0) (fun _ _ => rfl) ?_
    refine mx_J.step (sn_128 1) (fun _ _ => rfl) ?_
    obtain ⟨z1, hc1, b1⟩ := ct_144_1_y (d := d + 1) (l := l) (D := D) (b0 := b0) (ad := ad) (Hb := Hb) (tau := tau) hx hG (show 0 ≤ 1 ∧ 1 ≤ 3 by omega)
    refine Jcv hx (show mx_Sn _ _ 2 (mx_callv 144 2 11 5) from sn_128 2) a1 s1 hc1 rfl rfl rfl ?_
    have c17 : (1 < 0 ∨ 3 < 1 ∨ x1 < 0 ∨ 3 < x1) → mx_J (tB l D b0 ad Hb tau) mt_128 (d + 2) 17 [some (.ref 1), some (xI 1), some (xI x1), some (xI x2)] [] h Post := by
      intro f2_0
      refine JcI (z := (-2)) (show mx_Sn _ _ 17 (mx_const (.int (-2)) 19) from sn_128 17) rfl ?_
      have b3 : 0 ≤ Z 44 1 ∧ Z 44 1 ≤ 3 := hG.pr 44 1
      have b4 : 0 ≤ Z 44 2 ∧ Z 44 2 ≤ 40 := hG.pr 44 2
      have b5 : 0 ≤ Z 44 3 ∧ Z 44 3 ≤ 1 := hG.pr 44 3
      have b6 : 0 ≤ Z 46 1 ∧ Z 46 1 ≤ 3 := hG.pr 46 1
      have b7 : 0 ≤ Z 46 2 ∧ Z 46 2 ≤ 40 := hG.pr 46 2
      have b8 : 0 ≤ Z 46 3 ∧ Z 46 3 ≤ 1 := hG.pr 46 3
      have b9 : 0 ≤ Z 48 1 ∧ Z 48 1 ≤ 3 := hG.pr 48 1
      have b10 : 0 ≤ Z 48 2 ∧ Z 48 2 ≤ 40 := hG.pr 48 2
      have b11 : 0 ≤ Z 48 3 ∧ Z 48 3 ≤ 1 := hG.pr 48 3
      have b12 : 0 ≤ Z 50 1 ∧ Z 50 1 ≤ 3 := hG.pr 50 1
      have b13 : 0 ≤ Z 50 2 ∧ Z 50 2 ≤ 40 := hG.pr 50 2
      have b14 : 0 ≤ Z 50 3 ∧ Z 50 3 ≤ 1 := hG.pr 50 3
      exact mx_J.ret (sn_128 19) (fun _ _ => rfl) (hP (-2) Z h hx hG fr_rf ⟨(fun _ => (fun i => rfl)), (fun a _ _ => absurd (by omega) a), (fun _ => (fun i => rfl)), (fun a _ _ => absurd (by omega) a), (fun _ => (fun i => rfl)), (fun a _ _ => absurd (by omega) a), (fun _ => (fun i => rfl)), (fun a _ _ => absurd (by omega) a), by omega⟩)
    refine Jif_ne (show mx_Sn _ _ 5 (mx_if_ne 17 8) from sn_128 5) (by omega) (fun q15 => ?_) (fun q15 => ?_)
    · skip
      exact c17 (by omega)
    · skip
      refine mx_J.step (sn_128 8) (fun _ _ => rfl) ?_
      refine Jif_lt (show mx_Sn _ _ 9 (mx_if_lt 17 12) from sn_128 9) (by omega) (fun q16 => ?_) (fun q16 => ?_)
      · skip
        exact c17 (by omega)
      · skip
        refine mx_J.step (sn_128 12) (fun _ _ => rfl) ?_
        refine JcI (z := 3) (show mx_Sn _ _ 13 (mx_const (.int 3) 14) from sn_128 13) rfl ?_
        refine Jicmp_le (show mx_Sn _ _ 14 (mx_icmp_le 20 17) from sn_128 14) (by omega) (by omega) (fun q17 => ?_) (fun q17 => ?_)
        · skip
          refine mx_J.step (sn_128 20) (fun _ _ => rfl) ?_
          have c30 : (x2 < 0 ∨ 40 < x2) → mx_J (tB l D b0 ad Hb tau) mt_128 (d + 2) 30 [some (.ref 1), some (xI 1), some (xI x1), some (xI x2)] [] h Post := by
            intro f18_0
            refine JcI (z := (-3)) (show mx_Sn _ _ 30 (mx_const (.int (-3)) 32) from sn_128 30) rfl ?_
            have b19 : 0 ≤ Z 44 1 ∧ Z 44 1 ≤ 3 := hG.pr 44 1
            have b20 : 0 ≤ Z 44 2 ∧ Z 44 2 ≤ 40 := hG.pr 44 2
            have b21 : 0 ≤ Z 44 3 ∧ Z 44 3 ≤ 1 := hG.pr 44 3
            have b22 : 0 ≤ Z 46 1 ∧ Z 46 1 ≤ 3 := hG.pr 46 1
            have b23 : 0 ≤ Z 46 2 ∧ Z 46 2 ≤ 40 := hG.pr 46 2
            have b24 : 0 ≤ Z 46 3 ∧ Z 46 3 ≤ 1 := hG.pr 46 3
            have b25 : 0 ≤ Z 48 1 ∧ Z 48 1 ≤ 3 := hG.pr 48 1
            have b26 : 0 ≤ Z 48 2 ∧ Z 48 2 ≤ 40 := hG.pr 48 2
            have b27 : 0 ≤ Z 48 3 ∧ Z 48 3 ≤ 1 := hG.pr 48 3
            have b28 : 0 ≤ Z 50 1 ∧ Z 50 1 ≤ 3 := hG.pr 50 1
            have b29 : 0 ≤ Z 50 2 ∧ Z 50 2 ≤ 40 := hG.pr 50 2
            have b30 : 0 ≤ Z 50 3 ∧ Z 50 3 ≤ 1 := hG.pr 50 3
            exact mx_J.ret (sn_128 32) (fun _ _ => rfl) (hP (-3) Z h hx hG fr_rf ⟨(fun _ => (fun i => rfl)), (fun _ b _ => absurd (by omega) b), (fun _ => (fun i => rfl)), (fun _ b _ => absurd (by omega) b), (fun _ => (fun i => rfl)), (fun _ b _ => absurd (by omega) b), (fun _ => (fun i => rfl)), (fun _ b _ => absurd (by omega) b), by omega⟩)
          refine Jif_lt (show mx_Sn _ _ 21 (mx_if_lt 30 24) from sn_128 21) (by omega) (fun q31 => ?_) (fun q31 => ?_)
          · skip
            exact c30 (by omega)
          · skip
            refine mx_J.step (sn_128 24) (fun _ _ => rfl) ?_
            refine JcI (z := 40) (show mx_Sn _ _ 25 (mx_const (.int 40) 27) from sn_128 25) rfl ?_
            refine Jicmp_le (show mx_Sn _ _ 27 (mx_icmp_le 33 30) from sn_128 27) (by omega) (by omega) (fun q32 => ?_) (fun q32 => ?_)
            · skip
              refine mx_J.step (sn_128 33) (fun _ _ => rfl) ?_
              refine JgetR (g := 10) (b := 34) hx (show mx_Sn _ _ 34 (mx_getf 11 10 37) from sn_128 34) a1 s1 rfl rfl (hG.prr 1 10 rfl) ?_
              refine mx_J.step (sn_128 37) (fun _ _ => rfl) ?_
              refine JaaldR (i := 1) (b := 46) hx (show mx_Sn _ _ 38 (mx_aald 39) from sn_128 38) a34 s34 (by omega) (show Z 34 1 = 46 by have hq := GI_ex hG 34 1; replace hq : ((0 : Int) ≤ 1 → (1 : Int) ≤ 3 → (Z 34 1) = 44 + 2 * 1) := hq; omega) ?_
              refine mx_J.step (sn_128 39) (fun _ _ => rfl) ?_
              refine mx_J.step (sn_128 40) (fun _ _ => rfl) ?_
              obtain ⟨Z34, h34, hc34, hx34, hG34, hf34, b34⟩ := ct_83_46 (d := d + 0) (l := l) (D := D) (b0 := b0) (ad := ad) (Hb := Hb) (tau := tau) hx hG (show 0 ≤ x1 ∧ x1 ≤ 3 by omega) (show 0 ≤ x2 ∧ x2 ≤ 40 by omega)
              obtain ⟨bs34_0, b34⟩ := b34
              have b35 : 0 ≤ Z34 46 1 ∧ Z34 46 1 ≤ 3 := hG34.pr 46 1
              have b36 : 0 ≤ Z34 46 2 ∧ Z34 46 2 ≤ 40 := hG34.pr 46 2
              have b37 : 0 ≤ Z34 46 3 ∧ Z34 46 3 ≤ 1 := hG34.pr 46 3
              refine Jcv0 hx (show mx_Sn _ _ 41 (mx_callv 83 3 10 44) from sn_128 41) a46 s46 hc34 rfl rfl rfl ?_
              refine JcI (z := 0) (show mx_Sn _ _ 44 (mx_const (.int 0) 45) from sn_128 44) rfl ?_
              have eq38 : Z34 44 1 = Z 44 1 := (hf34 44 1 rfl)
              have b39 : 0 ≤ Z 44 1 ∧ Z 44 1 ≤ 3 := hG.pr 44 1
              have eq40 : Z34 44 2 = Z 44 2 := (hf34 44 2 rfl)
              have b41 : 0 ≤ Z 44 2 ∧ Z 44 2 ≤ 40 := hG.pr 44 2
              have eq42 : Z34 44 3 = Z 44 3 := (hf34 44 3 rfl)
              have b43 : 0 ≤ Z 44 3 ∧ Z 44 3 ≤ 1 := hG.pr 44 3
              have eq44 : Z34 48 1 = Z 48 1 := (hf34 48 1 rfl)
              have b45 : 0 ≤ Z 48 1 ∧ Z 48 1 ≤ 3 := hG.pr 48 1
              have eq46 : Z34 48 2 = Z 48 2 := (hf34 48 2 rfl)
              have b47 : 0 ≤ Z 48 2 ∧ Z 48 2 ≤ 40 := hG.pr 48 2
              have eq48 : Z34 48 3 = Z 48 3 := (hf34 48 3 rfl)
              have b49 : 0 ≤ Z 48 3 ∧ Z 48 3 ≤ 1 := hG.pr 48 3
              have eq50 : Z34 50 1 = Z 50 1 := (hf34 50 1 rfl)
              have b51 : 0 ≤ Z 50 1 ∧ Z 50 1 ≤ 3 := hG.pr 50 1
              have eq52 : Z34 50 2 = Z 50 2 := (hf34 50 2 rfl)
              have b53 : 0 ≤ Z 50 2 ∧ Z 50 2 ≤ 40 := hG.pr 50 2
              have eq54 : Z34 50 3 = Z 50 3 := (hf34 50 3 rfl)
              have b55 : 0 ≤ Z 50 3 ∧ Z 50 3 ≤ 1 := hG.pr 50 3
              have eq56 : Z34 44 1 = Z 44 1 := (hf34 44 1 rfl)
              have eq57 : Z34 44 2 = Z 44 2 := (hf34 44 2 rfl)
              have eq58 : Z34 44 3 = Z 44 3 := (hf34 44 3 rfl)
              have eq59 : Z34 48 1 = Z 48 1 := (hf34 48 1 rfl)
              have eq60 : Z34 48 2 = Z 48 2 := (hf34 48 2 rfl)
              have eq61 : Z34 48 3 = Z 48 3 := (hf34 48 3 rfl)
              have eq62 : Z34 50 1 = Z 50 1 := (hf34 50 1 rfl)
              have eq63 : Z34 50 2 = Z 50 2 := (hf34 50 2 rfl)
              have eq64 : Z34 50 3 = Z 50 3 := (hf34 50 3 rfl)
              exact mx_J.ret (sn_128 45) (fun _ _ => rfl) (hP 0 Z34 h34 hx34 hG34 (fr_tr (M := [(46, 1), (46, 2), (46, 3), (47, (-1))]) fr_rf (hf34) (M1 := []) rfl rfl) ⟨(fun _ => (fun i => (hf34 45 i rfl))), (fun _ _ q => absurd q (by decide)), (fun q => absurd q (by omega)), (fun _ _ _ => (by assumption)), (fun _ => (fun i => (hf34 49 i rfl))), (fun _ _ q => absurd q (by decide)), (fun _ => (fun i => (hf34 51 i rfl))), (fun _ _ q => absurd q (by decide)), by omega⟩)
            · skip
              exact c30 (by omega)
        · skip
          exact c17 (by omega)
theorem ct_128_1_i1 {l : Launch} {D : va_G} {b0 : Nat} {ad : Nat → Nat} {Hb : Heap} {tau : Nat → Int64} {d n s : Nat} {S : Nat → xS} {Z : xZ} {h : mx_H} (hx : XH n s S Z h) (hG : GI n S Z)  {x1 x2 : Int} (p1 : (-2147483648) ≤ x1 ∧ x1 ≤ 2147483647) (p2 : (-2147483648) ≤ x2 ∧ x2 ≤ 2147483647) : ∃ (z : Int) (Z' : xZ) (h' : mx_H), mx_Ca (tB l D b0 ad Hb tau) (d + 3) 128 [.ref 1, xI 1, xI x1, xI x2] h (some (xI z), h') ∧ XH n s S Z' h' ∧ GI n S Z' ∧ fr' [(46, 1), (46, 2), (46, 3), (47, (-1))] Z Z' ∧ (((((1 : Int) < 0 ∨ 3 < (1 : Int) ∨ x1 < 0 ∨ 3 < x1) ∨ (x2 < 0 ∨ 40 < x2) ∨ ¬ (1 : Int) = 0) → ∀ i, Z' 45 i = Z 45 i) ∧ (¬ ((1 : Int) < 0 ∨ 3 < (1 : Int) ∨ x1 < 0 ∨ 3 < x1) → ¬ (x2 < 0 ∨ 40 < x2) → (1 : Int) = 0 → FLL Z' 45 40 0) ∧ ((((1 : Int) < 0 ∨ 3 < (1 : Int) ∨ x1 < 0 ∨ 3 < x1) ∨ (x2 < 0 ∨ 40 < x2) ∨ ¬ (1 : Int) = 1) → ∀ i, Z' 47 i = Z 47 i) ∧ (¬ ((1 : Int) < 0 ∨ 3 < (1 : Int) ∨ x1 < 0 ∨ 3 < x1) → ¬ (x2 < 0 ∨ 40 < x2) → (1 : Int) = 1 → FLL Z' 47 40 0) ∧ ((((1 : Int) < 0 ∨ 3 < (1 : Int) ∨ x1 < 0 ∨ 3 < x1) ∨ (x2 < 0 ∨ 40 < x2) ∨ ¬ (1 : Int) = 2) → ∀ i, Z' 49 i = Z 49 i) ∧ (¬ ((1 : Int) < 0 ∨ 3 < (1 : Int) ∨ x1 < 0 ∨ 3 < x1) → ¬ (x2 < 0 ∨ 40 < x2) → (1 : Int) = 2 → FLL Z' 49 40 0) ∧ ((((1 : Int) < 0 ∨ 3 < (1 : Int) ∨ x1 < 0 ∨ 3 < x1) ∨ (x2 < 0 ∨ 40 < x2) ∨ ¬ (1 : Int) = 3) → ∀ i, Z' 51 i = Z 51 i) ∧ (¬ ((1 : Int) < 0 ∨ 3 < (1 : Int) ∨ x1 < 0 ∨ 3 < x1) → ¬ (x2 < 0 ∨ 40 < x2) → (1 : Int) = 3 → FLL Z' 51 40 0) ∧ (-3) ≤ z ∧ z ≤ 0 ∧ (((((1 : Int) < 0 ∨ 3 < (1 : Int) ∨ x1 < 0 ∨ 3 < x1) → z = -2) ∧ (¬ ((1 : Int) < 0 ∨ 3 < (1 : Int) ∨ x1 < 0 ∨ 3 < x1) → (x2 < 0 ∨ 40 < x2) → z = -3) ∧ (¬ ((1 : Int) < 0 ∨ 3 < (1 : Int) ∨ x1 < 0 ∨ 3 < x1) → ¬ (x2 < 0 ∨ 40 < x2) → z = 0)) ∧ ((((1 : Int) < 0 ∨ 3 < (1 : Int) ∨ x1 < 0 ∨ 3 < x1) ∨ (x2 < 0 ∨ 40 < x2) ∨ ¬ (1 : Int) = 0) → Z' 44 1 = Z 44 1 ∧ Z' 44 2 = Z 44 2 ∧ Z' 44 3 = Z 44 3) ∧ (¬ ((1 : Int) < 0 ∨ 3 < (1 : Int) ∨ x1 < 0 ∨ 3 < x1) → ¬ (x2 < 0 ∨ 40 < x2) → (1 : Int) = 0 → Z' 44 1 = x1 ∧ Z' 44 2 = x2 ∧ Z' 44 3 = 0) ∧ ((((1 : Int) < 0 ∨ 3 < (1 : Int) ∨ x1 < 0 ∨ 3 < x1) ∨ (x2 < 0 ∨ 40 < x2) ∨ ¬ (1 : Int) = 1) → Z' 46 1 = Z 46 1 ∧ Z' 46 2 = Z 46 2 ∧ Z' 46 3 = Z 46 3) ∧ (¬ ((1 : Int) < 0 ∨ 3 < (1 : Int) ∨ x1 < 0 ∨ 3 < x1) → ¬ (x2 < 0 ∨ 40 < x2) → (1 : Int) = 1 → Z' 46 1 = x1 ∧ Z' 46 2 = x2 ∧ Z' 46 3 = 0) ∧ ((((1 : Int) < 0 ∨ 3 < (1 : Int) ∨ x1 < 0 ∨ 3 < x1) ∨ (x2 < 0 ∨ 40 < x2) ∨ ¬ (1 : Int) = 2) → Z' 48 1 = Z 48 1 ∧ Z' 48 2 = Z 48 2 ∧ Z' 48 3 = Z 48 3) ∧ (¬ ((1 : Int) < 0 ∨ 3 < (1 : Int) ∨ x1 < 0 ∨ 3 < x1) → ¬ (x2 < 0 ∨ 40 < x2) → (1 : Int) = 2 → Z' 48 1 = x1 ∧ Z' 48 2 = x2 ∧ Z' 48 3 = 0) ∧ ((((1 : Int) < 0 ∨ 3 < (1 : Int) ∨ x1 < 0 ∨ 3 < x1) ∨ (x2 < 0 ∨ 40 < x2) ∨ ¬ (1 : Int) = 3) → Z' 50 1 = Z 50 1 ∧ Z' 50 2 = Z 50 2 ∧ Z' 50 3 = Z 50 3) ∧ (¬ ((1 : Int) < 0 ∨ 3 < (1 : Int) ∨ x1 < 0 ∨ 3 < x1) → ¬ (x2 < 0 ∨ 40 < x2) → (1 : Int) = 3 → Z' 50 1 = x1 ∧ Z' 50 2 = x2 ∧ Z' 50 3 = 0))) := by
  obtain ⟨r, hca, z, Z', h', e, q⟩ := Jmt (B := tB l D b0 ad Hb tau) (M := mt_128) (mi := 128) (as := [.ref 1, xI 1, xI x1, xI x2]) (d := d + 2) (ls := [some (.ref 1), some (xI 1), some (xI x1), some (xI x2)]) rfl rfl rfl rfl rfl rfl (cw_128_1_i1 (l := l) (D := D) (b0 := b0) (ad := ad) (Hb := Hb) (tau := tau) (d := d) (Post := fun r => ∃ (z : Int) (Z' : xZ) (h' : mx_H), r = (some (xI z), h') ∧ XH n s S Z' h' ∧ GI n S Z' ∧ fr' [(46, 1), (46, 2), (46, 3), (47, (-1))] Z Z' ∧ (((((1 : Int) < 0 ∨ 3 < (1 : Int) ∨ x1 < 0 ∨ 3 < x1) ∨ (x2 < 0 ∨ 40 < x2) ∨ ¬ (1 : Int) = 0) → ∀ i, Z' 45 i = Z 45 i) ∧ (¬ ((1 : Int) < 0 ∨ 3 < (1 : Int) ∨ x1 < 0 ∨ 3 < x1) → ¬ (x2 < 0 ∨ 40 < x2) → (1 : Int) = 0 → FLL Z' 45 40 0) ∧ ((((1 : Int) < 0 ∨ 3 < (1 : Int) ∨ x1 < 0 ∨ 3 < x1) ∨ (x2 < 0 ∨ 40 < x2) ∨ ¬ (1 : Int) = 1) → ∀ i, Z' 47 i = Z 47 i) ∧ (¬ ((1 : Int) < 0 ∨ 3 < (1 : Int) ∨ x1 < 0 ∨ 3 < x1) → ¬ (x2 < 0 ∨ 40 < x2) → (1 : Int) = 1 → FLL Z' 47 40 0) ∧ ((((1 : Int) < 0 ∨ 3 < (1 : Int) ∨ x1 < 0 ∨ 3 < x1) ∨ (x2 < 0 ∨ 40 < x2) ∨ ¬ (1 : Int) = 2) → ∀ i, Z' 49 i = Z 49 i) ∧ (¬ ((1 : Int) < 0 ∨ 3 < (1 : Int) ∨ x1 < 0 ∨ 3 < x1) → ¬ (x2 < 0 ∨ 40 < x2) → (1 : Int) = 2 → FLL Z' 49 40 0) ∧ ((((1 : Int) < 0 ∨ 3 < (1 : Int) ∨ x1 < 0 ∨ 3 < x1) ∨ (x2 < 0 ∨ 40 < x2) ∨ ¬ (1 : Int) = 3) → ∀ i, Z' 51 i = Z 51 i) ∧ (¬ ((1 : Int) < 0 ∨ 3 < (1 : Int) ∨ x1 < 0 ∨ 3 < x1) → ¬ (x2 < 0 ∨ 40 < x2) → (1 : Int) = 3 → FLL Z' 51 40 0) ∧ (-3) ≤ z ∧ z ≤ 0 ∧ (((((1 : Int) < 0 ∨ 3 < (1 : Int) ∨ x1 < 0 ∨ 3 < x1) → z = -2) ∧ (¬ ((1 : Int) < 0 ∨ 3 < (1 : Int) ∨ x1 < 0 ∨ 3 < x1) → (x2 < 0 ∨ 40 < x2) → z = -3) ∧ (¬ ((1 : Int) < 0 ∨ 3 < (1 : Int) ∨ x1 < 0 ∨ 3 < x1) → ¬ (x2 < 0 ∨ 40 < x2) → z = 0)) ∧ ((((1 : Int) < 0 ∨ 3 < (1 : Int) ∨ x1 < 0 ∨ 3 < x1) ∨ (x2 < 0 ∨ 40 < x2) ∨ ¬ (1 : Int) = 0) → Z' 44 1 = Z 44 1 ∧ Z' 44 2 = Z 44 2 ∧ Z' 44 3 = Z 44 3) ∧ (¬ ((1 : Int) < 0 ∨ 3 < (1 : Int) ∨ x1 < 0 ∨ 3 < x1) → ¬ (x2 < 0 ∨ 40 < x2) → (1 : Int) = 0 → Z' 44 1 = x1 ∧ Z' 44 2 = x2 ∧ Z' 44 3 = 0) ∧ ((((1 : Int) < 0 ∨ 3 < (1 : Int) ∨ x1 < 0 ∨ 3 < x1) ∨ (x2 < 0 ∨ 40 < x2) ∨ ¬ (1 : Int) = 1) → Z' 46 1 = Z 46 1 ∧ Z' 46 2 = Z 46 2 ∧ Z' 46 3 = Z 46 3) ∧ (¬ ((1 : Int) < 0 ∨ 3 < (1 : Int) ∨ x1 < 0 ∨ 3 < x1) → ¬ (x2 < 0 ∨ 40 < x2) → (1 : Int) = 1 → Z' 46 1 = x1 ∧ Z' 46 2 = x2 ∧ Z' 46 3 = 0) ∧ ((((1 : Int) < 0 ∨ 3 < (1 : Int) ∨ x1 < 0 ∨ 3 < x1) ∨ (x2 < 0 ∨ 40 < x2) ∨ ¬ (1 : Int) = 2) → Z' 48 1 = Z 48 1 ∧ Z' 48 2 = Z 48 2 ∧ Z' 48 3 = Z 48 3) ∧ (¬ ((1 : Int) < 0 ∨ 3 < (1 : Int) ∨ x1 < 0 ∨ 3 < x1) → ¬ (x2 < 0 ∨ 40 < x2) → (1 : Int) = 2 → Z' 48 1 = x1 ∧ Z' 48 2 = x2 ∧ Z' 48 3 = 0) ∧ ((((1 : Int) < 0 ∨ 3 < (1 : Int) ∨ x1 < 0 ∨ 3 < x1) ∨ (x2 < 0 ∨ 40 < x2) ∨ ¬ (1 : Int) = 3) → Z' 50 1 = Z 50 1 ∧ Z' 50 2 = Z 50 2 ∧ Z' 50 3 = Z 50 3) ∧ (¬ ((1 : Int) < 0 ∨ 3 < (1 : Int) ∨ x1 < 0 ∨ 3 < x1) → ¬ (x2 < 0 ∨ 40 < x2) → (1 : Int) = 3 → Z' 50 1 = x1 ∧ Z' 50 2 = x2 ∧ Z' 50 3 = 0)))) hx hG p1 p2 (fun z Z' h' q1 q2 q3 q4 => ⟨z, Z', h', rfl, q1, q2, q3, q4⟩))
  subst e; exact ⟨z, Z', h', hca, q⟩
set_option maxRecDepth 100000 in
theorem cw_128_1_i2 {l : Launch} {D : va_G} {b0 : Nat} {ad : Nat → Nat} {Hb : Heap} {tau : Nat → Int64} {d n s : Nat} {S : Nat → xS} {Z : xZ} {h : mx_H} {Post : mx_R → Prop} (hx : XH n s S Z h) (hG : GI n S Z)  {x1 x2 : Int} (p1 : (-2147483648) ≤ x1 ∧ x1 ≤ 2147483647) (p2 : (-2147483648) ≤ x2 ∧ x2 ≤ 2147483647) (hP : ∀ (z : Int) (Z' : xZ) (h' : mx_H), XH n s S Z' h' → GI n S Z' → fr' [(48, 1), (48, 2), (48, 3), (49, (-1))] Z Z' → ((((2 : Int) < 0 ∨ 3 < (2 : Int) ∨ x1 < 0 ∨ 3 < x1) ∨ (x2 < 0 ∨ 40 < x2) ∨ ¬ (2 : Int) = 0) → ∀ i, Z' 45 i = Z 45 i) ∧ (¬ ((2 : Int) < 0 ∨ 3 < (2 : Int) ∨ x1 < 0 ∨ 3 < x1) → ¬ (x2 < 0 ∨ 40 < x2) → (2 : Int) = 0 → FLL Z' 45 40 0) ∧ ((((2 : Int) < 0 ∨ 3 < (2 : Int) ∨ x1 < 0 ∨ 3 < x1) ∨ (x2 < 0 ∨ 40 < x2) ∨ ¬ (2 : Int) = 1) → ∀ i, Z' 47 i = Z 47 i) ∧ (¬ ((2 : Int) < 0 ∨ 3 < (2 : Int) ∨ x1 < 0 ∨ 3 < x1) → ¬ (x2 < 0 ∨ 40 < x2) → (2 : Int) = 1 → FLL Z' 47 40 0) ∧ ((((2 : Int) < 0 ∨ 3 < (2 : Int) ∨ x1 < 0 ∨ 3 < x1) ∨ (x2 < 0 ∨ 40 < x2) ∨ ¬ (2 : Int) = 2) → ∀ i, Z' 49 i = Z 49 i) ∧ (¬ ((2 : Int) < 0 ∨ 3 < (2 : Int) ∨ x1 < 0 ∨ 3 < x1) → ¬ (x2 < 0 ∨ 40 < x2) → (2 : Int) = 2 → FLL Z' 49 40 0) ∧ ((((2 : Int) < 0 ∨ 3 < (2 : Int) ∨ x1 < 0 ∨ 3 < x1) ∨ (x2 < 0 ∨ 40 < x2) ∨ ¬ (2 : Int) = 3) → ∀ i, Z' 51 i = Z 51 i) ∧ (¬ ((2 : Int) < 0 ∨ 3 < (2 : Int) ∨ x1 < 0 ∨ 3 < x1) → ¬ (x2 < 0 ∨ 40 < x2) → (2 : Int) = 3 → FLL Z' 51 40 0) ∧ (-3) ≤ z ∧ z ≤ 0 ∧ (((((2 : Int) < 0 ∨ 3 < (2 : Int) ∨ x1 < 0 ∨ 3 < x1) → z = -2) ∧ (¬ ((2 : Int) < 0 ∨ 3 < (2 : Int) ∨ x1 < 0 ∨ 3 < x1) → (x2 < 0 ∨ 40 < x2) → z = -3) ∧ (¬ ((2 : Int) < 0 ∨ 3 < (2 : Int) ∨ x1 < 0 ∨ 3 < x1) → ¬ (x2 < 0 ∨ 40 < x2) → z = 0)) ∧ ((((2 : Int) < 0 ∨ 3 < (2 : Int) ∨ x1 < 0 ∨ 3 < x1) ∨ (x2 < 0 ∨ 40 < x2) ∨ ¬ (2 : Int) = 0) → Z' 44 1 = Z 44 1 ∧ Z' 44 2 = Z 44 2 ∧ Z' 44 3 = Z 44 3) ∧ (¬ ((2 : Int) < 0 ∨ 3 < (2 : Int) ∨ x1 < 0 ∨ 3 < x1) → ¬ (x2 < 0 ∨ 40 < x2) → (2 : Int) = 0 → Z' 44 1 = x1 ∧ Z' 44 2 = x2 ∧ Z' 44 3 = 0) ∧ ((((2 : Int) < 0 ∨ 3 < (2 : Int) ∨ x1 < 0 ∨ 3 < x1) ∨ (x2 < 0 ∨ 40 < x2) ∨ ¬ (2 : Int) = 1) → Z' 46 1 = Z 46 1 ∧ Z' 46 2 = Z 46 2 ∧ Z' 46 3 = Z 46 3) ∧ (¬ ((2 : Int) < 0 ∨ 3 < (2 : Int) ∨ x1 < 0 ∨ 3 < x1) → ¬ (x2 < 0 ∨ 40 < x2) → (2 : Int) = 1 → Z' 46 1 = x1 ∧ Z' 46 2 = x2 ∧ Z' 46 3 = 0) ∧ ((((2 : Int) < 0 ∨ 3 < (2 : Int) ∨ x1 < 0 ∨ 3 < x1) ∨ (x2 < 0 ∨ 40 < x2) ∨ ¬ (2 : Int) = 2) → Z' 48 1 = Z 48 1 ∧ Z' 48 2 = Z 48 2 ∧ Z' 48 3 = Z 48 3) ∧ (¬ ((2 : Int) < 0 ∨ 3 < (2 : Int) ∨ x1 < 0 ∨ 3 < x1) → ¬ (x2 < 0 ∨ 40 < x2) → (2 : Int) = 2 → Z' 48 1 = x1 ∧ Z' 48 2 = x2 ∧ Z' 48 3 = 0) ∧ ((((2 : Int) < 0 ∨ 3 < (2 : Int) ∨ x1 < 0 ∨ 3 < x1) ∨ (x2 < 0 ∨ 40 < x2) ∨ ¬ (2 : Int) = 3) → Z' 50 1 = Z 50 1 ∧ Z' 50 2 = Z 50 2 ∧ Z' 50 3 = Z 50 3) ∧ (¬ ((2 : Int) < 0 ∨ 3 < (2 : Int) ∨ x1 < 0 ∨ 3 < x1) → ¬ (x2 < 0 ∨ 40 < x2) → (2 : Int) = 3 → Z' 50 1 = x1 ∧ Z' 50 2 = x2 ∧ Z' 50 3 = 0)) → Post (some (xI z), h')) : mx_J (tB l D b0 ad Hb tau) mt_128 (d + 2) 0 [some (.ref 1), some (xI 2), some (xI x1), some (xI x2)] [] h Post := by
    have a1 : 1 < n := lt83 (GI_n hG) rfl
    have s1 : S 1 = .inl (11, [2, 0, 0, 0, 2, 2, 2, 2, 2, 2, 2, 2, 2, 2, 2, 2, 2]) := GI_s hG 1 rfl
    have a34 : 34 < n := lt83 (GI_n hG) rfl
    have s34 : S 34 = .inr ((.object "TitheHeap$Tray"), 4, 2) := GI_s hG 34 rfl
    have a48 : 48 < n := lt83 (GI_n hG) rfl
    have s48 : S 48 = .inl (10, [2, 0, 0, 0]) := GI_s hG 48 rfl
    refine mx_J.step (sn_128 0) (fun _ _ => rfl) ?_
    refine mx_J.step (sn_128 1) (fun _ _ => rfl) ?_
    obtain ⟨z1, hc1, b1⟩ := ct_144_1_y (d := d + 1) (l := l) (D := D) (b0 := b0) (ad := ad) (Hb := Hb) (tau := tau) hx hG (show 0 ≤ 2 ∧ 2 ≤ 3 by omega)
    refine Jcv hx (show mx_Sn _ _ 2 (mx_callv 144 2 11 5) from sn_128 2) a1 s1 hc1 rfl rfl rfl ?_
    have c17 : (2 < 0 ∨ 3 < 2 ∨ x1 < 0 ∨ 3 < x1) → mx_J (tB l D b0 ad Hb tau) mt_128 (d + 2) 17 [some (.ref 1), some (xI 2), some (xI x1), some (xI x2)] [] h Post := by
      intro f2_0
      refine JcI (z := (-2)) (show mx_Sn _ _ 17 (mx_const (.int (-2)) 19) from sn_128 17) rfl ?_
      have b3 : 0 ≤ Z 44 1 ∧ Z 44 1 ≤ 3 := hG.pr 44 1
      have b4 : 0 ≤ Z 44 2 ∧ Z 44 2 ≤ 40 := hG.pr 44 2
      have b5 : 0 ≤ Z 44 3 ∧ Z 44 3 ≤ 1 := hG.pr 44 3
      have b6 : 0 ≤ Z 46 1 ∧ Z 46 1 ≤ 3 := hG.pr 46 1
      have b7 : 0 ≤ Z 46 2 ∧ Z 46 2 ≤ 40 := hG.pr 46 2
      have b8 : 0 ≤ Z 46 3 ∧ Z 46 3 ≤ 1 := hG.pr 46 3
      have b9 : 0 ≤ Z 48 1 ∧ Z 48 1 ≤ 3 := hG.pr 48 1
      have b10 : 0 ≤ Z 48 2 ∧ Z 48 2 ≤ 40 := hG.pr 48 2
      have b11 : 0 ≤ Z 48 3 ∧ Z 48 3 ≤ 1 := hG.pr 48 3
      have b12 : 0 ≤ Z 50 1 ∧ Z 50 1 ≤ 3 := hG.pr 50 1
      have b13 : 0 ≤ Z 50 2 ∧ Z 50 2 ≤ 40 := hG.pr 50 2
      have b14 : 0 ≤ Z 50 3 ∧ Z 50 3 ≤ 1 := hG.pr 50 3
      exact mx_J.ret (sn_128 19) (fun _ _ => rfl) (hP (-2) Z h hx hG fr_rf ⟨(fun _ => (fun i => rfl)), (fun a _ _ => absurd (by omega) a), (fun _ => (fun i => rfl)), (fun a _ _ => absurd (by omega) a), (fun _ => (fun i => rfl)), (fun a _ _ => absurd (by omega) a), (fun _ => (fun i => rfl)), (fun a _ _ => absurd (by omega) a), by omega⟩)
    refine Jif_ne (show mx_Sn _ _ 5 (mx_if_ne 17 8) from sn_128 5) (by omega) (fun q15 => ?_) (fun q15 => ?_)
    · skip
      exact c17 (by omega)
    · skip
      refine mx_J.step (sn_128 8) (fun _ _ => rfl) ?_
      refine Jif_lt (show mx_Sn _ _ 9 (mx_if_lt 17 12) from sn_128 9) (by omega) (fun q16 => ?_) (fun q16 => ?_)
      · skip
        exact c17 (by omega)
      · skip
        refine mx_J.step (sn_128 12) (fun _ _ => rfl) ?_
        refine JcI (z := 3) (show mx_Sn _ _ 13 (mx_const (.int 3) 14) from sn_128 13) rfl ?_
        refine Jicmp_le (show mx_Sn _ _ 14 (mx_icmp_le 20 17) from sn_128 14) (by omega) (by omega) (fun q17 => ?_) (fun q17 => ?_)
        · skip
          refine mx_J.step (sn_128 20) (fun _ _ => rfl) ?_
          have c30 : (x2 < 0 ∨ 40 < x2) → mx_J (tB l D b0 ad Hb tau) mt_128 (d + 2) 30 [some (.ref 1), some (xI 2), some (xI x1), some (xI x2)] [] h Post := by
            intro f18_0
            refine JcI (z := (-3)) (show mx_Sn _ _ 30 (mx_const (.int (-3)) 32) from sn_128 30) rfl ?_
            have b19 : 0 ≤ Z 44 1 ∧ Z 44 1 ≤ 3 := hG.pr 44 1
            have b20 : 0 ≤ Z 44 2 ∧ Z 44 2 ≤ 40 := hG.pr 44 2
            have b21 : 0 ≤ Z 44 3 ∧ Z 44 3 ≤ 1 := hG.pr 44 3
            have b22 : 0 ≤ Z 46 1 ∧ Z 46 1 ≤ 3 := hG.pr 46 1
            have b23 : 0 ≤ Z 46 2 ∧ Z 46 2 ≤ 40 := hG.pr 46 2
            have b24 : 0 ≤ Z 46 3 ∧ Z 46 3 ≤ 1 := hG.pr 46 3
            have b25 : 0 ≤ Z 48 1 ∧ Z 48 1 ≤ 3 := hG.pr 48 1
            have b26 : 0 ≤ Z 48 2 ∧ Z 48 2 ≤ 40 := hG.pr 48 2
            have b27 : 0 ≤ Z 48 3 ∧ Z 48 3 ≤ 1 := hG.pr 48 3
            have b28 : 0 ≤ Z 50 1 ∧ Z 50 1 ≤ 3 := hG.pr 50 1
            have b29 : 0 ≤ Z 50 2 ∧ Z 50 2 ≤ 40 := hG.pr 50 2
            have b30 : 0 ≤ Z 50 3 ∧ Z 50 3 ≤ 1 := hG.pr 50 3
            exact mx_J.ret (sn_128 32) (fun _ _ => rfl) (hP (-3) Z h hx hG fr_rf ⟨(fun _ => (fun i => rfl)), (fun _ b _ => absurd (by omega) b), (fun _ => (fun i => rfl)), (fun _ b _ => absurd (by omega) b), (fun _ => (fun i => rfl)), (fun _ b _ => absurd (by omega) b), (fun _ => (fun i => rfl)), (fun _ b _ => absurd (by omega) b), by omega⟩)
          refine Jif_lt (show mx_Sn _ _ 21 (mx_if_lt 30 24) from sn_128 21) (by omega) (fun q31 => ?_) (fun q31 => ?_)
          · skip
            exact c30 (by omega)
          · skip
            refine mx_J.step (sn_128 24) (fun _ _ => rfl) ?_
            refine JcI (z := 40) (show mx_Sn _ _ 25 (mx_const (.int 40) 27) from sn_128 25) rfl ?_
            refine Jicmp_le (show mx_Sn _ _ 27 (mx_icmp_le 33 30) from sn_128 27) (by omega) (by omega) (fun q32 => ?_) (fun q32 => ?_)
            · skip
              refine mx_J.step (sn_128 33) (fun _ _ => rfl) ?_
              refine JgetR (g := 10) (b := 34) hx (show mx_Sn _ _ 34 (mx_getf 11 10 37) from sn_128 34) a1 s1 rfl rfl (hG.prr 1 10 rfl) ?_
              refine mx_J.step (sn_128 37) (fun _ _ => rfl) ?_
              refine JaaldR (i := 2) (b := 48) hx (show mx_Sn _ _ 38 (mx_aald 39) from sn_128 38) a34 s34 (by omega) (show Z 34 2 = 48 by have hq := GI_ex hG 34 2; replace hq : ((0 : Int) ≤ 2 → (2 : Int) ≤ 3 → (Z 34 2) = 44 + 2 * 2) := hq; omega) ?_
              refine mx_J.step (sn_128 39) (fun _ _ => rfl) ?_
              refine mx_J.step (sn_128 40) (fun _ _ => rfl) ?_
              obtain ⟨Z34, h34, hc34, hx34, hG34, hf34, b34⟩ := ct_83_48 (d := d + 0) (l := l) (D := D) (b0 := b0) (ad := ad) (Hb := Hb) (tau := tau) hx hG (show 0 ≤ x1 ∧ x1 ≤ 3 by omega) (show 0 ≤ x2 ∧ x2 ≤ 40 by omega)
              obtain ⟨bs34_0, b34⟩ := b34
              have b35 : 0 ≤ Z34 48 1 ∧ Z34 48 1 ≤ 3 := hG34.pr 48 1
              have b36 : 0 ≤ Z34 48 2 ∧ Z34 48 2 ≤ 40 := hG34.pr 48 2
              have b37 : 0 ≤ Z34 48 3 ∧ Z34 48 3 ≤ 1 := hG34.pr 48 3
              refine Jcv0 hx (show mx_Sn _ _ 41 (mx_callv 83 3 10 44) from sn_128 41) a48 s48 hc34 rfl rfl rfl ?_
              refine JcI (z := 0) (show mx_Sn _ _ 44 (mx_const (.int 0) 45) from sn_128 44) rfl ?_
              have eq38 : Z34 44 1 = Z 44 1 := (hf34 44 1 rfl)
              have b39 : 0 ≤ Z 44 1 ∧ Z 44 1 ≤ 3 := hG.pr 44 1
              have eq40 : Z34 44 2 = Z 44 2 := (hf34 44 2 rfl)
              have b41 : 0 ≤ Z 44 2 ∧ Z 44 2 ≤ 40 := hG.pr 44 2
              have eq42 : Z34 44 3 = Z 44 3 := (hf34 44 3 rfl)
              have b43 : 0 ≤ Z 44 3 ∧ Z 44 3 ≤ 1 := hG.pr 44 3
              have eq44 : Z34 46 1 = Z 46 1 := (hf34 46 1 rfl)
              have b45 : 0 ≤ Z 46 1 ∧ Z 46 1 ≤ 3 := hG.pr 46 1
              have eq46 : Z34 46 2 = Z 46 2 := (hf34 46 2 rfl)
              have b47 : 0 ≤ Z 46 2 ∧ Z 46 2 ≤ 40 := hG.pr 46 2
              have eq48 : Z34 46 3 = Z 46 3 := (hf34 46 3 rfl)
              have b49 : 0 ≤ Z 46 3 ∧ Z 46 3 ≤ 1 := hG.pr 46 3
              have eq50 : Z34 50 1 = Z 50 1 := (hf34 50 1 rfl)
              have b51 : 0 ≤ Z 50 1 ∧ Z 50 1 ≤ 3 := hG.pr 50 1
              have eq52 : Z34 50 2 = Z 50 2 := (hf34 50 2 rfl)
              have b53 : 0 ≤ Z 50 2 ∧ Z 50 2 ≤ 40 := hG.pr 50 2
              have eq54 : Z34 50 3 = Z 50 3 := (hf34 50 3 rfl)
              have b55 : 0 ≤ Z 50 3 ∧ Z 50 3 ≤ 1 := hG.pr 50 3
              have eq56 : Z34 44 1 = Z 44 1 := (hf34 44 1 rfl)
              have eq57 : Z34 44 2 = Z 44 2 := (hf34 44 2 rfl)
              have eq58 : Z34 44 3 = Z 44 3 := (hf34 44 3 rfl)
              have eq59 : Z34 46 1 = Z 46 1 := (hf34 46 1 rfl)
              have eq60 : Z34 46 2 = Z 46 2 := (hf34 46 2 rfl)
              have eq61 : Z34 46 3 = Z 46 3 := (hf34 46 3 rfl)
              have eq62 : Z34 50 1 = Z 50 1 := (hf34 50 1 rfl)
              have eq63 : Z34 50 2 = Z 50 2 := (hf34 50 2 rfl)
              have eq64 : Z34 50 3 = Z 50 3 := (hf34 50 3 rfl)
              exact mx_J.ret (sn_128 45) (fun _ _ => rfl) (hP 0 Z34 h34 hx34 hG34 (fr_tr (M := [(48, 1), (48, 2), (48, 3), (49, (-1))]) fr_rf (hf34) (M1 := []) rfl rfl) ⟨(fun _ => (fun i => (hf34 45 i rfl))), (fun _ _ q => absurd q (by decide)), (fun _ => (fun i => (hf34 47 i rfl))), (fun _ _ q => absurd q (by decide)), (fun q => absurd q (by omega)), (fun _ _ _ => (by assumption)), (fun _ => (fun i => (hf34 51 i rfl))), (fun _ _ q => absurd q (by decide)), by omega⟩)
            · skip
              exact c30 (by omega)
        · skip
          exact c17 (by omega)
theorem ct_128_1_i2 {l : Launch} {D : va_G} {b0 : Nat} {ad : Nat → Nat} {Hb : Heap} {tau : Nat → Int64} {d n s : Nat} {S : Nat → xS} {Z : xZ} {h : mx_H} (hx : XH n s S Z h) (hG : GI n S Z)  {x1 x2 : Int} (p1 : (-2147483648) ≤ x1 ∧ x1 ≤ 2147483647) (p2 : (-2147483648) ≤ x2 ∧ x2 ≤ 2147483647) : ∃ (z : Int) (Z' : xZ) (h' : mx_H), mx_Ca (tB l D b0 ad Hb tau) (d + 3) 128 [.ref 1, xI 2, xI x1, xI x2] h (some (xI z), h') ∧ XH n s S Z' h' ∧ GI n S Z' ∧ fr' [(48, 1), (48, 2), (48, 3), (49, (-1))] Z Z' ∧ (((((2 : Int) < 0 ∨ 3 < (2 : Int) ∨ x1 < 0 ∨ 3 < x1) ∨ (x2 < 0 ∨ 40 < x2) ∨ ¬ (2 : Int) = 0) → ∀ i, Z' 45 i = Z 45 i) ∧ (¬ ((2 : Int) < 0 ∨ 3 < (2 : Int) ∨ x1 < 0 ∨ 3 < x1) → ¬ (x2 < 0 ∨ 40 < x2) → (2 : Int) = 0 → FLL Z' 45 40 0) ∧ ((((2 : Int) < 0 ∨ 3 < (2 : Int) ∨ x1 < 0 ∨ 3 < x1) ∨ (x2 < 0 ∨ 40 < x2) ∨ ¬ (2 : Int) = 1) → ∀ i, Z' 47 i = Z 47 i) ∧ (¬ ((2 : Int) < 0 ∨ 3 < (2 : Int) ∨ x1 < 0 ∨ 3 < x1) → ¬ (x2 < 0 ∨ 40 < x2) → (2 : Int) = 1 → FLL Z' 47 40 0) ∧ ((((2 : Int) < 0 ∨ 3 < (2 : Int) ∨ x1 < 0 ∨ 3 < x1) ∨ (x2 < 0 ∨ 40 < x2) ∨ ¬ (2 : Int) = 2) → ∀ i, Z' 49 i = Z 49 i) ∧ (¬ ((2 : Int) < 0 ∨ 3 < (2 : Int) ∨ x1 < 0 ∨ 3 < x1) → ¬ (x2 < 0 ∨ 40 < x2) → (2 : Int) = 2 → FLL Z' 49 40 0) ∧ ((((2 : Int) < 0 ∨ 3 < (2 : Int) ∨ x1 < 0 ∨ 3 < x1) ∨ (x2 < 0 ∨ 40 < x2) ∨ ¬ (2 : Int) = 3) → ∀ i, Z' 51 i = Z 51 i) ∧ (¬ ((2 : Int) < 0 ∨ 3 < (2 : Int) ∨ x1 < 0 ∨ 3 < x1) → ¬ (x2 < 0 ∨ 40 < x2) → (2 : Int) = 3 → FLL Z' 51 40 0) ∧ (-3) ≤ z ∧ z ≤ 0 ∧ (((((2 : Int) < 0 ∨ 3 < (2 : Int) ∨ x1 < 0 ∨ 3 < x1) → z = -2) ∧ (¬ ((2 : Int) < 0 ∨ 3 < (2 : Int) ∨ x1 < 0 ∨ 3 < x1) → (x2 < 0 ∨ 40 < x2) → z = -3) ∧ (¬ ((2 : Int) < 0 ∨ 3 < (2 : Int) ∨ x1 < 0 ∨ 3 < x1) → ¬ (x2 < 0 ∨ 40 < x2) → z = 0)) ∧ ((((2 : Int) < 0 ∨ 3 < (2 : Int) ∨ x1 < 0 ∨ 3 < x1) ∨ (x2 < 0 ∨ 40 < x2) ∨ ¬ (2 : Int) = 0) → Z' 44 1 = Z 44 1 ∧ Z' 44 2 = Z 44 2 ∧ Z' 44 3 = Z 44 3) ∧ (¬ ((2 : Int) < 0 ∨ 3 < (2 : Int) ∨ x1 < 0 ∨ 3 < x1) → ¬ (x2 < 0 ∨ 40 < x2) → (2 : Int) = 0 → Z' 44 1 = x1 ∧ Z' 44 2 = x2 ∧ Z' 44 3 = 0) ∧ ((((2 : Int) < 0 ∨ 3 < (2 : Int) ∨ x1 < 0 ∨ 3 < x1) ∨ (x2 < 0 ∨ 40 < x2) ∨ ¬ (2 : Int) = 1) → Z' 46 1 = Z 46 1 ∧ Z' 46 2 = Z 46 2 ∧ Z' 46 3 = Z 46 3) ∧ (¬ ((2 : Int) < 0 ∨ 3 < (2 : Int) ∨ x1 < 0 ∨ 3 < x1) → ¬ (x2 < 0 ∨ 40 < x2) → (2 : Int) = 1 → Z' 46 1 = x1 ∧ Z' 46 2 = x2 ∧ Z' 46 3 = 0) ∧ ((((2 : Int) < 0 ∨ 3 < (2 : Int) ∨ x1 < 0 ∨ 3 < x1) ∨ (x2 < 0 ∨ 40 < x2) ∨ ¬ (2 : Int) = 2) → Z' 48 1 = Z 48 1 ∧ Z' 48 2 = Z 48 2 ∧ Z' 48 3 = Z 48 3) ∧ (¬ ((2 : Int) < 0 ∨ 3 < (2 : Int) ∨ x1 < 0 ∨ 3 < x1) → ¬ (x2 < 0 ∨ 40 < x2) → (2 : Int) = 2 → Z' 48 1 = x1 ∧ Z' 48 2 = x2 ∧ Z' 48 3 = 0) ∧ ((((2 : Int) < 0 ∨ 3 < (2 : Int) ∨ x1 < 0 ∨ 3 < x1) ∨ (x2 < 0 ∨ 40 < x2) ∨ ¬ (2 : Int) = 3) → Z' 50 1 = Z 50 1 ∧ Z' 50 2 = Z 50 2 ∧ Z' 50 3 = Z 50 3) ∧ (¬ ((2 : Int) < 0 ∨ 3 < (2 : Int) ∨ x1 < 0 ∨ 3 < x1) → ¬ (x2 < 0 ∨ 40 < x2) → (2 : Int) = 3 → Z' 50 1 = x1 ∧ Z' 50 2 = x2 ∧ Z' 50 3 = 0))) := by
  obtain ⟨r, hca, z, Z', h', e, q⟩ := Jmt (B := tB l D b0 ad Hb tau) (M := mt_128) (mi := 128) (as := [.ref 1, xI 2, xI x1, xI x2]) (d := d + 2) (ls := [some (.ref 1), some (xI 2), some (xI x1), some (xI x2)]) rfl rfl rfl rfl rfl rfl (cw_128_1_i2 (l := l) (D := D) (b0 := b0) (ad := ad) (Hb := Hb) (tau := tau) (d := d) (Post := fun r => ∃ (z : Int) (Z' : xZ) (h' : mx_H), r = (some (xI z), h') ∧ XH n s S Z' h' ∧ GI n S Z' ∧ fr' [(48, 1), (48, 2), (48, 3), (49, (-1))] Z Z' ∧ (((((2 : Int) < 0 ∨ 3 < (2 : Int) ∨ x1 < 0 ∨ 3 < x1) ∨ (x2 < 0 ∨ 40 < x2) ∨ ¬ (2 : Int) = 0) → ∀ i, Z' 45 i = Z 45 i) ∧ (¬ ((2 : Int) < 0 ∨ 3 < (2 : Int) ∨ x1 < 0 ∨ 3 < x1) → ¬ (x2 < 0 ∨ 40 < x2) → (2 : Int) = 0 → FLL Z' 45 40 0) ∧ ((((2 : Int) < 0 ∨ 3 < (2 : Int) ∨ x1 < 0 ∨ 3 < x1) ∨ (x2 < 0 ∨ 40 < x2) ∨ ¬ (2 : Int) = 1) → ∀ i, Z' 47 i = Z 47 i) ∧ (¬ ((2 : Int) < 0 ∨ 3 < (2 : Int) ∨ x1 < 0 ∨ 3 < x1) → ¬ (x2 < 0 ∨ 40 < x2) → (2 : Int) = 1 → FLL Z' 47 40 0) ∧ ((((2 : Int) < 0 ∨ 3 < (2 : Int) ∨ x1 < 0 ∨ 3 < x1) ∨ (x2 < 0 ∨ 40 < x2) ∨ ¬ (2 : Int) = 2) → ∀ i, Z' 49 i = Z 49 i) ∧ (¬ ((2 : Int) < 0 ∨ 3 < (2 : Int) ∨ x1 < 0 ∨ 3 < x1) → ¬ (x2 < 0 ∨ 40 < x2) → (2 : Int) = 2 → FLL Z' 49 40 0) ∧ ((((2 : Int) < 0 ∨ 3 < (2 : Int) ∨ x1 < 0 ∨ 3 < x1) ∨ (x2 < 0 ∨ 40 < x2) ∨ ¬ (2 : Int) = 3) → ∀ i, Z' 51 i = Z 51 i) ∧ (¬ ((2 : Int) < 0 ∨ 3 < (2 : Int) ∨ x1 < 0 ∨ 3 < x1) → ¬ (x2 < 0 ∨ 40 < x2) → (2 : Int) = 3 → FLL Z' 51 40 0) ∧ (-3) ≤ z ∧ z ≤ 0 ∧ (((((2 : Int) < 0 ∨ 3 < (2 : Int) ∨ x1 < 0 ∨ 3 < x1) → z = -2) ∧ (¬ ((2 : Int) < 0 ∨ 3 < (2 : Int) ∨ x1 < 0 ∨ 3 < x1) → (x2 < 0 ∨ 40 < x2) → z = -3) ∧ (¬ ((2 : Int) < 0 ∨ 3 < (2 : Int) ∨ x1 < 0 ∨ 3 < x1) → ¬ (x2 < 0 ∨ 40 < x2) → z = 0)) ∧ ((((2 : Int) < 0 ∨ 3 < (2 : Int) ∨ x1 < 0 ∨ 3 < x1) ∨ (x2 < 0 ∨ 40 < x2) ∨ ¬ (2 : Int) = 0) → Z' 44 1 = Z 44 1 ∧ Z' 44 2 = Z 44 2 ∧ Z' 44 3 = Z 44 3) ∧ (¬ ((2 : Int) < 0 ∨ 3 < (2 : Int) ∨ x1 < 0 ∨ 3 < x1) → ¬ (x2 < 0 ∨ 40 < x2) → (2 : Int) = 0 → Z' 44 1 = x1 ∧ Z' 44 2 = x2 ∧ Z' 44 3 = 0) ∧ ((((2 : Int) < 0 ∨ 3 < (2 : Int) ∨ x1 < 0 ∨ 3 < x1) ∨ (x2 < 0 ∨ 40 < x2) ∨ ¬ (2 : Int) = 1) → Z' 46 1 = Z 46 1 ∧ Z' 46 2 = Z 46 2 ∧ Z' 46 3 = Z 46 3) ∧ (¬ ((2 : Int) < 0 ∨ 3 < (2 : Int) ∨ x1 < 0 ∨ 3 < x1) → ¬ (x2 < 0 ∨ 40 < x2) → (2 : Int) = 1 → Z' 46 1 = x1 ∧ Z' 46 2 = x2 ∧ Z' 46 3 = 0) ∧ ((((2 : Int) < 0 ∨ 3 < (2 : Int) ∨ x1 < 0 ∨ 3 < x1) ∨ (x2 < 0 ∨ 40 < x2) ∨ ¬ (2 : Int) = 2) → Z' 48 1 = Z 48 1 ∧ Z' 48 2 = Z 48 2 ∧ Z' 48 3 = Z 48 3) ∧ (¬ ((2 : Int) < 0 ∨ 3 < (2 : Int) ∨ x1 < 0 ∨ 3 < x1) → ¬ (x2 < 0 ∨ 40 < x2) → (2 : Int) = 2 → Z' 48 1 = x1 ∧ Z' 48 2 = x2 ∧ Z' 48 3 = 0) ∧ ((((2 : Int) < 0 ∨ 3 < (2 : Int) ∨ x1 < 0 ∨ 3 < x1) ∨ (x2 < 0 ∨ 40 < x2) ∨ ¬ (2 : Int) = 3) → Z' 50 1 = Z 50 1 ∧ Z' 50 2 = Z 50 2 ∧ Z' 50 3 = Z 50 3) ∧ (¬ ((2 : Int) < 0 ∨ 3 < (2 : Int) ∨ x1 < 0 ∨ 3 < x1) → ¬ (x2 < 0 ∨ 40 < x2) → (2 : Int) = 3 → Z' 50 1 = x1 ∧ Z' 50 2 = x2 ∧ Z' 50 3 = 0)))) hx hG p1 p2 (fun z Z' h' q1 q2 q3 q4 => ⟨z, Z', h', rfl, q1, q2, q3, q4⟩))
  subst e; exact ⟨z, Z', h', hca, q⟩
set_option maxRecDepth 100000 in
theorem cw_128_1_i3 {l : Launch} {D : va_G} {b0 : Nat} {ad : Nat → Nat} {Hb : Heap} {tau : Nat → Int64} {d n s : Nat} {S : Nat → xS} {Z : xZ} {h : mx_H} {Post : mx_R → Prop} (hx : XH n s S Z h) (hG : GI n S Z)  {x1 x2 : Int} (p1 : (-2147483648) ≤ x1 ∧ x1 ≤ 2147483647) (p2 : (-2147483648) ≤ x2 ∧ x2 ≤ 2147483647) (hP : ∀ (z : Int) (Z' : xZ) (h' : mx_H), XH n s S Z' h' → GI n S Z' → fr' [(50, 1), (50, 2), (50, 3), (51, (-1))] Z Z' → ((((3 : Int) < 0 ∨ 3 < (3 : Int) ∨ x1 < 0 ∨ 3 < x1) ∨ (x2 < 0 ∨ 40 < x2) ∨ ¬ (3 : Int) = 0) → ∀ i, Z' 45 i = Z 45 i) ∧ (¬ ((3 : Int) < 0 ∨ 3 < (3 : Int) ∨ x1 < 0 ∨ 3 < x1) → ¬ (x2 < 0 ∨ 40 < x2) → (3 : Int) = 0 → FLL Z' 45 40 0) ∧ ((((3 : Int) < 0 ∨ 3 < (3 : Int) ∨ x1 < 0 ∨ 3 < x1) ∨ (x2 < 0 ∨ 40 < x2) ∨ ¬ (3 : Int) = 1) → ∀ i, Z' 47 i = Z 47 i) ∧ (¬ ((3 : Int) < 0 ∨ 3 < (3 : Int) ∨ x1 < 0 ∨ 3 < x1) → ¬ (x2 < 0 ∨ 40 < x2) → (3 : Int) = 1 → FLL Z' 47 40 0) ∧ ((((3 : Int) < 0 ∨ 3 < (3 : Int) ∨ x1 < 0 ∨ 3 < x1) ∨ (x2 < 0 ∨ 40 < x2) ∨ ¬ (3 : Int) = 2) → ∀ i, Z' 49 i = Z 49 i) ∧ (¬ ((3 : Int) < 0 ∨ 3 < (3 : Int) ∨ x1 < 0 ∨ 3 < x1) → ¬ (x2 < 0 ∨ 40 < x2) → (3 : Int) = 2 → FLL Z' 49 40 0) ∧ ((((3 : Int) < 0 ∨ 3 < (3 : Int) ∨ x1 < 0 ∨ 3 < x1) ∨ (x2 < 0 ∨ 40 < x2) ∨ ¬ (3 : Int) = 3) → ∀ i, Z' 51 i = Z 51 i) ∧ (¬ ((3 : Int) < 0 ∨ 3 < (3 : Int) ∨ x1 < 0 ∨ 3 < x1) → ¬ (x2 < 0 ∨ 40 < x2) → (3 : Int) = 3 → FLL Z' 51 40 0) ∧ (-3) ≤ z ∧ z ≤ 0 ∧ (((((3 : Int) < 0 ∨ 3 < (3 : Int) ∨ x1 < 0 ∨ 3 < x1) → z = -2) ∧ (¬ ((3 : Int) < 0 ∨ 3 < (3 : Int) ∨ x1 < 0 ∨ 3 < x1) → (x2 < 0 ∨ 40 < x2) → z = -3) ∧ (¬ ((3 : Int) < 0 ∨ 3 < (3 : Int) ∨ x1 < 0 ∨ 3 < x1) → ¬ (x2 < 0 ∨ 40 < x2) → z = 0)) ∧ ((((3 : Int) < 0 ∨ 3 < (3 : Int) ∨ x1 < 0 ∨ 3 < x1) ∨ (x2 < 0 ∨ 40 < x2) ∨ ¬ (3 : Int) = 0) → Z' 44 1 = Z 44 1 ∧ Z' 44 2 = Z 44 2 ∧ Z' 44 3 = Z 44 3) ∧ (¬ ((3 : Int) < 0 ∨ 3 < (3 : Int) ∨ x1 < 0 ∨ 3 < x1) → ¬ (x2 < 0 ∨ 40 < x2) → (3 : Int) = 0 → Z' 44 1 = x1 ∧ Z' 44 2 = x2 ∧ Z' 44 3 = 0) ∧ ((((3 : Int) < 0 ∨ 3 < (3 : Int) ∨ x1 < 0 ∨ 3 < x1) ∨ (x2 < 0 ∨ 40 < x2) ∨ ¬ (3 : Int) = 1) → Z' 46 1 = Z 46 1 ∧ Z' 46 2 = Z 46 2 ∧ Z' 46 3 = Z 46 3) ∧ (¬ ((3 : Int) < 0 ∨ 3 < (3 : Int) ∨ x1 < 0 ∨ 3 < x1) → ¬ (x2 < 0 ∨ 40 < x2) → (3 : Int) = 1 → Z' 46 1 = x1 ∧ Z' 46 2 = x2 ∧ Z' 46 3 = 0) ∧ ((((3 : Int) < 0 ∨ 3 < (3 : Int) ∨ x1 < 0 ∨ 3 < x1) ∨ (x2 < 0 ∨ 40 < x2) ∨ ¬ (3 : Int) = 2) → Z' 48 1 = Z 48 1 ∧ Z' 48 2 = Z 48 2 ∧ Z' 48 3 = Z 48 3) ∧ (¬ ((3 : Int) < 0 ∨ 3 < (3 : Int) ∨ x1 < 0 ∨ 3 < x1) → ¬ (x2 < 0 ∨ 40 < x2) → (3 : Int) = 2 → Z' 48 1 = x1 ∧ Z' 48 2 = x2 ∧ Z' 48 3 = 0) ∧ ((((3 : Int) < 0 ∨ 3 < (3 : Int) ∨ x1 < 0 ∨ 3 < x1) ∨ (x2 < 0 ∨ 40 < x2) ∨ ¬ (3 : Int) = 3) → Z' 50 1 = Z 50 1 ∧ Z' 50 2 = Z 50 2 ∧ Z' 50 3 = Z 50 3) ∧ (¬ ((3 : Int) < 0 ∨ 3 < (3 : Int) ∨ x1 < 0 ∨ 3 < x1) → ¬ (x2 < 0 ∨ 40 < x2) → (3 : Int) = 3 → Z' 50 1 = x1 ∧ Z' 50 2 = x2 ∧ Z' 50 3 = 0)) → Post (some (xI z), h')) : mx_J (tB l D b0 ad Hb tau) mt_128 (d + 2) 0 [some (.ref 1), some (xI 3), some (xI x1), some (xI x2)] [] h Post := by
    have a1 : 1 < n := lt83 (GI_n hG) rfl
    have s1 : S 1 = .inl (11, [2, 0, 0, 0, 2, 2, 2, 2, 2, 2, 2, 2, 2, 2, 2, 2, 2]) := GI_s hG 1 rfl
    have a34 : 34 < n := lt83 (GI_n hG) rfl
    have s34 : S 34 = .inr ((.object "TitheHeap$Tray"), 4, 2) := GI_s hG 34 rfl
    have a50 : 50 < n := lt83 (GI_n hG) rfl
    have s50 : S 50 = .inl (10, [2, 0, 0, 0]) := GI_s hG 50 rfl
    refine mx_J.step (sn_128 0) (fun _ _ => rfl) ?_
    refine mx_J.step (sn_128 1) (fun _ _ => rfl) ?_
    obtain ⟨z1, hc1, b1⟩ := ct_144_1_y (d := d + 1) (l := l) (D := D) (b0 := b0) (ad := ad) (Hb := Hb) (tau := tau) hx hG (show 0 ≤ 3 ∧ 3 ≤ 3 by omega)
    refine Jcv hx (show mx_Sn _ _ 2 (mx_callv 144 2 11 5) from sn_128 2) a1 s1 hc1 rfl rfl rfl ?_
    have c17 : (3 < 0 ∨ 3 < 3 ∨ x1 < 0 ∨ 3 < x1) → mx_J (tB l D b0 ad Hb tau) mt_128 (d + 2) 17 [some (.ref 1), some (xI 3), some (xI x1), some (xI x2)] [] h Post := by
      intro f2_0
      refine JcI (z := (-2)) (show mx_Sn _ _ 17 (mx_const (.int (-2)) 19) from sn_128 17) rfl ?_
      have b3 : 0 ≤ Z 44 1 ∧ Z 44 1 ≤ 3 := hG.pr 44 1
      have b4 : 0 ≤ Z 44 2 ∧ Z 44 2 ≤ 40 := hG.pr 44 2
      have b5 : 0 ≤ Z 44 3 ∧ Z 44 3 ≤ 1 := hG.pr 44 3
      have b6 : 0 ≤ Z 46 1 ∧ Z 46 1 ≤ 3 := hG.pr 46 1
      have b7 : 0 ≤ Z 46 2 ∧ Z 46 2 ≤ 40 := hG.pr 46 2
      have b8 : 0 ≤ Z 46 3 ∧ Z 46 3 ≤ 1 := hG.pr 46 3
      have b9 : 0 ≤ Z 48 1 ∧ Z 48 1 ≤ 3 := hG.pr 48 1
      have b10 : 0 ≤ Z 48 2 ∧ Z 48 2 ≤ 40 := hG.pr 48 2
      have b11 : 0 ≤ Z 48 3 ∧ Z 48 3 ≤ 1 := hG.pr 48 3
      have b12 : 0 ≤ Z 50 1 ∧ Z 50 1 ≤ 3 := hG.pr 50 1
      have b13 : 0 ≤ Z 50 2 ∧ Z 50 2 ≤ 40 := hG.pr 50 2
      have b14 : 0 ≤ Z 50 3 ∧ Z 50 3 ≤ 1 := hG.pr 50 3
      exact mx_J.ret (sn_128 19) (fun _ _ => rfl) (hP (-2) Z h hx hG fr_rf ⟨(fun _ => (fun i => rfl)), (fun a _ _ => absurd (by omega) a), (fun _ => (fun i => rfl)), (fun a _ _ => absurd (by omega) a), (fun _ => (fun i => rfl)), (fun a _ _ => absurd (by omega) a), (fun _ => (fun i => rfl)), (fun a _ _ => absurd (by omega) a), by omega⟩)
    refine Jif_ne (show mx_Sn _ _ 5 (mx_if_ne 17 8) from sn_128 5) (by omega) (fun q15 => ?_) (fun q15 => ?_)
    · skip
      exact c17 (by omega)
    · skip
      refine mx_J.step (sn_128 8) (fun _ _ => rfl) ?_
      refine Jif_lt (show mx_Sn _ _ 9 (mx_if_lt 17 12) from sn_128 9) (by omega) (fun q16 => ?_) (fun q16 => ?_)
      · skip
        exact c17 (by omega)
      · skip
        refine mx_J.step (sn_128 12) (fun _ _ => rfl) ?_
        refine JcI (z := 3) (show mx_Sn _ _ 13 (mx_const (.int 3) 14) from sn_128 13) rfl ?_
        refine Jicmp_le (show mx_Sn _ _ 14 (mx_icmp_le 20 17) from sn_128 14) (by omega) (by omega) (fun q17 => ?_) (fun q17 => ?_)
        · skip
          refine mx_J.step (sn_128 20) (fun _ _ => rfl) ?_
          have c30 : (x2 < 0 ∨ 40 < x2) → mx_J (tB l D b0 ad Hb tau) mt_128 (d + 2) 30 [some (.ref 1), some (xI 3), some (xI x1), some (xI x2)] [] h Post := by
            intro f18_0
            refine JcI (z := (-3)) (show mx_Sn _ _ 30 (mx_const (.int (-3)) 32) from sn_128 30) rfl ?_
            have b19 : 0 ≤ Z 44 1 ∧ Z 44 1 ≤ 3 := hG.pr 44 1
            have b20 : 0 ≤ Z 44 2 ∧ Z 44 2 ≤ 40 := hG.pr 44 2
            have b21 : 0 ≤ Z 44 3 ∧ Z 44 3 ≤ 1 := hG.pr 44 3
            have b22 : 0 ≤ Z 46 1 ∧ Z 46 1 ≤ 3 := hG.pr 46 1
            have b23 : 0 ≤ Z 46 2 ∧ Z 46 2 ≤ 40 := hG.pr 46 2
            have b24 : 0 ≤ Z 46 3 ∧ Z 46 3 ≤ 1 := hG.pr 46 3
            have b25 : 0 ≤ Z 48 1 ∧ Z 48 1 ≤ 3 := hG.pr 48 1
            have b26 : 0 ≤ Z 48 2 ∧ Z 48 2 ≤ 40 := hG.pr 48 2
            have b27 : 0 ≤ Z 48 3 ∧ Z 48 3 ≤ 1 := hG.pr 48 3
            have b28 : 0 ≤ Z 50 1 ∧ Z 50 1 ≤ 3 := hG.pr 50 1
            have b29 : 0 ≤ Z 50 2 ∧ Z 50 2 ≤ 40 := hG.pr 50 2
            have b30 : 0 ≤ Z 50 3 ∧ Z 50 3 ≤ 1 := hG.pr 50 3
            exact mx_J.ret (sn_128 32) (fun _ _ => rfl) (hP (-3) Z h hx hG fr_rf ⟨(fun _ => (fun i => rfl)), (fun _ b _ => absurd (by omega) b), (fun _ => (fun i => rfl)), (fun _ b _ => absurd (by omega) b), (fun _ => (fun i => rfl)), (fun _ b _ => absurd (by omega) b), (fun _ => (fun i => rfl)), (fun _ b _ => absurd (by omega) b), by omega⟩)
          refine Jif_lt (show mx_Sn _ _ 21 (mx_if_lt 30 24) from sn_128 21) (by omega) (fun q31 => ?_) (fun q31 => ?_)
          · skip
            exact c30 (by omega)
          · skip
            refine mx_J.step (sn_128 24) (fun _ _ => rfl) ?_
            refine JcI (z := 40) (show mx_Sn _ _ 25 (mx_const (.int 40) 27) from sn_128 25) rfl ?_
            refine Jicmp_le (show mx_Sn _ _ 27 (mx_icmp_le 33 30) from sn_128 27) (by omega) (by omega) (fun q32 => ?_) (fun q32 => ?_)
            · skip
              refine mx_J.step (sn_128 33) (fun _ _ => rfl) ?_
              refine JgetR (g := 10) (b := 34) hx (show mx_Sn _ _ 34 (mx_getf 11 10 37) from sn_128 34) a1 s1 rfl rfl (hG.prr 1 10 rfl) ?_
              refine mx_J.step (sn_128 37) (fun _ _ => rfl) ?_
              refine JaaldR (i := 3) (b := 50) hx (show mx_Sn _ _ 38 (mx_aald 39) from sn_128 38) a34 s34 (by omega) (show Z 34 3 = 50 by have hq := GI_ex hG 34 3; replace hq : ((0 : Int) ≤ 3 → (3 : Int) ≤ 3 → (Z 34 3) = 44 + 2 * 3) := hq; omega) ?_
              refine mx_J.step (sn_128 39) (fun _ _ => rfl) ?_
              refine mx_J.step (sn_128 40) (fun _ _ => rfl) ?_
              obtain ⟨Z34, h34, hc34, hx34, hG34, hf34, b34⟩ := ct_83_50 (d := d + 0) (l := l) (D := D) (b0 := b0) (ad := ad) (Hb := Hb) (tau := tau) hx hG (show 0 ≤ x1 ∧ x1 ≤ 3 by omega) (show 0 ≤ x2 ∧ x2 ≤ 40 by omega)
              obtain ⟨bs34_0, b34⟩ := b34
              have b35 : 0 ≤ Z34 50 1 ∧ Z34 50 1 ≤ 3 := hG34.pr 50 1
              have b36 : 0 ≤ Z34 50 2 ∧ Z34 50 2 ≤ 40 := hG34.pr 50 2
              have b37 : 0 ≤ Z34 50 3 ∧ Z34 50 3 ≤ 1 := hG34.pr 50 3
              refine Jcv0 hx (show mx_Sn _ _ 41 (mx_callv 83 3 10 44) from sn_128 41) a50 s50 hc34 rfl rfl rfl ?_
              refine JcI (z := 0) (show mx_Sn _ _ 44 (mx_const (.int 0) 45) from sn_128 44) rfl ?_
              have eq38 : Z34 44 1 = Z 44 1 := (hf34 44 1 rfl)
              have b39 : 0 ≤ Z 44 1 ∧ Z 44 1 ≤ 3 := hG.pr 44 1
              have eq40 : Z34 44 2 = Z 44 2 := (hf34 44 2 rfl)
              have b41 : 0 ≤ Z 44 2 ∧ Z 44 2 ≤ 40 := hG.pr 44 2
              have eq42 : Z34 44 3 = Z 44 3 := (hf34 44 3 rfl)
              have b43 : 0 ≤ Z 44 3 ∧ Z 44 3 ≤ 1 := hG.pr 44 3
              have eq44 : Z34 46 1 = Z 46 1 := (hf34 46 1 rfl)
              have b45 : 0 ≤ Z 46 1 ∧ Z 46 1 ≤ 3 := hG.pr 46 1
              have eq46 : Z34 46 2 = Z 46 2 := (hf34 46 2 rfl)
              have b47 : 0 ≤ Z 46 2 ∧ Z 46 2 ≤ 40 := hG.pr 46 2
              have eq48 : Z34 46 3 = Z 46 3 := (hf34 46 3 rfl)
              have b49 : 0 ≤ Z 46 3 ∧ Z 46 3 ≤ 1 := hG.pr 46 3
              have eq50 : Z34 48 1 = Z 48 1 := (hf34 48 1 rfl)
              have b51 : 0 ≤ Z 48 1 ∧ Z 48 1 ≤ 3 := hG.pr 48 1
              have eq52 : Z34 48 2 = Z 48 2 := (hf34 48 2 rfl)
              have b53 : 0 ≤ Z 48 2 ∧ Z 48 2 ≤ 40 := hG.pr 48 2
              have eq54 : Z34 48 3 = Z 48 3 := (hf34 48 3 rfl)
              have b55 : 0 ≤ Z 48 3 ∧ Z 48 3 ≤ 1 := hG.pr 48 3
              have eq56 : Z34 44 1 = Z 44 1 := (hf34 44 1 rfl)
              have eq57 : Z34 44 2 = Z 44 2 := (hf34 44 2 rfl)
              have eq58 : Z34 44 3 = Z 44 3 := (hf34 44 3 rfl)
              have eq59 : Z34 46 1 = Z 46 1 := (hf34 46 1 rfl)
              have eq60 : Z34 46 2 = Z 46 2 := (hf34 46 2 rfl)
              have eq61 : Z34 46 3 = Z 46 3 := (hf34 46 3 rfl)
              have eq62 : Z34 48 1 = Z 48 1 := (hf34 48 1 rfl)
              have eq63 : Z34 48 2 = Z 48 2 := (hf34 48 2 rfl)
              have eq64 : Z34 48 3 = Z 48 3 := (hf34 48 3 rfl)
              exact mx_J.ret (sn_128 45) (fun _ _ => rfl) (hP 0 Z34 h34 hx34 hG34 (fr_tr (M := [(50, 1), (50, 2), (50, 3), (51, (-1))]) fr_rf (hf34) (M1 := []) rfl rfl) ⟨(fun _ => (fun i => (hf34 45 i rfl))), (fun _ _ q => absurd q (by decide)), (fun _ => (fun i => (hf34 47 i rfl))), (fun _ _ q => absurd q (by decide)), (fun _ => (fun i => (hf34 49 i rfl))), (fun _ _ q => absurd q (by decide)), (fun q => absurd q (by omega)), (fun _ _ _ => (by assumption)), by omega⟩)
            · skip
              exact c30 (by omega)
        · skip
          exact c17 (by omega)
theorem ct_128_1_i3 {l : Launch} {D : va_G} {b0 : Nat} {ad : Nat → Nat} {Hb : Heap} {tau : Nat → Int64} {d n s : Nat} {S : Nat → xS} {Z : xZ} {h : mx_H} (hx : XH n s S Z h) (hG : GI n S Z)  {x1 x2 : Int} (p1 : (-2147483648) ≤ x1 ∧ x1 ≤ 2147483647) (p2 : (-2147483648) ≤ x2 ∧ x2 ≤ 2147483647) : ∃ (z : Int) (Z' : xZ) (h' : mx_H), mx_Ca (tB l D b0 ad Hb tau) (d + 3) 128 [.ref 1, xI 3, xI x1, xI x2] h (some (xI z), h') ∧ XH n s S Z' h' ∧ GI n S Z' ∧ fr' [(50, 1), (50, 2), (50, 3), (51, (-1))] Z Z' ∧ (((((3 : Int) < 0 ∨ 3 < (3 : Int) ∨ x1 < 0 ∨ 3 < x1) ∨ (x2 < 0 ∨ 40 < x2) ∨ ¬ (3 : Int) = 0) → ∀ i, Z' 45 i = Z 45 i) ∧ (¬ ((3 : Int) < 0 ∨ 3 < (3 : Int) ∨ x1 < 0 ∨ 3 < x1) → ¬ (x2 < 0 ∨ 40 < x2) → (3 : Int) = 0 → FLL Z' 45 40 0) ∧ ((((3 : Int) < 0 ∨ 3 < (3 : Int) ∨ x1 < 0 ∨ 3 < x1) ∨ (x2 < 0 ∨ 40 < x2) ∨ ¬ (3 : Int) = 1) → ∀ i, Z' 47 i = Z 47 i) ∧ (¬ ((3 : Int) < 0 ∨ 3 < (3 : Int) ∨ x1 < 0 ∨ 3 < x1) → ¬ (x2 < 0 ∨ 40 < x2) → (3 : Int) = 1 → FLL Z' 47 40 0) ∧ ((((3 : Int) < 0 ∨ 3 < (3 : Int) ∨ x1 < 0 ∨ 3 < x1) ∨ (x2 < 0 ∨ 40 < x2) ∨ ¬ (3 : Int) = 2) → ∀ i, Z' 49 i = Z 49 i) ∧ (¬ ((3 : Int) < 0 ∨ 3 < (3 : Int) ∨ x1 < 0 ∨ 3 < x1) → ¬ (x2 < 0 ∨ 40 < x2) → (3 : Int) = 2 → FLL Z' 49 40 0) ∧ ((((3 : Int) < 0 ∨ 3 < (3 : Int) ∨ x1 < 0 ∨ 3 < x1) ∨ (x2 < 0 ∨ 40 < x2) ∨ ¬ (3 : Int) = 3) → ∀ i, Z' 51 i = Z 51 i) ∧ (¬ ((3 : Int) < 0 ∨ 3 < (3 : Int) ∨ x1 < 0 ∨ 3 < x1) → ¬ (x2 < 0 ∨ 40 < x2) → (3 : Int) = 3 → FLL Z' 51 40 0) ∧ (-3) ≤ z ∧ z ≤ 0 ∧ (((((3 : Int) < 0 ∨ 3 < (3 : Int) ∨ x1 < 0 ∨ 3 < x1) → z = -2) ∧ (¬ ((3 : Int) < 0 ∨ 3 < (3 : Int) ∨ x1 < 0 ∨ 3 < x1) → (x2 < 0 ∨ 40 < x2) → z = -3) ∧ (¬ ((3 : Int) < 0 ∨ 3 < (3 : Int) ∨ x1 < 0 ∨ 3 < x1) → ¬ (x2 < 0 ∨ 40 < x2) → z = 0)) ∧ ((((3 : Int) < 0 ∨ 3 < (3 : Int) ∨ x1 < 0 ∨ 3 < x1) ∨ (x2 < 0 ∨ 40 < x2) ∨ ¬ (3 : Int) = 0) → Z' 44 1 = Z 44 1 ∧ Z' 44 2 = Z 44 2 ∧ Z' 44 3 = Z 44 3) ∧ (¬ ((3 : Int) < 0 ∨ 3 < (3 : Int) ∨ x1 < 0 ∨ 3 < x1) → ¬ (x2 < 0 ∨ 40 < x2) → (3 : Int) = 0 → Z' 44 1 = x1 ∧ Z' 44 2 = x2 ∧ Z' 44 3 = 0) ∧ ((((3 : Int) < 0 ∨ 3 < (3 : Int) ∨ x1 < 0 ∨ 3 < x1) ∨ (x2 < 0 ∨ 40 < x2) ∨ ¬ (3 : Int) = 1) → Z' 46 1 = Z 46 1 ∧ Z' 46 2 = Z 46 2 ∧ Z' 46 3 = Z 46 3) ∧ (¬ ((3 : Int) < 0 ∨ 3 < (3 : Int) ∨ x1 < 0 ∨ 3 < x1) → ¬ (x2 < 0 ∨ 40 < x2) → (3 : Int) = 1 → Z' 46 1 = x1 ∧ Z' 46 2 = x2 ∧ Z' 46 3 = 0) ∧ ((((3 : Int) < 0 ∨ 3 < (3 : Int) ∨ x1 < 0 ∨ 3 < x1) ∨ (x2 < 0 ∨ 40 < x2) ∨ ¬ (3 : Int) = 2) → Z' 48 1 = Z 48 1 ∧ Z' 48 2 = Z 48 2 ∧ Z' 48 3 = Z 48 3) ∧ (¬ ((3 : Int) < 0 ∨ 3 < (3 : Int) ∨ x1 < 0 ∨ 3 < x1) → ¬ (x2 < 0 ∨ 40 < x2) → (3 : Int) = 2 → Z' 48 1 = x1 ∧ Z' 48 2 = x2 ∧ Z' 48 3 = 0) ∧ ((((3 : Int) < 0 ∨ 3 < (3 : Int) ∨ x1 < 0 ∨ 3 < x1) ∨ (x2 < 0 ∨ 40 < x2) ∨ ¬ (3 : Int) = 3) → Z' 50 1 = Z 50 1 ∧ Z' 50 2 = Z 50 2 ∧ Z' 50 3 = Z 50 3) ∧ (¬ ((3 : Int) < 0 ∨ 3 < (3 : Int) ∨ x1 < 0 ∨ 3 < x1) → ¬ (x2 < 0 ∨ 40 < x2) → (3 : Int) = 3 → Z' 50 1 = x1 ∧ Z' 50 2 = x2 ∧ Z' 50 3 = 0))) := by
  obtain ⟨r, hca, z, Z', h', e, q⟩ := Jmt (B := tB l D b0 ad Hb tau) (M := mt_128) (mi := 128) (as := [.ref 1, xI 3, xI x1, xI x2]) (d := d + 2) (ls := [some (.ref 1), some (xI 3), some (xI x1), some (xI x2)]) rfl rfl rfl rfl rfl rfl (cw_128_1_i3 (l := l) (D := D) (b0 := b0) (ad := ad) (Hb := Hb) (tau := tau) (d := d) (Post := fun r => ∃ (z : Int) (Z' : xZ) (h' : mx_H), r = (some (xI z), h') ∧ XH n s S Z' h' ∧ GI n S Z' ∧ fr' [(50, 1), (50, 2), (50, 3), (51, (-1))] Z Z' ∧ (((((3 : Int) < 0 ∨ 3 < (3 : Int) ∨ x1 < 0 ∨ 3 < x1) ∨ (x2 < 0 ∨ 40 < x2) ∨ ¬ (3 : Int) = 0) → ∀ i, Z' 45 i = Z 45 i) ∧ (¬ ((3 : Int) < 0 ∨ 3 < (3 : Int) ∨ x1 < 0 ∨ 3 < x1) → ¬ (x2 < 0 ∨ 40 < x2) → (3 : Int) = 0 → FLL Z' 45 40 0) ∧ ((((3 : Int) < 0 ∨ 3 < (3 : Int) ∨ x1 < 0 ∨ 3 < x1) ∨ (x2 < 0 ∨ 40 < x2) ∨ ¬ (3 : Int) = 1) → ∀ i, Z' 47 i = Z 47 i) ∧ (¬ ((3 : Int) < 0 ∨ 3 < (3 : Int) ∨ x1 < 0 ∨ 3 < x1) → ¬ (x2 < 0 ∨ 40 < x2) → (3 : Int) = 1 → FLL Z' 47 40 0) ∧ ((((3 : Int) < 0 ∨ 3 < (3 : Int) ∨ x1 < 0 ∨ 3 < x1) ∨ (x2 < 0 ∨ 40 < x2) ∨ ¬ (3 : Int) = 2) → ∀ i, Z' 49 i = Z 49 i) ∧ (¬ ((3 : Int) < 0 ∨ 3 < (3 : Int) ∨ x1 < 0 ∨ 3 < x1) → ¬ (x2 < 0 ∨ 40 < x2) → (3 : Int) = 2 → FLL Z' 49 40 0) ∧ ((((3 : Int) < 0 ∨ 3 < (3 : Int) ∨ x1 < 0 ∨ 3 < x1) ∨ (x2 < 0 ∨ 40 < x2) ∨ ¬ (3 : Int) = 3) → ∀ i, Z' 51 i = Z 51 i) ∧ (¬ ((3 : Int) < 0 ∨ 3 < (3 : Int) ∨ x1 < 0 ∨ 3 < x1) → ¬ (x2 < 0 ∨ 40 < x2) → (3 : Int) = 3 → FLL Z' 51 40 0) ∧ (-3) ≤ z ∧ z ≤ 0 ∧ (((((3 : Int) < 0 ∨ 3 < (3 : Int) ∨ x1 < 0 ∨ 3 < x1) → z = -2) ∧ (¬ ((3 : Int) < 0 ∨ 3 < (3 : Int) ∨ x1 < 0 ∨ 3 < x1) → (x2 < 0 ∨ 40 < x2) → z = -3) ∧ (¬ ((3 : Int) < 0 ∨ 3 < (3 : Int) ∨ x1 < 0 ∨ 3 < x1) → ¬ (x2 < 0 ∨ 40 < x2) → z = 0)) ∧ ((((3 : Int) < 0 ∨ 3 < (3 : Int) ∨ x1 < 0 ∨ 3 < x1) ∨ (x2 < 0 ∨ 40 < x2) ∨ ¬ (3 : Int) = 0) → Z' 44 1 = Z 44 1 ∧ Z' 44 2 = Z 44 2 ∧ Z' 44 3 = Z 44 3) ∧ (¬ ((3 : Int) < 0 ∨ 3 < (3 : Int) ∨ x1 < 0 ∨ 3 < x1) → ¬ (x2 < 0 ∨ 40 < x2) → (3 : Int) = 0 → Z' 44 1 = x1 ∧ Z' 44 2 = x2 ∧ Z' 44 3 = 0) ∧ ((((3 : Int) < 0 ∨ 3 < (3 : Int) ∨ x1 < 0 ∨ 3 < x1) ∨ (x2 < 0 ∨ 40 < x2) ∨ ¬ (3 : Int) = 1) → Z' 46 1 = Z 46 1 ∧ Z' 46 2 = Z 46 2 ∧ Z' 46 3 = Z 46 3) ∧ (¬ ((3 : Int) < 0 ∨ 3 < (3 : Int) ∨ x1 < 0 ∨ 3 < x1) → ¬ (x2 < 0 ∨ 40 < x2) → (3 : Int) = 1 → Z' 46 1 = x1 ∧ Z' 46 2 = x2 ∧ Z' 46 3 = 0) ∧ ((((3 : Int) < 0 ∨ 3 < (3 : Int) ∨ x1 < 0 ∨ 3 < x1) ∨ (x2 < 0 ∨ 40 < x2) ∨ ¬ (3 : Int) = 2) → Z' 48 1 = Z 48 1 ∧ Z' 48 2 = Z 48 2 ∧ Z' 48 3 = Z 48 3) ∧ (¬ ((3 : Int) < 0 ∨ 3 < (3 : Int) ∨ x1 < 0 ∨ 3 < x1) → ¬ (x2 < 0 ∨ 40 < x2) → (3 : Int) = 2 → Z' 48 1 = x1 ∧ Z' 48 2 = x2 ∧ Z' 48 3 = 0) ∧ ((((3 : Int) < 0 ∨ 3 < (3 : Int) ∨ x1 < 0 ∨ 3 < x1) ∨ (x2 < 0 ∨ 40 < x2) ∨ ¬ (3 : Int) = 3) → Z' 50 1 = Z 50 1 ∧ Z' 50 2 = Z 50 2 ∧ Z' 50 3 = Z 50 3) ∧ (¬ ((3 : Int) < 0 ∨ 3 < (3 : Int) ∨ x1 < 0 ∨ 3 < x1) → ¬ (x2 < 0 ∨ 40 < x2) → (3 : Int) = 3 → Z' 50 1 = x1 ∧ Z' 50 2 = x2 ∧ Z' 50 3 = 0)))) hx hG p1 p2 (fun z Z' h' q1 q2 q3 q4 => ⟨z, Z', h', rfl, q1, q2, q3, q4⟩))
  subst e; exact ⟨z, Z', h', hca, q⟩
set_option maxRecDepth 100000 in
theorem cw_128_1_n {l : Launch} {D : va_G} {b0 : Nat} {ad : Nat → Nat} {Hb : Heap} {tau : Nat → Int64} {d n s : Nat} {S : Nat → xS} {Z : xZ} {h : mx_H} {Post : mx_R → Prop} (hx : XH n s S Z h) (hG : GI n S Z)  {x0 x1 x2 : Int} (p0 : (-2147483648) ≤ x0 ∧ x0 ≤ (-1)) (p1 : (-2147483648) ≤ x1 ∧ x1 ≤ 2147483647) (p2 : (-2147483648) ≤ x2 ∧ x2 ≤ 2147483647) (hP : ∀ z : Int, (((x0 < 0 ∨ 3 < x0 ∨ x1 < 0 ∨ 3 < x1) ∨ (x2 < 0 ∨ 40 < x2) ∨ ¬ x0 = 0) → ∀ i, Z 45 i = Z 45 i) ∧ (¬ (x0 < 0 ∨ 3 < x0 ∨ x1 < 0 ∨ 3 < x1) → ¬ (x2 < 0 ∨ 40 < x2) → x0 = 0 → FLL Z 45 40 0) ∧ (((x0 < 0 ∨ 3 < x0 ∨ x1 < 0 ∨ 3 < x1) ∨ (x2 < 0 ∨ 40 < x2) ∨ ¬ x0 = 1) → ∀ i, Z 47 i = Z 47 i) ∧ (¬ (x0 < 0 ∨ 3 < x0 ∨ x1 < 0 ∨ 3 < x1) → ¬ (x2 < 0 ∨ 40 < x2) → x0 = 1 → FLL Z 47 40 0) ∧ (((x0 < 0 ∨ 3 < x0 ∨ x1 < 0 ∨ 3 < x1) ∨ (x2 < 0 ∨ 40 < x2) ∨ ¬ x0 = 2) → ∀ i, Z 49 i = Z 49 i) ∧ (¬ (x0 < 0 ∨ 3 < x0 ∨ x1 < 0 ∨ 3 < x1) → ¬ (x2 < 0 ∨ 40 < x2) → x0 = 2 → FLL Z 49 40 0) ∧ (((x0 < 0 ∨ 3 < x0 ∨ x1 < 0 ∨ 3 < x1) ∨ (x2 < 0 ∨ 40 < x2) ∨ ¬ x0 = 3) → ∀ i, Z 51 i = Z 51 i) ∧ (¬ (x0 < 0 ∨ 3 < x0 ∨ x1 < 0 ∨ 3 < x1) → ¬ (x2 < 0 ∨ 40 < x2) → x0 = 3 → FLL Z 51 40 0) ∧ (-2) ≤ z ∧ z ≤ (-2) ∧ ((((x0 < 0 ∨ 3 < x0 ∨ x1 < 0 ∨ 3 < x1) → z = -2) ∧ (¬ (x0 < 0 ∨ 3 < x0 ∨ x1 < 0 ∨ 3 < x1) → (x2 < 0 ∨ 40 < x2) → z = -3) ∧ (¬ (x0 < 0 ∨ 3 < x0 ∨ x1 < 0 ∨ 3 < x1) → ¬ (x2 < 0 ∨ 40 < x2) → z = 0)) ∧ (((x0 < 0 ∨ 3 < x0 ∨ x1 < 0 ∨ 3 < x1) ∨ (x2 < 0 ∨ 40 < x2) ∨ ¬ x0 = 0) → Z 44 1 = Z 44 1 ∧ Z 44 2 = Z 44 2 ∧ Z 44 3 = Z 44 3) ∧ (¬ (x0 < 0 ∨ 3 < x0 ∨ x1 < 0 ∨ 3 < x1) → ¬ (x2 < 0 ∨ 40 < x2) → x0 = 0 → Z 44 1 = x1 ∧ Z 44 2 = x2 ∧ Z 44 3 = 0) ∧ (((x0 < 0 ∨ 3 < x0 ∨ x1 < 0 ∨ 3 < x1) ∨ (x2 < 0 ∨ 40 < x2) ∨ ¬ x0 = 1) → Z 46 1 = Z 46 1 ∧ Z 46 2 = Z 46 2 ∧ Z 46 3 = Z 46 3) ∧ (¬ (x0 < 0 ∨ 3 < x0 ∨ x1 < 0 ∨ 3 < x1) → ¬ (x2 < 0 ∨ 40 < x2) → x0 = 1 → Z 46 1 = x1 ∧ Z 46 2 = x2 ∧ Z 46 3 = 0) ∧ (((x0 < 0 ∨ 3 < x0 ∨ x1 < 0 ∨ 3 < x1) ∨ (x2 < 0 ∨ 40 < x2) ∨ ¬ x0 = 2) → Z 48 1 = Z 48 1 ∧ Z 48 2 = Z 48 2 ∧ Z 48 3 = Z 48 3) ∧ (¬ (x0 < 0 ∨ 3 < x0 ∨ x1 < 0 ∨ 3 < x1) → ¬ (x2 < 0 ∨ 40 < x2) → x0 = 2 → Z 48 1 = x1 ∧ Z 48 2 = x2 ∧ Z 48 3 = 0) ∧ (((x0 < 0 ∨ 3 < x0 ∨ x1 < 0 ∨ 3 < x1) ∨ (x2 < 0 ∨ 40 < x2) ∨ ¬ x0 = 3) → Z 50 1 = Z 50 1 ∧ Z 50 2 = Z 50 2 ∧ Z 50 3 = Z 50 3) ∧ (¬ (x0 < 0 ∨ 3 < x0 ∨ x1 < 0 ∨ 3 < x1) → ¬ (x2 < 0 ∨ 40 < x2) → x0 = 3 → Z 50 1 = x1 ∧ Z 50 2 = x2 ∧ Z 50 3 = 0)) → Post (some (xI z), h)) : mx_J (tB l D b0 ad Hb tau) mt_128 (d + 1) 0 [some (.ref 1), some (xI x0), some (xI x1), some (xI x2)] [] h Post := by
    have a1 : 1 < n := lt83 (GI_n hG) rfl
    have s1 : S 1 = .inl (11, [2, 0, 0, 0, 2, 2, 2, 2, 2, 2, 2, 2, 2, 2, 2, 2, 2]) := GI_s hG 1 rfl
    refine mx_J.step (sn_128 0) (fun _ _ => rfl) ?_
    refine mx_J.step (sn_128 1) (fun _ _ => rfl) ?_
    obtain ⟨z1, hc1, b1⟩ := ct_144_1_n (d := d + 0) (l := l) (D := D) (b0 := b0) (ad := ad) (Hb := Hb) (tau := tau) hx hG (show (-2147483648) ≤ x0 ∧ x0 ≤ (-1) by omega)
    refine Jcv hx (show mx_Sn _ _ 2 (mx_callv 144 2 11 5) from sn_128 2) a1 s1 hc1 rfl rfl rfl ?_
    refine Jif_ne (show mx_Sn _ _ 5 (mx_if_ne 17 8) from sn_128 5) (by omega) (fun q2 => ?_) (fun q2 => ?_)
    · skip
      refine JcI (z := (-2)) (show mx_Sn _ _ 17 (mx_const (.int (-2)) 19) from sn_128 17) rfl ?_
      have b3 : 0 ≤ Z 44 1 ∧ Z 44 1 ≤ 3 := hG.pr 44 1
      have b4 : 0 ≤ Z 44 2 ∧ Z 44 2 ≤ 40 := hG.pr 44 2
      have b5 : 0 ≤ Z 44 3 ∧ Z 44 3 ≤ 1 := hG.pr 44 3
      have b6 : 0 ≤ Z 46 1 ∧ Z 46 1 ≤ 3 := hG.pr 46 1
      have b7 : 0 ≤ Z 46 2 ∧ Z 46 2 ≤ 40 := hG.pr 46 2
      have b8 : 0 ≤ Z 46 3 ∧ Z 46 3 ≤ 1 := hG.pr 46 3
      have b9 : 0 ≤ Z 48 1 ∧ Z 48 1 ≤ 3 := hG.pr 48 1
      have b10 : 0 ≤ Z 48 2 ∧ Z 48 2 ≤ 40 := hG.pr 48 2
      have b11 : 0 ≤ Z 48 3 ∧ Z 48 3 ≤ 1 := hG.pr 48 3
      have b12 : 0 ≤ Z 50 1 ∧ Z 50 1 ≤ 3 := hG.pr 50 1
      have b13 : 0 ≤ Z 50 2 ∧ Z 50 2 ≤ 40 := hG.pr 50 2
      have b14 : 0 ≤ Z 50 3 ∧ Z 50 3 ≤ 1 := hG.pr 50 3
      exact mx_J.ret (sn_128 19) (fun _ _ => rfl) (hP (-2) ⟨(fun _ => (fun i => rfl)), (fun a _ _ => absurd (by omega) a), (fun _ => (fun i => rfl)), (fun a _ _ => absurd (by omega) a), (fun _ => (fun i => rfl)), (fun a _ _ => absurd (by omega) a), (fun _ => (fun i => rfl)), (fun a _ _ => absurd (by omega) a), by omega⟩)
    · skip
      exfalso; omega
theorem ct_128_1_n {l : Launch} {D : va_G} {b0 : Nat} {ad : Nat → Nat} {Hb : Heap} {tau : Nat → Int64} {d n s : Nat} {S : Nat → xS} {Z : xZ} {h : mx_H} (hx : XH n s S Z h) (hG : GI n S Z)  {x0 x1 x2 : Int} (p0 : (-2147483648) ≤ x0 ∧ x0 ≤ (-1)) (p1 : (-2147483648) ≤ x1 ∧ x1 ≤ 2147483647) (p2 : (-2147483648) ≤ x2 ∧ x2 ≤ 2147483647) : ∃ z : Int, mx_Ca (tB l D b0 ad Hb tau) (d + 2) 128 [.ref 1, xI x0, xI x1, xI x2] h (some (xI z), h) ∧ ((((x0 < 0 ∨ 3 < x0 ∨ x1 < 0 ∨ 3 < x1) ∨ (x2 < 0 ∨ 40 < x2) ∨ ¬ x0 = 0) → ∀ i, Z 45 i = Z 45 i) ∧ (¬ (x0 < 0 ∨ 3 < x0 ∨ x1 < 0 ∨ 3 < x1) → ¬ (x2 < 0 ∨ 40 < x2) → x0 = 0 → FLL Z 45 40 0) ∧ (((x0 < 0 ∨ 3 < x0 ∨ x1 < 0 ∨ 3 < x1) ∨ (x2 < 0 ∨ 40 < x2) ∨ ¬ x0 = 1) → ∀ i, Z 47 i = Z 47 i) ∧ (¬ (x0 < 0 ∨ 3 < x0 ∨ x1 < 0 ∨ 3 < x1) → ¬ (x2 < 0 ∨ 40 < x2) → x0 = 1 → FLL Z 47 40 0) ∧ (((x0 < 0 ∨ 3 < x0 ∨ x1 < 0 ∨ 3 < x1) ∨ (x2 < 0 ∨ 40 < x2) ∨ ¬ x0 = 2) → ∀ i, Z 49 i = Z 49 i) ∧ (¬ (x0 < 0 ∨ 3 < x0 ∨ x1 < 0 ∨ 3 < x1) → ¬ (x2 < 0 ∨ 40 < x2) → x0 = 2 → FLL Z 49 40 0) ∧ (((x0 < 0 ∨ 3 < x0 ∨ x1 < 0 ∨ 3 < x1) ∨ (x2 < 0 ∨ 40 < x2) ∨ ¬ x0 = 3) → ∀ i, Z 51 i = Z 51 i) ∧ (¬ (x0 < 0 ∨ 3 < x0 ∨ x1 < 0 ∨ 3 < x1) → ¬ (x2 < 0 ∨ 40 < x2) → x0 = 3 → FLL Z 51 40 0) ∧ (-2) ≤ z ∧ z ≤ (-2) ∧ ((((x0 < 0 ∨ 3 < x0 ∨ x1 < 0 ∨ 3 < x1) → z = -2) ∧ (¬ (x0 < 0 ∨ 3 < x0 ∨ x1 < 0 ∨ 3 < x1) → (x2 < 0 ∨ 40 < x2) → z = -3) ∧ (¬ (x0 < 0 ∨ 3 < x0 ∨ x1 < 0 ∨ 3 < x1) → ¬ (x2 < 0 ∨ 40 < x2) → z = 0)) ∧ (((x0 < 0 ∨ 3 < x0 ∨ x1 < 0 ∨ 3 < x1) ∨ (x2 < 0 ∨ 40 < x2) ∨ ¬ x0 = 0) → Z 44 1 = Z 44 1 ∧ Z 44 2 = Z 44 2 ∧ Z 44 3 = Z 44 3) ∧ (¬ (x0 < 0 ∨ 3 < x0 ∨ x1 < 0 ∨ 3 < x1) → ¬ (x2 < 0 ∨ 40 < x2) → x0 = 0 → Z 44 1 = x1 ∧ Z 44 2 = x2 ∧ Z 44 3 = 0) ∧ (((x0 < 0 ∨ 3 < x0 ∨ x1 < 0 ∨ 3 < x1) ∨ (x2 < 0 ∨ 40 < x2) ∨ ¬ x0 = 1) → Z 46 1 = Z 46 1 ∧ Z 46 2 = Z 46 2 ∧ Z 46 3 = Z 46 3) ∧ (¬ (x0 < 0 ∨ 3 < x0 ∨ x1 < 0 ∨ 3 < x1) → ¬ (x2 < 0 ∨ 40 < x2) → x0 = 1 → Z 46 1 = x1 ∧ Z 46 2 = x2 ∧ Z 46 3 = 0) ∧ (((x0 < 0 ∨ 3 < x0 ∨ x1 < 0 ∨ 3 < x1) ∨ (x2 < 0 ∨ 40 < x2) ∨ ¬ x0 = 2) → Z 48 1 = Z 48 1 ∧ Z 48 2 = Z 48 2 ∧ Z 48 3 = Z 48 3) ∧ (¬ (x0 < 0 ∨ 3 < x0 ∨ x1 < 0 ∨ 3 < x1) → ¬ (x2 < 0 ∨ 40 < x2) → x0 = 2 → Z 48 1 = x1 ∧ Z 48 2 = x2 ∧ Z 48 3 = 0) ∧ (((x0 < 0 ∨ 3 < x0 ∨ x1 < 0 ∨ 3 < x1) ∨ (x2 < 0 ∨ 40 < x2) ∨ ¬ x0 = 3) → Z 50 1 = Z 50 1 ∧ Z 50 2 = Z 50 2 ∧ Z 50 3 = Z 50 3) ∧ (¬ (x0 < 0 ∨ 3 < x0 ∨ x1 < 0 ∨ 3 < x1) → ¬ (x2 < 0 ∨ 40 < x2) → x0 = 3 → Z 50 1 = x1 ∧ Z 50 2 = x2 ∧ Z 50 3 = 0))) := by
  obtain ⟨r, hca, z, e, hp⟩ := Jmt (B := tB l D b0 ad Hb tau) (M := mt_128) (mi := 128) (as := [.ref 1, xI x0, xI x1, xI x2]) (d := d + 1) (ls := [some (.ref 1), some (xI x0), some (xI x1), some (xI x2)]) rfl rfl rfl rfl rfl rfl (cw_128_1_n (l := l) (D := D) (b0 := b0) (ad := ad) (Hb := Hb) (tau := tau) (d := d) (Post := fun r => ∃ z : Int, r = (some (xI z), h) ∧ ((((x0 < 0 ∨ 3 < x0 ∨ x1 < 0 ∨ 3 < x1) ∨ (x2 < 0 ∨ 40 < x2) ∨ ¬ x0 = 0) → ∀ i, Z 45 i = Z 45 i) ∧ (¬ (x0 < 0 ∨ 3 < x0 ∨ x1 < 0 ∨ 3 < x1) → ¬ (x2 < 0 ∨ 40 < x2) → x0 = 0 → FLL Z 45 40 0) ∧ (((x0 < 0 ∨ 3 < x0 ∨ x1 < 0 ∨ 3 < x1) ∨ (x2 < 0 ∨ 40 < x2) ∨ ¬ x0 = 1) → ∀ i, Z 47 i = Z 47 i) ∧ (¬ (x0 < 0 ∨ 3 < x0 ∨ x1 < 0 ∨ 3 < x1) → ¬ (x2 < 0 ∨ 40 < x2) → x0 = 1 → FLL Z 47 40 0) ∧ (((x0 < 0 ∨ 3 < x0 ∨ x1 < 0 ∨ 3 < x1) ∨ (x2 < 0 ∨ 40 < x2) ∨ ¬ x0 = 2) → ∀ i, Z 49 i = Z 49 i) ∧ (¬ (x0 < 0 ∨ 3 < x0 ∨ x1 < 0 ∨ 3 < x1) → ¬ (x2 < 0 ∨ 40 < x2) → x0 = 2 → FLL Z 49 40 0) ∧ (((x0 < 0 ∨ 3 < x0 ∨ x1 < 0 ∨ 3 < x1) ∨ (x2 < 0 ∨ 40 < x2) ∨ ¬ x0 = 3) → ∀ i, Z 51 i = Z 51 i) ∧ (¬ (x0 < 0 ∨ 3 < x0 ∨ x1 < 0 ∨ 3 < x1) → ¬ (x2 < 0 ∨ 40 < x2) → x0 = 3 → FLL Z 51 40 0) ∧ (-2) ≤ z ∧ z ≤ (-2) ∧ ((((x0 < 0 ∨ 3 < x0 ∨ x1 < 0 ∨ 3 < x1) → z = -2) ∧ (¬ (x0 < 0 ∨ 3 < x0 ∨ x1 < 0 ∨ 3 < x1) → (x2 < 0 ∨ 40 < x2) → z = -3) ∧ (¬ (x0 < 0 ∨ 3 < x0 ∨ x1 < 0 ∨ 3 < x1) → ¬ (x2 < 0 ∨ 40 < x2) → z = 0)) ∧ (((x0 < 0 ∨ 3 < x0 ∨ x1 < 0 ∨ 3 < x1) ∨ (x2 < 0 ∨ 40 < x2) ∨ ¬ x0 = 0) → Z 44 1 = Z 44 1 ∧ Z 44 2 = Z 44 2 ∧ Z 44 3 = Z 44 3) ∧ (¬ (x0 < 0 ∨ 3 < x0 ∨ x1 < 0 ∨ 3 < x1) → ¬ (x2 < 0 ∨ 40 < x2) → x0 = 0 → Z 44 1 = x1 ∧ Z 44 2 = x2 ∧ Z 44 3 = 0) ∧ (((x0 < 0 ∨ 3 < x0 ∨ x1 < 0 ∨ 3 < x1) ∨ (x2 < 0 ∨ 40 < x2) ∨ ¬ x0 = 1) → Z 46 1 = Z 46 1 ∧ Z 46 2 = Z 46 2 ∧ Z 46 3 = Z 46 3) ∧ (¬ (x0 < 0 ∨ 3 < x0 ∨ x1 < 0 ∨ 3 < x1) → ¬ (x2 < 0 ∨ 40 < x2) → x0 = 1 → Z 46 1 = x1 ∧ Z 46 2 = x2 ∧ Z 46 3 = 0) ∧ (((x0 < 0 ∨ 3 < x0 ∨ x1 < 0 ∨ 3 < x1) ∨ (x2 < 0 ∨ 40 < x2) ∨ ¬ x0 = 2) → Z 48 1 = Z 48 1 ∧ Z 48 2 = Z 48 2 ∧ Z 48 3 = Z 48 3) ∧ (¬ (x0 < 0 ∨ 3 < x0 ∨ x1 < 0 ∨ 3 < x1) → ¬ (x2 < 0 ∨ 40 < x2) → x0 = 2 → Z 48 1 = x1 ∧ Z 48 2 = x2 ∧ Z 48 3 = 0) ∧ (((x0 < 0 ∨ 3 < x0 ∨ x1 < 0 ∨ 3 < x1) ∨ (x2 < 0 ∨ 40 < x2) ∨ ¬ x0 = 3) → Z 50 1 = Z 50 1 ∧ Z 50 2 = Z 50 2 ∧ Z 50 3 = Z 50 3) ∧ (¬ (x0 < 0 ∨ 3 < x0 ∨ x1 < 0 ∨ 3 < x1) → ¬ (x2 < 0 ∨ 40 < x2) → x0 = 3 → Z 50 1 = x1 ∧ Z 50 2 = x2 ∧ Z 50 3 = 0)))) hx hG p0 p1 p2 (fun z hz => ⟨z, rfl, hz⟩))
  subst e; exact ⟨z, hca, hp⟩
set_option maxRecDepth 100000 in
theorem cw_128_1_p {l : Launch} {D : va_G} {b0 : Nat} {ad : Nat → Nat} {Hb : Heap} {tau : Nat → Int64} {d n s : Nat} {S : Nat → xS} {Z : xZ} {h : mx_H} {Post : mx_R → Prop} (hx : XH n s S Z h) (hG : GI n S Z)  {x0 x1 x2 : Int} (p0 : 4 ≤ x0 ∧ x0 ≤ 2147483647) (p1 : (-2147483648) ≤ x1 ∧ x1 ≤ 2147483647) (p2 : (-2147483648) ≤ x2 ∧ x2 ≤ 2147483647) (hP : ∀ z : Int, (((x0 < 0 ∨ 3 < x0 ∨ x1 < 0 ∨ 3 < x1) ∨ (x2 < 0 ∨ 40 < x2) ∨ ¬ x0 = 0) → ∀ i, Z 45 i = Z 45 i) ∧ (¬ (x0 < 0 ∨ 3 < x0 ∨ x1 < 0 ∨ 3 < x1) → ¬ (x2 < 0 ∨ 40 < x2) → x0 = 0 → FLL Z 45 40 0) ∧ (((x0 < 0 ∨ 3 < x0 ∨ x1 < 0 ∨ 3 < x1) ∨ (x2 < 0 ∨ 40 < x2) ∨ ¬ x0 = 1) → ∀ i, Z 47 i = Z 47 i) ∧ (¬ (x0 < 0 ∨ 3 < x0 ∨ x1 < 0 ∨ 3 < x1) → ¬ (x2 < 0 ∨ 40 < x2) → x0 = 1 → FLL Z 47 40 0) ∧ (((x0 < 0 ∨ 3 < x0 ∨ x1 < 0 ∨ 3 < x1) ∨ (x2 < 0 ∨ 40 < x2) ∨ ¬ x0 = 2) → ∀ i, Z 49 i = Z 49 i) ∧ (¬ (x0 < 0 ∨ 3 < x0 ∨ x1 < 0 ∨ 3 < x1) → ¬ (x2 < 0 ∨ 40 < x2) → x0 = 2 → FLL Z 49 40 0) ∧ (((x0 < 0 ∨ 3 < x0 ∨ x1 < 0 ∨ 3 < x1) ∨ (x2 < 0 ∨ 40 < x2) ∨ ¬ x0 = 3) → ∀ i, Z 51 i = Z 51 i) ∧ (¬ (x0 < 0 ∨ 3 < x0 ∨ x1 < 0 ∨ 3 < x1) → ¬ (x2 < 0 ∨ 40 < x2) → x0 = 3 → FLL Z 51 40 0) ∧ (-2) ≤ z ∧ z ≤ (-2) ∧ ((((x0 < 0 ∨ 3 < x0 ∨ x1 < 0 ∨ 3 < x1) → z = -2) ∧ (¬ (x0 < 0 ∨ 3 < x0 ∨ x1 < 0 ∨ 3 < x1) → (x2 < 0 ∨ 40 < x2) → z = -3) ∧ (¬ (x0 < 0 ∨ 3 < x0 ∨ x1 < 0 ∨ 3 < x1) → ¬ (x2 < 0 ∨ 40 < x2) → z = 0)) ∧ (((x0 < 0 ∨ 3 < x0 ∨ x1 < 0 ∨ 3 < x1) ∨ (x2 < 0 ∨ 40 < x2) ∨ ¬ x0 = 0) → Z 44 1 = Z 44 1 ∧ Z 44 2 = Z 44 2 ∧ Z 44 3 = Z 44 3) ∧ (¬ (x0 < 0 ∨ 3 < x0 ∨ x1 < 0 ∨ 3 < x1) → ¬ (x2 < 0 ∨ 40 < x2) → x0 = 0 → Z 44 1 = x1 ∧ Z 44 2 = x2 ∧ Z 44 3 = 0) ∧ (((x0 < 0 ∨ 3 < x0 ∨ x1 < 0 ∨ 3 < x1) ∨ (x2 < 0 ∨ 40 < x2) ∨ ¬ x0 = 1) → Z 46 1 = Z 46 1 ∧ Z 46 2 = Z 46 2 ∧ Z 46 3 = Z 46 3) ∧ (¬ (x0 < 0 ∨ 3 < x0 ∨ x1 < 0 ∨ 3 < x1) → ¬ (x2 < 0 ∨ 40 < x2) → x0 = 1 → Z 46 1 = x1 ∧ Z 46 2 = x2 ∧ Z 46 3 = 0) ∧ (((x0 < 0 ∨ 3 < x0 ∨ x1 < 0 ∨ 3 < x1) ∨ (x2 < 0 ∨ 40 < x2) ∨ ¬ x0 = 2) → Z 48 1 = Z 48 1 ∧ Z 48 2 = Z 48 2 ∧ Z 48 3 = Z 48 3) ∧ (¬ (x0 < 0 ∨ 3 < x0 ∨ x1 < 0 ∨ 3 < x1) → ¬ (x2 < 0 ∨ 40 < x2) → x0 = 2 → Z 48 1 = x1 ∧ Z 48 2 = x2 ∧ Z 48 3 = 0) ∧ (((x0 < 0 ∨ 3 < x0 ∨ x1 < 0 ∨ 3 < x1) ∨ (x2 < 0 ∨ 40 < x2) ∨ ¬ x0 = 3) → Z 50 1 = Z 50 1 ∧ Z 50 2 = Z 50 2 ∧ Z 50 3 = Z 50 3) ∧ (¬ (x0 < 0 ∨ 3 < x0 ∨ x1 < 0 ∨ 3 < x1) → ¬ (x2 < 0 ∨ 40 < x2) → x0 = 3 → Z 50 1 = x1 ∧ Z 50 2 = x2 ∧ Z 50 3 = 0)) → Post (some (xI z), h)) : mx_J (tB l D b0 ad Hb tau) mt_128 (d + 1) 0 [some (.ref 1), some (xI x0), some (xI x1), some (xI x2)] [] h Post := by
    have a1 : 1 < n := lt83 (GI_n hG) rfl
    have s1 : S 1 = .inl (11, [2, 0, 0, 0, 2, 2, 2, 2, 2, 2, 2, 2, 2, 2, 2, 2, 2]) := GI_s hG 1 rfl
    refine mx_J.step (sn_128 0) (fun _ _ => rfl) ?_
    refine mx_J.step (sn_128 1) (fun _ _ => rfl) ?_
    obtain ⟨z1, hc1, b1⟩ := ct_144_1_p (d := d + 0) (l := l) (D := D) (b0 := b0) (ad := ad) (Hb := Hb) (tau := tau) hx hG (show 4 ≤ x0 ∧ x0 ≤ 2147483647 by omega)
    refine Jcv hx (show mx_Sn _ _ 2 (mx_callv 144 2 11 5) from sn_128 2) a1 s1 hc1 rfl rfl rfl ?_
    refine Jif_ne (show mx_Sn _ _ 5 (mx_if_ne 17 8) from sn_128 5) (by omega) (fun q2 => ?_) (fun q2 => ?_)
    · skip
      refine JcI (z := (-2)) (show mx_Sn _ _ 17 (mx_const (.int (-2)) 19) from sn_128 17) rfl ?_
      have b3 : 0 ≤ Z 44 1 ∧ Z 44 1 ≤ 3 := hG.pr 44 1
      have b4 : 0 ≤ Z 44 2 ∧ Z 44 2 ≤ 40 := hG.pr 44 2
      have b5 : 0 ≤ Z 44 3 ∧ Z 44 3 ≤ 1 := hG.pr 44 3
      have b6 : 0 ≤ Z 46 1 ∧ Z 46 1 ≤ 3 := hG.pr 46 1
      have b7 : 0 ≤ Z 46 2 ∧ Z 46 2 ≤ 40 := hG.pr 46 2
      have b8 : 0 ≤ Z 46 3 ∧ Z 46 3 ≤ 1 := hG.pr 46 3
      have b9 : 0 ≤ Z 48 1 ∧ Z 48 1 ≤ 3 := hG.pr 48 1
      have b10 : 0 ≤ Z 48 2 ∧ Z 48 2 ≤ 40 := hG.pr 48 2
      have b11 : 0 ≤ Z 48 3 ∧ Z 48 3 ≤ 1 := hG.pr 48 3
      have b12 : 0 ≤ Z 50 1 ∧ Z 50 1 ≤ 3 := hG.pr 50 1
      have b13 : 0 ≤ Z 50 2 ∧ Z 50 2 ≤ 40 := hG.pr 50 2
      have b14 : 0 ≤ Z 50 3 ∧ Z 50 3 ≤ 1 := hG.pr 50 3
      exact mx_J.ret (sn_128 19) (fun _ _ => rfl) (hP (-2) ⟨(fun _ => (fun i => rfl)), (fun a _ _ => absurd (by omega) a), (fun _ => (fun i => rfl)), (fun a _ _ => absurd (by omega) a), (fun _ => (fun i => rfl)), (fun a _ _ => absurd (by omega) a), (fun _ => (fun i => rfl)), (fun a _ _ => absurd (by omega) a), by omega⟩)
    · skip
      exfalso; omega
theorem ct_128_1_p {l : Launch} {D : va_G} {b0 : Nat} {ad : Nat → Nat} {Hb : Heap} {tau : Nat → Int64} {d n s : Nat} {S : Nat → xS} {Z : xZ} {h : mx_H} (hx : XH n s S Z h) (hG : GI n S Z)  {x0 x1 x2 : Int} (p0 : 4 ≤ x0 ∧ x0 ≤ 2147483647) (p1 : (-2147483648) ≤ x1 ∧ x1 ≤ 2147483647) (p2 : (-2147483648) ≤ x2 ∧ x2 ≤ 2147483647) : ∃ z : Int, mx_Ca (tB l D b0 ad Hb tau) (d + 2) 128 [.ref 1, xI x0, xI x1, xI x2] h (some (xI z), h) ∧ ((((x0 < 0 ∨ 3 < x0 ∨ x1 < 0 ∨ 3 < x1) ∨ (x2 < 0 ∨ 40 < x2) ∨ ¬ x0 = 0) → ∀ i, Z 45 i = Z 45 i) ∧ (¬ (x0 < 0 ∨ 3 < x0 ∨ x1 < 0 ∨ 3 < x1) → ¬ (x2 < 0 ∨ 40 < x2) → x0 = 0 → FLL Z 45 40 0) ∧ (((x0 < 0 ∨ 3 < x0 ∨ x1 < 0 ∨ 3 < x1) ∨ (x2 < 0 ∨ 40 < x2) ∨ ¬ x0 = 1) → ∀ i, Z 47 i = Z 47 i) ∧ (¬ (x0 < 0 ∨ 3 < x0 ∨ x1 < 0 ∨ 3 < x1) → ¬ (x2 < 0 ∨ 40 < x2) → x0 = 1 → FLL Z 47 40 0) ∧ (((x0 < 0 ∨ 3 < x0 ∨ x1 < 0 ∨ 3 < x1) ∨ (x2 < 0 ∨ 40 < x2) ∨ ¬ x0 = 2) → ∀ i, Z 49 i = Z 49 i) ∧ (¬ (x0 < 0 ∨ 3 < x0 ∨ x1 < 0 ∨ 3 < x1) → ¬ (x2 < 0 ∨ 40 < x2) → x0 = 2 → FLL Z 49 40 0) ∧ (((x0 < 0 ∨ 3 < x0 ∨ x1 < 0 ∨ 3 < x1) ∨ (x2 < 0 ∨ 40 < x2) ∨ ¬ x0 = 3) → ∀ i, Z 51 i = Z 51 i) ∧ (¬ (x0 < 0 ∨ 3 < x0 ∨ x1 < 0 ∨ 3 < x1) → ¬ (x2 < 0 ∨ 40 < x2) → x0 = 3 → FLL Z 51 40 0) ∧ (-2) ≤ z ∧ z ≤ (-2) ∧ ((((x0 < 0 ∨ 3 < x0 ∨ x1 < 0 ∨ 3 < x1) → z = -2) ∧ (¬ (x0 < 0 ∨ 3 < x0 ∨ x1 < 0 ∨ 3 < x1) → (x2 < 0 ∨ 40 < x2) → z = -3) ∧ (¬ (x0 < 0 ∨ 3 < x0 ∨ x1 < 0 ∨ 3 < x1) → ¬ (x2 < 0 ∨ 40 < x2) → z = 0)) ∧ (((x0 < 0 ∨ 3 < x0 ∨ x1 < 0 ∨ 3 < x1) ∨ (x2 < 0 ∨ 40 < x2) ∨ ¬ x0 = 0) → Z 44 1 = Z 44 1 ∧ Z 44 2 = Z 44 2 ∧ Z 44 3 = Z 44 3) ∧ (¬ (x0 < 0 ∨ 3 < x0 ∨ x1 < 0 ∨ 3 < x1) → ¬ (x2 < 0 ∨ 40 < x2) → x0 = 0 → Z 44 1 = x1 ∧ Z 44 2 = x2 ∧ Z 44 3 = 0) ∧ (((x0 < 0 ∨ 3 < x0 ∨ x1 < 0 ∨ 3 < x1) ∨ (x2 < 0 ∨ 40 < x2) ∨ ¬ x0 = 1) → Z 46 1 = Z 46 1 ∧ Z 46 2 = Z 46 2 ∧ Z 46 3 = Z 46 3) ∧ (¬ (x0 < 0 ∨ 3 < x0 ∨ x1 < 0 ∨ 3 < x1) → ¬ (x2 < 0 ∨ 40 < x2) → x0 = 1 → Z 46 1 = x1 ∧ Z 46 2 = x2 ∧ Z 46 3 = 0) ∧ (((x0 < 0 ∨ 3 < x0 ∨ x1 < 0 ∨ 3 < x1) ∨ (x2 < 0 ∨ 40 < x2) ∨ ¬ x0 = 2) → Z 48 1 = Z 48 1 ∧ Z 48 2 = Z 48 2 ∧ Z 48 3 = Z 48 3) ∧ (¬ (x0 < 0 ∨ 3 < x0 ∨ x1 < 0 ∨ 3 < x1) → ¬ (x2 < 0 ∨ 40 < x2) → x0 = 2 → Z 48 1 = x1 ∧ Z 48 2 = x2 ∧ Z 48 3 = 0) ∧ (((x0 < 0 ∨ 3 < x0 ∨ x1 < 0 ∨ 3 < x1) ∨ (x2 < 0 ∨ 40 < x2) ∨ ¬ x0 = 3) → Z 50 1 = Z 50 1 ∧ Z 50 2 = Z 50 2 ∧ Z 50 3 = Z 50 3) ∧ (¬ (x0 < 0 ∨ 3 < x0 ∨ x1 < 0 ∨ 3 < x1) → ¬ (x2 < 0 ∨ 40 < x2) → x0 = 3 → Z 50 1 = x1 ∧ Z 50 2 = x2 ∧ Z 50 3 = 0))) := by
  obtain ⟨r, hca, z, e, hp⟩ := Jmt (B := tB l D b0 ad Hb tau) (M := mt_128) (mi := 128) (as := [.ref 1, xI x0, xI x1, xI x2]) (d := d + 1) (ls := [some (.ref 1), some (xI x0), some (xI x1), some (xI x2)]) rfl rfl rfl rfl rfl rfl (cw_128_1_p (l := l) (D := D) (b0 := b0) (ad := ad) (Hb := Hb) (tau := tau) (d := d) (Post := fun r => ∃ z : Int, r = (some (xI z), h) ∧ ((((x0 < 0 ∨ 3 < x0 ∨ x1 < 0 ∨ 3 < x1) ∨ (x2 < 0 ∨ 40 < x2) ∨ ¬ x0 = 0) → ∀ i, Z 45 i = Z 45 i) ∧ (¬ (x0 < 0 ∨ 3 < x0 ∨ x1 < 0 ∨ 3 < x1) → ¬ (x2 < 0 ∨ 40 < x2) → x0 = 0 → FLL Z 45 40 0) ∧ (((x0 < 0 ∨ 3 < x0 ∨ x1 < 0 ∨ 3 < x1) ∨ (x2 < 0 ∨ 40 < x2) ∨ ¬ x0 = 1) → ∀ i, Z 47 i = Z 47 i) ∧ (¬ (x0 < 0 ∨ 3 < x0 ∨ x1 < 0 ∨ 3 < x1) → ¬ (x2 < 0 ∨ 40 < x2) → x0 = 1 → FLL Z 47 40 0) ∧ (((x0 < 0 ∨ 3 < x0 ∨ x1 < 0 ∨ 3 < x1) ∨ (x2 < 0 ∨ 40 < x2) ∨ ¬ x0 = 2) → ∀ i, Z 49 i = Z 49 i) ∧ (¬ (x0 < 0 ∨ 3 < x0 ∨ x1 < 0 ∨ 3 < x1) → ¬ (x2 < 0 ∨ 40 < x2) → x0 = 2 → FLL Z 49 40 0) ∧ (((x0 < 0 ∨ 3 < x0 ∨ x1 < 0 ∨ 3 < x1) ∨ (x2 < 0 ∨ 40 < x2) ∨ ¬ x0 = 3) → ∀ i, Z 51 i = Z 51 i) ∧ (¬ (x0 < 0 ∨ 3 < x0 ∨ x1 < 0 ∨ 3 < x1) → ¬ (x2 < 0 ∨ 40 < x2) → x0 = 3 → FLL Z 51 40 0) ∧ (-2) ≤ z ∧ z ≤ (-2) ∧ ((((x0 < 0 ∨ 3 < x0 ∨ x1 < 0 ∨ 3 < x1) → z = -2) ∧ (¬ (x0 < 0 ∨ 3 < x0 ∨ x1 < 0 ∨ 3 < x1) → (x2 < 0 ∨ 40 < x2) → z = -3) ∧ (¬ (x0 < 0 ∨ 3 < x0 ∨ x1 < 0 ∨ 3 < x1) → ¬ (x2 < 0 ∨ 40 < x2) → z = 0)) ∧ (((x0 < 0 ∨ 3 < x0 ∨ x1 < 0 ∨ 3 < x1) ∨ (x2 < 0 ∨ 40 < x2) ∨ ¬ x0 = 0) → Z 44 1 = Z 44 1 ∧ Z 44 2 = Z 44 2 ∧ Z 44 3 = Z 44 3) ∧ (¬ (x0 < 0 ∨ 3 < x0 ∨ x1 < 0 ∨ 3 < x1) → ¬ (x2 < 0 ∨ 40 < x2) → x0 = 0 → Z 44 1 = x1 ∧ Z 44 2 = x2 ∧ Z 44 3 = 0) ∧ (((x0 < 0 ∨ 3 < x0 ∨ x1 < 0 ∨ 3 < x1) ∨ (x2 < 0 ∨ 40 < x2) ∨ ¬ x0 = 1) → Z 46 1 = Z 46 1 ∧ Z 46 2 = Z 46 2 ∧ Z 46 3 = Z 46 3) ∧ (¬ (x0 < 0 ∨ 3 < x0 ∨ x1 < 0 ∨ 3 < x1) → ¬ (x2 < 0 ∨ 40 < x2) → x0 = 1 → Z 46 1 = x1 ∧ Z 46 2 = x2 ∧ Z 46 3 = 0) ∧ (((x0 < 0 ∨ 3 < x0 ∨ x1 < 0 ∨ 3 < x1) ∨ (x2 < 0 ∨ 40 < x2) ∨ ¬ x0 = 2) → Z 48 1 = Z 48 1 ∧ Z 48 2 = Z 48 2 ∧ Z 48 3 = Z 48 3) ∧ (¬ (x0 < 0 ∨ 3 < x0 ∨ x1 < 0 ∨ 3 < x1) → ¬ (x2 < 0 ∨ 40 < x2) → x0 = 2 → Z 48 1 = x1 ∧ Z 48 2 = x2 ∧ Z 48 3 = 0) ∧ (((x0 < 0 ∨ 3 < x0 ∨ x1 < 0 ∨ 3 < x1) ∨ (x2 < 0 ∨ 40 < x2) ∨ ¬ x0 = 3) → Z 50 1 = Z 50 1 ∧ Z 50 2 = Z 50 2 ∧ Z 50 3 = Z 50 3) ∧ (¬ (x0 < 0 ∨ 3 < x0 ∨ x1 < 0 ∨ 3 < x1) → ¬ (x2 < 0 ∨ 40 < x2) → x0 = 3 → Z 50 1 = x1 ∧ Z 50 2 = x2 ∧ Z 50 3 = 0)))) hx hG p0 p1 p2 (fun z hz => ⟨z, rfl, hz⟩))
  subst e; exact ⟨z, hca, hp⟩
theorem ct_128_1 {l : Launch} {D : va_G} {b0 : Nat} {ad : Nat → Nat} {Hb : Heap} {tau : Nat → Int64} {d n s : Nat} {S : Nat → xS} {Z : xZ} {h : mx_H} (hx : XH n s S Z h) (hG : GI n S Z) {x0 x1 x2 : Int} (p0 : (-2147483648) ≤ x0 ∧ x0 ≤ 2147483647) (p1 : (-2147483648) ≤ x1 ∧ x1 ≤ 2147483647) (p2 : (-2147483648) ≤ x2 ∧ x2 ≤ 2147483647) : ∃ (z : Int) (Z' : xZ) (h' : mx_H), mx_Ca (tB l D b0 ad Hb tau) (d + 3) 128 [.ref 1, xI x0, xI x1, xI x2] h (some (xI z), h') ∧ XH n s S Z' h' ∧ GI n S Z' ∧ fr' [(44, 1), (44, 2), (44, 3), (45, (-1)), (46, 1), (46, 2), (46, 3), (47, (-1)), (48, 1), (48, 2), (48, 3), (49, (-1)), (50, 1), (50, 2), (50, 3), (51, (-1))] Z Z' ∧ ((((x0 < 0 ∨ 3 < x0 ∨ x1 < 0 ∨ 3 < x1) ∨ (x2 < 0 ∨ 40 < x2) ∨ ¬ x0 = 0) → ∀ i, Z' 45 i = Z 45 i) ∧ (¬ (x0 < 0 ∨ 3 < x0 ∨ x1 < 0 ∨ 3 < x1) → ¬ (x2 < 0 ∨ 40 < x2) → x0 = 0 → FLL Z' 45 40 0) ∧ (((x0 < 0 ∨ 3 < x0 ∨ x1 < 0 ∨ 3 < x1) ∨ (x2 < 0 ∨ 40 < x2) ∨ ¬ x0 = 1) → ∀ i, Z' 47 i = Z 47 i) ∧ (¬ (x0 < 0 ∨ 3 < x0 ∨ x1 < 0 ∨ 3 < x1) → ¬ (x2 < 0 ∨ 40 < x2) → x0 = 1 → FLL Z' 47 40 0) ∧ (((x0 < 0 ∨ 3 < x0 ∨ x1 < 0 ∨ 3 < x1) ∨ (x2 < 0 ∨ 40 < x2) ∨ ¬ x0 = 2) → ∀ i, Z' 49 i = Z 49 i) ∧ (¬ (x0 < 0 ∨ 3 < x0 ∨ x1 < 0 ∨ 3 < x1) → ¬ (x2 < 0 ∨ 40 < x2) → x0 = 2 → FLL Z' 49 40 0) ∧ (((x0 < 0 ∨ 3 < x0 ∨ x1 < 0 ∨ 3 < x1) ∨ (x2 < 0 ∨ 40 < x2) ∨ ¬ x0 = 3) → ∀ i, Z' 51 i = Z 51 i) ∧ (¬ (x0 < 0 ∨ 3 < x0 ∨ x1 < 0 ∨ 3 < x1) → ¬ (x2 < 0 ∨ 40 < x2) → x0 = 3 → FLL Z' 51 40 0) ∧ (-3) ≤ z ∧ z ≤ 0 ∧ ((((x0 < 0 ∨ 3 < x0 ∨ x1 < 0 ∨ 3 < x1) → z = -2) ∧ (¬ (x0 < 0 ∨ 3 < x0 ∨ x1 < 0 ∨ 3 < x1) → (x2 < 0 ∨ 40 < x2) → z = -3) ∧ (¬ (x0 < 0 ∨ 3 < x0 ∨ x1 < 0 ∨ 3 < x1) → ¬ (x2 < 0 ∨ 40 < x2) → z = 0)) ∧ (((x0 < 0 ∨ 3 < x0 ∨ x1 < 0 ∨ 3 < x1) ∨ (x2 < 0 ∨ 40 < x2) ∨ ¬ x0 = 0) → Z' 44 1 = Z 44 1 ∧ Z' 44 2 = Z 44 2 ∧ Z' 44 3 = Z 44 3) ∧ (¬ (x0 < 0 ∨ 3 < x0 ∨ x1 < 0 ∨ 3 < x1) → ¬ (x2 < 0 ∨ 40 < x2) → x0 = 0 → Z' 44 1 = x1 ∧ Z' 44 2 = x2 ∧ Z' 44 3 = 0) ∧ (((x0 < 0 ∨ 3 < x0 ∨ x1 < 0 ∨ 3 < x1) ∨ (x2 < 0 ∨ 40 < x2) ∨ ¬ x0 = 1) → Z' 46 1 = Z 46 1 ∧ Z' 46 2 = Z 46 2 ∧ Z' 46 3 = Z 46 3) ∧ (¬ (x0 < 0 ∨ 3 < x0 ∨ x1 < 0 ∨ 3 < x1) → ¬ (x2 < 0 ∨ 40 < x2) → x0 = 1 → Z' 46 1 = x1 ∧ Z' 46 2 = x2 ∧ Z' 46 3 = 0) ∧ (((x0 < 0 ∨ 3 < x0 ∨ x1 < 0 ∨ 3 < x1) ∨ (x2 < 0 ∨ 40 < x2) ∨ ¬ x0 = 2) → Z' 48 1 = Z 48 1 ∧ Z' 48 2 = Z 48 2 ∧ Z' 48 3 = Z 48 3) ∧ (¬ (x0 < 0 ∨ 3 < x0 ∨ x1 < 0 ∨ 3 < x1) → ¬ (x2 < 0 ∨ 40 < x2) → x0 = 2 → Z' 48 1 = x1 ∧ Z' 48 2 = x2 ∧ Z' 48 3 = 0) ∧ (((x0 < 0 ∨ 3 < x0 ∨ x1 < 0 ∨ 3 < x1) ∨ (x2 < 0 ∨ 40 < x2) ∨ ¬ x0 = 3) → Z' 50 1 = Z 50 1 ∧ Z' 50 2 = Z 50 2 ∧ Z' 50 3 = Z 50 3) ∧ (¬ (x0 < 0 ∨ 3 < x0 ∨ x1 < 0 ∨ 3 < x1) → ¬ (x2 < 0 ∨ 40 < x2) → x0 = 3 → Z' 50 1 = x1 ∧ Z' 50 2 = x2 ∧ Z' 50 3 = 0))) := by
  have hc : x0 = 0 ∨ x0 = 1 ∨ x0 = 2 ∨ x0 = 3 ∨ ((-2147483648) ≤ x0 ∧ x0 ≤ (-1)) ∨ (4 ≤ x0 ∧ x0 ≤ 2147483647) := by omega
  rcases hc with hc | hc | hc | hc | hc | hc
  · subst hc
    obtain ⟨z, Z', h', hca, q1, q2, q3, b⟩ := ct_128_1_i0 (d := d + 0) (l := l) (D := D) (b0 := b0) (ad := ad) (Hb := Hb) (tau := tau) hx hG p1 p2
    exact ⟨z, Z', h', hca, q1, q2, fr_tr (M1 := []) fr_rf q3 rfl rfl, ⟨b.1, b.2.1, b.2.2.1, b.2.2.2.1, b.2.2.2.2.1, b.2.2.2.2.2.1, b.2.2.2.2.2.2.1, b.2.2.2.2.2.2.2.1, Int.le_trans (by decide) b.2.2.2.2.2.2.2.2.1, Int.le_trans b.2.2.2.2.2.2.2.2.2.1 (by decide), b.2.2.2.2.2.2.2.2.2.2⟩⟩
  · subst hc
    obtain ⟨z, Z', h', hca, q1, q2, q3, b⟩ := ct_128_1_i1 (d := d + 0) (l := l) (D := D) (b0 := b0) (ad := ad) (Hb := Hb) (tau := tau) hx hG p1 p2
    exact ⟨z, Z', h', hca, q1, q2, fr_tr (M1 := []) fr_rf q3 rfl rfl, ⟨b.1, b.2.1, b.2.2.1, b.2.2.2.1, b.2.2.2.2.1, b.2.2.2.2.2.1, b.2.2.2.2.2.2.1, b.2.2.2.2.2.2.2.1, Int.le_trans (by decide) b.2.2.2.2.2.2.2.2.1, Int.le_trans b.2.2.2.2.2.2.2.2.2.1 (by decide), b.2.2.2.2.2.2.2.2.2.2⟩⟩
  · subst hc
    obtain ⟨z, Z', h', hca, q1, q2, q3, b⟩ := ct_128_1_i2 (d := d + 0) (l := l) (D := D) (b0 := b0) (ad := ad) (Hb := Hb) (tau := tau) hx hG p1 p2
    exact ⟨z, Z', h', hca, q1, q2, fr_tr (M1 := []) fr_rf q3 rfl rfl, ⟨b.1, b.2.1, b.2.2.1, b.2.2.2.1, b.2.2.2.2.1, b.2.2.2.2.2.1, b.2.2.2.2.2.2.1, b.2.2.2.2.2.2.2.1, Int.le_trans (by decide) b.2.2.2.2.2.2.2.2.1, Int.le_trans b.2.2.2.2.2.2.2.2.2.1 (by decide), b.2.2.2.2.2.2.2.2.2.2⟩⟩
  · subst hc
    obtain ⟨z, Z', h', hca, q1, q2, q3, b⟩ := ct_128_1_i3 (d := d + 0) (l := l) (D := D) (b0 := b0) (ad := ad) (Hb := Hb) (tau := tau) hx hG p1 p2
    exact ⟨z, Z', h', hca, q1, q2, fr_tr (M1 := []) fr_rf q3 rfl rfl, ⟨b.1, b.2.1, b.2.2.1, b.2.2.2.1, b.2.2.2.2.1, b.2.2.2.2.2.1, b.2.2.2.2.2.2.1, b.2.2.2.2.2.2.2.1, Int.le_trans (by decide) b.2.2.2.2.2.2.2.2.1, Int.le_trans b.2.2.2.2.2.2.2.2.2.1 (by decide), b.2.2.2.2.2.2.2.2.2.2⟩⟩
  · skip
    obtain ⟨z, hca, b⟩ := ct_128_1_n (d := d + 1) (l := l) (D := D) (b0 := b0) (ad := ad) (Hb := Hb) (tau := tau) hx hG hc p1 p2
    exact ⟨z, Z, h, hca, hx, hG, fr_rf, ⟨b.1, b.2.1, b.2.2.1, b.2.2.2.1, b.2.2.2.2.1, b.2.2.2.2.2.1, b.2.2.2.2.2.2.1, b.2.2.2.2.2.2.2.1, Int.le_trans (by decide) b.2.2.2.2.2.2.2.2.1, Int.le_trans b.2.2.2.2.2.2.2.2.2.1 (by decide), b.2.2.2.2.2.2.2.2.2.2⟩⟩
  · skip
    obtain ⟨z, hca, b⟩ := ct_128_1_p (d := d + 1) (l := l) (D := D) (b0 := b0) (ad := ad) (Hb := Hb) (tau := tau) hx hG hc p1 p2
    exact ⟨z, Z, h, hca, hx, hG, fr_rf, ⟨b.1, b.2.1, b.2.2.1, b.2.2.2.1, b.2.2.2.2.1, b.2.2.2.2.2.1, b.2.2.2.2.2.2.1, b.2.2.2.2.2.2.2.1, Int.le_trans (by decide) b.2.2.2.2.2.2.2.2.1, Int.le_trans b.2.2.2.2.2.2.2.2.2.1 (by decide), b.2.2.2.2.2.2.2.2.2.2⟩⟩
set_option maxRecDepth 100000 in
theorem cw_129_1_i0 {l : Launch} {D : va_G} {b0 : Nat} {ad : Nat → Nat} {Hb : Heap} {tau : Nat → Int64} {d n s : Nat} {S : Nat → xS} {Z : xZ} {h : mx_H} {Post : mx_R → Prop} (hx : XH n s S Z h) (hG : GI n S Z)  {x1 x2 : Int} (p1 : (-2147483648) ≤ x1 ∧ x1 ≤ 2147483647) (p2 : (-9223372036854775808) ≤ x2 ∧ x2 ≤ 9223372036854775807) (hP : ∀ (z : Int) (Z' : xZ) (h' : mx_H), XH n s S Z' h' → GI n S Z' → fr' [(45, (-1))] Z Z' → ((¬ (0 : Int) = 0 ∨ (Z 44 3 = 1 ∨ x1 < 0 ∨ Z 44 2 ≤ x1)) → ∀ i, Z' 45 i = Z 45 i) ∧ ((0 : Int) = 0 → ¬ (Z 44 3 = 1 ∨ x1 < 0 ∨ Z 44 2 ≤ x1) → (∀ i, ¬ i = x1 → Z' 45 i = Z 45 i) ∧ Z' 45 x1 = z) ∧ ((¬ (0 : Int) = 1 ∨ (Z 46 3 = 1 ∨ x1 < 0 ∨ Z 46 2 ≤ x1)) → ∀ i, Z' 47 i = Z 47 i) ∧ ((0 : Int) = 1 → ¬ (Z 46 3 = 1 ∨ x1 < 0 ∨ Z 46 2 ≤ x1) → (∀ i, ¬ i = x1 → Z' 47 i = Z 47 i) ∧ Z' 47 x1 = z) ∧ ((¬ (0 : Int) = 2 ∨ (Z 48 3 = 1 ∨ x1 < 0 ∨ Z 48 2 ≤ x1)) → ∀ i, Z' 49 i = Z 49 i) ∧ ((0 : Int) = 2 → ¬ (Z 48 3 = 1 ∨ x1 < 0 ∨ Z 48 2 ≤ x1) → (∀ i, ¬ i = x1 → Z' 49 i = Z 49 i) ∧ Z' 49 x1 = z) ∧ ((¬ (0 : Int) = 3 ∨ (Z 50 3 = 1 ∨ x1 < 0 ∨ Z 50 2 ≤ x1)) → ∀ i, Z' 51 i = Z 51 i) ∧ ((0 : Int) = 3 → ¬ (Z 50 3 = 1 ∨ x1 < 0 ∨ Z 50 2 ≤ x1) → (∀ i, ¬ i = x1 → Z' 51 i = Z 51 i) ∧ Z' 51 x1 = z) ∧ (-9223372036854775808) ≤ z ∧ z ≤ 9223372036854775807 ∧ ((((0 : Int) < 0 ∨ 3 < (0 : Int)) → z = -2) ∧ ((0 : Int) = 0 → (Z 44 3 = 1 → z = -6) ∧ (Z 44 3 = 0 → ((x1 < 0 ∨ Z 44 2 ≤ x1) → z = -7) ∧ (¬ (x1 < 0 ∨ Z 44 2 ≤ x1) → ((Z 44 1 = 0 → -128 ≤ z ∧ z ≤ 127 ∧ (z - x2) % 256 = 0) ∧ (Z 44 1 = 1 → -32768 ≤ z ∧ z ≤ 32767 ∧ (z - x2) % 65536 = 0) ∧ (Z 44 1 = 2 → -2147483648 ≤ z ∧ z ≤ 2147483647 ∧ (z - x2) % 4294967296 = 0) ∧ (¬ Z 44 1 = 0 → ¬ Z 44 1 = 1 → ¬ Z 44 1 = 2 → z = x2))))) ∧ ((0 : Int) = 1 → (Z 46 3 = 1 → z = -6) ∧ (Z 46 3 = 0 → ((x1 < 0 ∨ Z 46 2 ≤ x1) → z = -7) ∧ (¬ (x1 < 0 ∨ Z 46 2 ≤ x1) → ((Z 46 1 = 0 → -128 ≤ z ∧ z ≤ 127 ∧ (z - x2) % 256 = 0) ∧ (Z 46 1 = 1 → -32768 ≤ z ∧ z ≤ 32767 ∧ (z - x2) % 65536 = 0) ∧ (Z 46 1 = 2 → -2147483648 ≤ z ∧ z ≤ 2147483647 ∧ (z - x2) % 4294967296 = 0) ∧ (¬ Z 46 1 = 0 → ¬ Z 46 1 = 1 → ¬ Z 46 1 = 2 → z = x2))))) ∧ ((0 : Int) = 2 → (Z 48 3 = 1 → z = -6) ∧ (Z 48 3 = 0 → ((x1 < 0 ∨ Z 48 2 ≤ x1) → z = -7) ∧ (¬ (x1 < 0 ∨ Z 48 2 ≤ x1) → ((Z 48 1 = 0 → -128 ≤ z ∧ z ≤ 127 ∧ (z - x2) % 256 = 0) ∧ (Z 48 1 = 1 → -32768 ≤ z ∧ z ≤ 32767 ∧ (z - x2) % 65536 = 0) ∧ (Z 48 1 = 2 → -2147483648 ≤ z ∧ z ≤ 2147483647 ∧ (z - x2) % 4294967296 = 0) ∧ (¬ Z 48 1 = 0 → ¬ Z 48 1 = 1 → ¬ Z 48 1 = 2 → z = x2))))) ∧ ((0 : Int) = 3 → (Z 50 3 = 1 → z = -6) ∧ (Z 50 3 = 0 → ((x1 < 0 ∨ Z 50 2 ≤ x1) → z = -7) ∧ (¬ (x1 < 0 ∨ Z 50 2 ≤ x1) → ((Z 50 1 = 0 → -128 ≤ z ∧ z ≤ 127 ∧ (z - x2) % 256 = 0) ∧ (Z 50 1 = 1 → -32768 ≤ z ∧ z ≤ 32767 ∧ (z - x2) % 65536 = 0) ∧ (Z 50 1 = 2 → -2147483648 ≤ z ∧ z ≤ 2147483647 ∧ (z - x2) % 4294967296 = 0) ∧ (¬ Z 50 1 = 0 → ¬ Z 50 1 = 1 → ¬ Z 50 1 = 2 → z = x2)))))) → Post (some (xL z), h')) : mx_J (tB l D b0 ad Hb tau) mt_129 (d + 1) 0 [some (.ref 1), some (xI 0), some (xI x1), some (xL x2), none] [] h Post := by
    have a1 : 1 < n := lt83 (GI_n hG) rfl
    have s1 : S 1 = .inl (11, [2, 0, 0, 0, 2, 2, 2, 2, 2, 2, 2, 2, 2, 2, 2, 2, 2]) := GI_s hG 1 rfl
    have a34 : 34 < n := lt83 (GI_n hG) rfl
    have s34 : S 34 = .inr ((.object "TitheHeap$Tray"), 4, 2) := GI_s hG 34 rfl
    have a44 : 44 < n := lt83 (GI_n hG) rfl
    have s44 : S 44 = .inl (10, [2, 0, 0, 0]) := GI_s hG 44 rfl
    refine mx_J.step (sn_129 0) (fun _ _ => rfl) ?_
    refine mx_J.step (sn_129 1) (fun _ _ => rfl) ?_
    obtain ⟨z1, hc1, b1⟩ := ct_144_1_y (d := d + 0) (l := l) (D := D) (b0 := b0) (ad := ad) (Hb := Hb) (tau := tau) hx hG (show 0 ≤ 0 ∧ 0 ≤ 3 by omega)
    refine Jcv hx (show mx_Sn _ _ 2 (mx_callv 144 2 11 5) from sn_129 2) a1 s1 hc1 rfl rfl rfl ?_
    refine Jif_eq (show mx_Sn _ _ 5 (mx_if_eq 12 8) from sn_129 5) (by omega) (fun q2 => ?_) (fun q2 => ?_)
    · skip
      refine mx_J.step (sn_129 12) (fun _ _ => rfl) ?_
      refine JgetR (g := 10) (b := 34) hx (show mx_Sn _ _ 13 (mx_getf 11 10 16) from sn_129 13) a1 s1 rfl rfl (hG.prr 1 10 rfl) ?_
      refine mx_J.step (sn_129 16) (fun _ _ => rfl) ?_
      refine JaaldR (i := 0) (b := 44) hx (show mx_Sn _ _ 17 (mx_aald 18) from sn_129 17) a34 s34 (by omega) (show Z 34 0 = 44 by have hq := GI_ex hG 34 0; replace hq : ((0 : Int) ≤ 0 → (0 : Int) ≤ 3 → (Z 34 0) = 44 + 2 * 0) := hq; omega) ?_
      have b5 : 0 ≤ Z 44 3 ∧ Z 44 3 ≤ 1 := hG.pr 44 3
      refine JgetI (g := 3) (z := Z 44 3) hx (show mx_Sn _ _ 18 (mx_getf 10 3 21) from sn_129 18) a44 s44 rfl rfl rfl ?_
      refine Jif_eq (show mx_Sn _ _ 21 (mx_if_eq 28 24) from sn_129 21) (by omega) (fun q6 => ?_) (fun q6 => ?_)
      · skip
        refine mx_J.step (sn_129 28) (fun _ _ => rfl) ?_
        have c45 : (x1 < 0 ∨ Z 44 2 ≤ x1) → mx_J (tB l D b0 ad Hb tau) mt_129 (d + 1) 45 [some (.ref 1), some (xI 0), some (xI x1), some (xL x2), none] [] h Post := by
          intro f7_0
          refine JcL (z := (-7)) (show mx_Sn _ _ 45 (mx_const (.long (-7)) 48) from sn_129 45) rfl ?_
          have b8 : 0 ≤ Z 44 1 ∧ Z 44 1 ≤ 3 := hG.pr 44 1
          have b9 : 0 ≤ Z 44 2 ∧ Z 44 2 ≤ 40 := hG.pr 44 2
          have b10 : 0 ≤ Z 46 1 ∧ Z 46 1 ≤ 3 := hG.pr 46 1
          have b11 : 0 ≤ Z 46 2 ∧ Z 46 2 ≤ 40 := hG.pr 46 2
          have b12 : 0 ≤ Z 46 3 ∧ Z 46 3 ≤ 1 := hG.pr 46 3
          have b13 : 0 ≤ Z 48 1 ∧ Z 48 1 ≤ 3 := hG.pr 48 1
          have b14 : 0 ≤ Z 48 2 ∧ Z 48 2 ≤ 40 := hG.pr 48 2
          have b15 : 0 ≤ Z 48 3 ∧ Z 48 3 ≤ 1 := hG.pr 48 3
          have b16 : 0 ≤ Z 50 1 ∧ Z 50 1 ≤ 3 := hG.pr 50 1
          have b17 : 0 ≤ Z 50 2 ∧ Z 50 2 ≤ 40 := hG.pr 50 2
          have b18 : 0 ≤ Z 50 3 ∧ Z 50 3 ≤ 1 := hG.pr 50 3
          exact mx_J.ret (sn_129 48) (fun _ _ => rfl) (hP (-7) Z h hx hG fr_rf ⟨(fun _ => (fun i => rfl)), (fun _ q => absurd (by omega) q), (fun _ => (fun i => rfl)), (fun q => absurd q (by decide)), (fun _ => (fun i => rfl)), (fun q => absurd q (by decide)), (fun _ => (fun i => rfl)), (fun q => absurd q (by decide)), by omega⟩)
        refine Jif_lt (show mx_Sn _ _ 29 (mx_if_lt 45 32) from sn_129 29) (by omega) (fun q19 => ?_) (fun q19 => ?_)
        · skip
          exact c45 (by omega)
        · skip
          refine mx_J.step (sn_129 32) (fun _ _ => rfl) ?_
          refine mx_J.step (sn_129 33) (fun _ _ => rfl) ?_
          refine JgetR (g := 10) (b := 34) hx (show mx_Sn _ _ 34 (mx_getf 11 10 37) from sn_129 34) a1 s1 rfl rfl (hG.prr 1 10 rfl) ?_
          refine mx_J.step (sn_129 37) (fun _ _ => rfl) ?_
          refine JaaldR (i := 0) (b := 44) hx (show mx_Sn _ _ 38 (mx_aald 39) from sn_129 38) a34 s34 (by omega) (show Z 34 0 = 44 by have hq := GI_ex hG 34 0; replace hq : ((0 : Int) ≤ 0 → (0 : Int) ≤ 3 → (Z 34 0) = 44 + 2 * 0) := hq; omega) ?_
          have b22 : 0 ≤ Z 44 2 ∧ Z 44 2 ≤ 40 := hG.pr 44 2
          refine JgetI (g := 2) (z := Z 44 2) hx (show mx_Sn _ _ 39 (mx_getf 10 2 42) from sn_129 39) a44 s44 rfl rfl rfl ?_
          refine Jicmp_lt (show mx_Sn _ _ 42 (mx_icmp_lt 49 45) from sn_129 42) (by omega) (by omega) (fun q23 => ?_) (fun q23 => ?_)
          · skip
            refine mx_J.step (sn_129 49) (fun _ _ => rfl) ?_
            refine JgetR (g := 10) (b := 34) hx (show mx_Sn _ _ 50 (mx_getf 11 10 53) from sn_129 50) a1 s1 rfl rfl (hG.prr 1 10 rfl) ?_
            refine mx_J.step (sn_129 53) (fun _ _ => rfl) ?_
            refine JaaldR (i := 0) (b := 44) hx (show mx_Sn _ _ 54 (mx_aald 55) from sn_129 54) a34 s34 (by omega) (show Z 34 0 = 44 by have hq := GI_ex hG 34 0; replace hq : ((0 : Int) ≤ 0 → (0 : Int) ≤ 3 → (Z 34 0) = 44 + 2 * 0) := hq; omega) ?_
            refine mx_J.step (sn_129 55) (fun _ _ => rfl) ?_
            refine mx_J.step (sn_129 56) (fun _ _ => rfl) ?_
            have b26 : 0 ≤ Z 44 1 ∧ Z 44 1 ≤ 3 := hG.pr 44 1
            obtain ⟨Z25, h25, hc25, hx25, hG25, hf25, b25⟩ := ct_84_44 (d := d + 0) (l := l) (D := D) (b0 := b0) (ad := ad) (Hb := Hb) (tau := tau) hx hG (show (-2147483648) ≤ x1 ∧ x1 ≤ 2147483647 by omega) (show (-9223372036854775808) ≤ x2 ∧ x2 ≤ 9223372036854775807 by omega)
            obtain ⟨bs25_0, b25⟩ := b25
            have b27 : (-9223372036854775808) ≤ Z25 45 x1 ∧ Z25 45 x1 ≤ 9223372036854775807 := hG25.pr 45 x1
            refine Jcv0 hx (show mx_Sn _ _ 57 (mx_callv 84 3 10 60) from sn_129 57) a44 s44 hc25 rfl rfl rfl ?_
            refine mx_J.step (sn_129 60) (fun _ _ => rfl) ?_
            refine JgetR (g := 10) (b := 34) hx25 (show mx_Sn _ _ 61 (mx_getf 11 10 64) from sn_129 61) a1 s1 rfl rfl (hG25.prr 1 10 rfl) ?_
            refine mx_J.step (sn_129 64) (fun _ _ => rfl) ?_
            refine JaaldR (i := 0) (b := 44) hx25 (show mx_Sn _ _ 65 (mx_aald 66) from sn_129 65) a34 s34 (by omega) (show Z25 34 0 = 44 by have hq := GI_ex hG25 34 0; replace hq : ((0 : Int) ≤ 0 → (0 : Int) ≤ 3 → (Z25 34 0) = 44 + 2 * 0) := hq; omega) ?_
            refine mx_J.step (sn_129 66) (fun _ _ => rfl) ?_
            obtain ⟨z29, hc29, b29⟩ := ct_85_44 (d := d + 0) (l := l) (D := D) (b0 := b0) (ad := ad) (Hb := Hb) (tau := tau) hx25 hG25 (show (-2147483648) ≤ x1 ∧ x1 ≤ 2147483647 by omega)
            refine Jcv hx25 (show mx_Sn _ _ 67 (mx_callv 85 2 10 70) from sn_129 67) a44 s44 hc29 rfl rfl rfl ?_
            have eq30 : Z25 44 1 = Z 44 1 := (hf25 44 1 rfl)
            have eq31 : Z25 44 2 = Z 44 2 := (hf25 44 2 rfl)
            have eq32 : Z25 44 3 = Z 44 3 := (hf25 44 3 rfl)
            have eq33 : Z25 46 1 = Z 46 1 := (hf25 46 1 rfl)
            have b34 : 0 ≤ Z 46 1 ∧ Z 46 1 ≤ 3 := hG.pr 46 1
            have eq35 : Z25 46 2 = Z 46 2 := (hf25 46 2 rfl)
            have b36 : 0 ≤ Z 46 2 ∧ Z 46 2 ≤ 40 := hG.pr 46 2
            have eq37 : Z25 46 3 = Z 46 3 := (hf25 46 3 rfl)
            have b38 : 0 ≤ Z 46 3 ∧ Z 46 3 ≤ 1 := hG.pr 46 3
            have eq39 : Z25 48 1 = Z 48 1 := (hf25 48 1 rfl)
            have b40 : 0 ≤ Z 48 1 ∧ Z 48 1 ≤ 3 := hG.pr 48 1
            have eq41 : Z25 48 2 = Z 48 2 := (hf25 48 2 rfl)
            have b42 : 0 ≤ Z 48 2 ∧ Z 48 2 ≤ 40 := hG.pr 48 2
            have eq43 : Z25 48 3 = Z 48 3 := (hf25 48 3 rfl)
            have b44 : 0 ≤ Z 48 3 ∧ Z 48 3 ≤ 1 := hG.pr 48 3
            have eq45 : Z25 50 1 = Z 50 1 := (hf25 50 1 rfl)
            have b46 : 0 ≤ Z 50 1 ∧ Z 50 1 ≤ 3 := hG.pr 50 1
            have eq47 : Z25 50 2 = Z 50 2 := (hf25 50 2 rfl)
            have b48 : 0 ≤ Z 50 2 ∧ Z 50 2 ≤ 40 := hG.pr 50 2
            have eq49 : Z25 50 3 = Z 50 3 := (hf25 50 3 rfl)
            have b50 : 0 ≤ Z 50 3 ∧ Z 50 3 ≤ 1 := hG.pr 50 3
            exact mx_J.ret (sn_129 70) (fun _ _ => rfl) (hP z29 Z25 h25 hx25 hG25 (fr_tr (M := [(45, (-1))]) fr_rf (hf25) (M1 := []) rfl rfl) ⟨(fun q => absurd q (by omega)), (fun _ _ => ⟨bs25_0, by omega⟩), (fun _ => (fun i => (hf25 47 i rfl))), (fun q => absurd q (by decide)), (fun _ => (fun i => (hf25 49 i rfl))), (fun q => absurd q (by decide)), (fun _ => (fun i => (hf25 51 i rfl))), (fun q => absurd q (by decide)), by omega⟩)
          · skip
            exact c45 (by omega)
      · skip
        refine JcL (z := (-6)) (show mx_Sn _ _ 24 (mx_const (.long (-6)) 27) from sn_129 24) rfl ?_
        have b51 : 0 ≤ Z 44 1 ∧ Z 44 1 ≤ 3 := hG.pr 44 1
        have b52 : 0 ≤ Z 44 2 ∧ Z 44 2 ≤ 40 := hG.pr 44 2
        have b53 : 0 ≤ Z 46 1 ∧ Z 46 1 ≤ 3 := hG.pr 46 1
        have b54 : 0 ≤ Z 46 2 ∧ Z 46 2 ≤ 40 := hG.pr 46 2
        have b55 : 0 ≤ Z 46 3 ∧ Z 46 3 ≤ 1 := hG.pr 46 3
        have b56 : 0 ≤ Z 48 1 ∧ Z 48 1 ≤ 3 := hG.pr 48 1
        have b57 : 0 ≤ Z 48 2 ∧ Z 48 2 ≤ 40 := hG.pr 48 2
        have b58 : 0 ≤ Z 48 3 ∧ Z 48 3 ≤ 1 := hG.pr 48 3
        have b59 : 0 ≤ Z 50 1 ∧ Z 50 1 ≤ 3 := hG.pr 50 1
        have b60 : 0 ≤ Z 50 2 ∧ Z 50 2 ≤ 40 := hG.pr 50 2
        have b61 : 0 ≤ Z 50 3 ∧ Z 50 3 ≤ 1 := hG.pr 50 3
        exact mx_J.ret (sn_129 27) (fun _ _ => rfl) (hP (-6) Z h hx hG fr_rf ⟨(fun _ => (fun i => rfl)), (fun _ q => absurd (Or.inl (by omega)) q), (fun _ => (fun i => rfl)), (fun q => absurd q (by decide)), (fun _ => (fun i => rfl)), (fun q => absurd q (by decide)), (fun _ => (fun i => rfl)), (fun q => absurd q (by decide)), by omega⟩)
    · skip
      exfalso; omega
theorem ct_129_1_i0 {l : Launch} {D : va_G} {b0 : Nat} {ad : Nat → Nat} {Hb : Heap} {tau : Nat → Int64} {d n s : Nat} {S : Nat → xS} {Z : xZ} {h : mx_H} (hx : XH n s S Z h) (hG : GI n S Z)  {x1 x2 : Int} (p1 : (-2147483648) ≤ x1 ∧ x1 ≤ 2147483647) (p2 : (-9223372036854775808) ≤ x2 ∧ x2 ≤ 9223372036854775807) : ∃ (z : Int) (Z' : xZ) (h' : mx_H), mx_Ca (tB l D b0 ad Hb tau) (d + 2) 129 [.ref 1, xI 0, xI x1, xL x2] h (some (xL z), h') ∧ XH n s S Z' h' ∧ GI n S Z' ∧ fr' [(45, (-1))] Z Z' ∧ (((¬ (0 : Int) = 0 ∨ (Z 44 3 = 1 ∨ x1 < 0 ∨ Z 44 2 ≤ x1)) → ∀ i, Z' 45 i = Z 45 i) ∧ ((0 : Int) = 0 → ¬ (Z 44 3 = 1 ∨ x1 < 0 ∨ Z 44 2 ≤ x1) → (∀ i, ¬ i = x1 → Z' 45 i = Z 45 i) ∧ Z' 45 x1 = z) ∧ ((¬ (0 : Int) = 1 ∨ (Z 46 3 = 1 ∨ x1 < 0 ∨ Z 46 2 ≤ x1)) → ∀ i, Z' 47 i = Z 47 i) ∧ ((0 : Int) = 1 → ¬ (Z 46 3 = 1 ∨ x1 < 0 ∨ Z 46 2 ≤ x1) → (∀ i, ¬ i = x1 → Z' 47 i = Z 47 i) ∧ Z' 47 x1 = z) ∧ ((¬ (0 : Int) = 2 ∨ (Z 48 3 = 1 ∨ x1 < 0 ∨ Z 48 2 ≤ x1)) → ∀ i, Z' 49 i = Z 49 i) ∧ ((0 : Int) = 2 → ¬ (Z 48 3 = 1 ∨ x1 < 0 ∨ Z 48 2 ≤ x1) → (∀ i, ¬ i = x1 → Z' 49 i = Z 49 i) ∧ Z' 49 x1 = z) ∧ ((¬ (0 : Int) = 3 ∨ (Z 50 3 = 1 ∨ x1 < 0 ∨ Z 50 2 ≤ x1)) → ∀ i, Z' 51 i = Z 51 i) ∧ ((0 : Int) = 3 → ¬ (Z 50 3 = 1 ∨ x1 < 0 ∨ Z 50 2 ≤ x1) → (∀ i, ¬ i = x1 → Z' 51 i = Z 51 i) ∧ Z' 51 x1 = z) ∧ (-9223372036854775808) ≤ z ∧ z ≤ 9223372036854775807 ∧ ((((0 : Int) < 0 ∨ 3 < (0 : Int)) → z = -2) ∧ ((0 : Int) = 0 → (Z 44 3 = 1 → z = -6) ∧ (Z 44 3 = 0 → ((x1 < 0 ∨ Z 44 2 ≤ x1) → z = -7) ∧ (¬ (x1 < 0 ∨ Z 44 2 ≤ x1) → ((Z 44 1 = 0 → -128 ≤ z ∧ z ≤ 127 ∧ (z - x2) % 256 = 0) ∧ (Z 44 1 = 1 → -32768 ≤ z ∧ z ≤ 32767 ∧ (z - x2) % 65536 = 0) ∧ (Z 44 1 = 2 → -2147483648 ≤ z ∧ z ≤ 2147483647 ∧ (z - x2) % 4294967296 = 0) ∧ (¬ Z 44 1 = 0 → ¬ Z 44 1 = 1 → ¬ Z 44 1 = 2 → z = x2))))) ∧ ((0 : Int) = 1 → (Z 46 3 = 1 → z = -6) ∧ (Z 46 3 = 0 → ((x1 < 0 ∨ Z 46 2 ≤ x1) → z = -7) ∧ (¬ (x1 < 0 ∨ Z 46 2 ≤ x1) → ((Z 46 1 = 0 → -128 ≤ z ∧ z ≤ 127 ∧ (z - x2) % 256 = 0) ∧ (Z 46 1 = 1 → -32768 ≤ z ∧ z ≤ 32767 ∧ (z - x2) % 65536 = 0) ∧ (Z 46 1 = 2 → -2147483648 ≤ z ∧ z ≤ 2147483647 ∧ (z - x2) % 4294967296 = 0) ∧ (¬ Z 46 1 = 0 → ¬ Z 46 1 = 1 → ¬ Z 46 1 = 2 → z = x2))))) ∧ ((0 : Int) = 2 → (Z 48 3 = 1 → z = -6) ∧ (Z 48 3 = 0 → ((x1 < 0 ∨ Z 48 2 ≤ x1) → z = -7) ∧ (¬ (x1 < 0 ∨ Z 48 2 ≤ x1) → ((Z 48 1 = 0 → -128 ≤ z ∧ z ≤ 127 ∧ (z - x2) % 256 = 0) ∧ (Z 48 1 = 1 → -32768 ≤ z ∧ z ≤ 32767 ∧ (z - x2) % 65536 = 0) ∧ (Z 48 1 = 2 → -2147483648 ≤ z ∧ z ≤ 2147483647 ∧ (z - x2) % 4294967296 = 0) ∧ (¬ Z 48 1 = 0 → ¬ Z 48 1 = 1 → ¬ Z 48 1 = 2 → z = x2))))) ∧ ((0 : Int) = 3 → (Z 50 3 = 1 → z = -6) ∧ (Z 50 3 = 0 → ((x1 < 0 ∨ Z 50 2 ≤ x1) → z = -7) ∧ (¬ (x1 < 0 ∨ Z 50 2 ≤ x1) → ((Z 50 1 = 0 → -128 ≤ z ∧ z ≤ 127 ∧ (z - x2) % 256 = 0) ∧ (Z 50 1 = 1 → -32768 ≤ z ∧ z ≤ 32767 ∧ (z - x2) % 65536 = 0) ∧ (Z 50 1 = 2 → -2147483648 ≤ z ∧ z ≤ 2147483647 ∧ (z - x2) % 4294967296 = 0) ∧ (¬ Z 50 1 = 0 → ¬ Z 50 1 = 1 → ¬ Z 50 1 = 2 → z = x2))))))) := by
  obtain ⟨r, hca, z, Z', h', e, q⟩ := Jmt (B := tB l D b0 ad Hb tau) (M := mt_129) (mi := 129) (as := [.ref 1, xI 0, xI x1, xL x2]) (d := d + 1) (ls := [some (.ref 1), some (xI 0), some (xI x1), some (xL x2), none]) rfl rfl rfl rfl rfl rfl (cw_129_1_i0 (l := l) (D := D) (b0 := b0) (ad := ad) (Hb := Hb) (tau := tau) (d := d) (Post := fun r => ∃ (z : Int) (Z' : xZ) (h' : mx_H), r = (some (xL z), h') ∧ XH n s S Z' h' ∧ GI n S Z' ∧ fr' [(45, (-1))] Z Z' ∧ (((¬ (0 : Int) = 0 ∨ (Z 44 3 = 1 ∨ x1 < 0 ∨ Z 44 2 ≤ x1)) → ∀ i, Z' 45 i = Z 45 i) ∧ ((0 : Int) = 0 → ¬ (Z 44 3 = 1 ∨ x1 < 0 ∨ Z 44 2 ≤ x1) → (∀ i, ¬ i = x1 → Z' 45 i = Z 45 i) ∧ Z' 45 x1 = z) ∧ ((¬ (0 : Int) = 1 ∨ (Z 46 3 = 1 ∨ x1 < 0 ∨ Z 46 2 ≤ x1)) → ∀ i, Z' 47 i = Z 47 i) ∧ ((0 : Int) = 1 → ¬ (Z 46 3 = 1 ∨ x1 < 0 ∨ Z 46 2 ≤ x1) → (∀ i, ¬ i = x1 → Z' 47 i = Z 47 i) ∧ Z' 47 x1 = z) ∧ ((¬ (0 : Int) = 2 ∨ (Z 48 3 = 1 ∨ x1 < 0 ∨ Z 48 2 ≤ x1)) → ∀ i, Z' 49 i = Z 49 i) ∧ ((0 : Int) = 2 → ¬ (Z 48 3 = 1 ∨ x1 < 0 ∨ Z 48 2 ≤ x1) → (∀ i, ¬ i = x1 → Z' 49 i = Z 49 i) ∧ Z' 49 x1 = z) ∧ ((¬ (0 : Int) = 3 ∨ (Z 50 3 = 1 ∨ x1 < 0 ∨ Z 50 2 ≤ x1)) → ∀ i, Z' 51 i = Z 51 i) ∧ ((0 : Int) = 3 → ¬ (Z 50 3 = 1 ∨ x1 < 0 ∨ Z 50 2 ≤ x1) → (∀ i, ¬ i = x1 → Z' 51 i = Z 51 i) ∧ Z' 51 x1 = z) ∧ (-9223372036854775808) ≤ z ∧ z ≤ 9223372036854775807 ∧ ((((0 : Int) < 0 ∨ 3 < (0 : Int)) → z = -2) ∧ ((0 : Int) = 0 → (Z 44 3 = 1 → z = -6) ∧ (Z 44 3 = 0 → ((x1 < 0 ∨ Z 44 2 ≤ x1) → z = -7) ∧ (¬ (x1 < 0 ∨ Z 44 2 ≤ x1) → ((Z 44 1 = 0 → -128 ≤ z ∧ z ≤ 127 ∧ (z - x2) % 256 = 0) ∧ (Z 44 1 = 1 → -32768 ≤ z ∧ z ≤ 32767 ∧ (z - x2) % 65536 = 0) ∧ (Z 44 1 = 2 → -2147483648 ≤ z ∧ z ≤ 2147483647 ∧ (z - x2) % 4294967296 = 0) ∧ (¬ Z 44 1 = 0 → ¬ Z 44 1 = 1 → ¬ Z 44 1 = 2 → z = x2))))) ∧ ((0 : Int) = 1 → (Z 46 3 = 1 → z = -6) ∧ (Z 46 3 = 0 → ((x1 < 0 ∨ Z 46 2 ≤ x1) → z = -7) ∧ (¬ (x1 < 0 ∨ Z 46 2 ≤ x1) → ((Z 46 1 = 0 → -128 ≤ z ∧ z ≤ 127 ∧ (z - x2) % 256 = 0) ∧ (Z 46 1 = 1 → -32768 ≤ z ∧ z ≤ 32767 ∧ (z - x2) % 65536 = 0) ∧ (Z 46 1 = 2 → -2147483648 ≤ z ∧ z ≤ 2147483647 ∧ (z - x2) % 4294967296 = 0) ∧ (¬ Z 46 1 = 0 → ¬ Z 46 1 = 1 → ¬ Z 46 1 = 2 → z = x2))))) ∧ ((0 : Int) = 2 → (Z 48 3 = 1 → z = -6) ∧ (Z 48 3 = 0 → ((x1 < 0 ∨ Z 48 2 ≤ x1) → z = -7) ∧ (¬ (x1 < 0 ∨ Z 48 2 ≤ x1) → ((Z 48 1 = 0 → -128 ≤ z ∧ z ≤ 127 ∧ (z - x2) % 256 = 0) ∧ (Z 48 1 = 1 → -32768 ≤ z ∧ z ≤ 32767 ∧ (z - x2) % 65536 = 0) ∧ (Z 48 1 = 2 → -2147483648 ≤ z ∧ z ≤ 2147483647 ∧ (z - x2) % 4294967296 = 0) ∧ (¬ Z 48 1 = 0 → ¬ Z 48 1 = 1 → ¬ Z 48 1 = 2 → z = x2))))) ∧ ((0 : Int) = 3 → (Z 50 3 = 1 → z = -6) ∧ (Z 50 3 = 0 → ((x1 < 0 ∨ Z 50 2 ≤ x1) → z = -7) ∧ (¬ (x1 < 0 ∨ Z 50 2 ≤ x1) → ((Z 50 1 = 0 → -128 ≤ z ∧ z ≤ 127 ∧ (z - x2) % 256 = 0) ∧ (Z 50 1 = 1 → -32768 ≤ z ∧ z ≤ 32767 ∧ (z - x2) % 65536 = 0) ∧ (Z 50 1 = 2 → -2147483648 ≤ z ∧ z ≤ 2147483647 ∧ (z - x2) % 4294967296 = 0) ∧ (¬ Z 50 1 = 0 → ¬ Z 50 1 = 1 → ¬ Z 50 1 = 2 → z = x2)))))))) hx hG p1 p2 (fun z Z' h' q1 q2 q3 q4 => ⟨z, Z', h', rfl, q1, q2, q3, q4⟩))
  subst e; exact ⟨z, Z', h', hca, q⟩
set_option maxRecDepth 100000 in
theorem cw_129_1_i1 {l : Launch} {D : va_G} {b0 : Nat} {ad : Nat → Nat} {Hb : Heap} {tau : Nat → Int64} {d n s : Nat} {S : Nat → xS} {Z : xZ} {h : mx_H} {Post : mx_R → Prop} (hx : XH n s S Z h) (hG : GI n S Z)  {x1 x2 : Int} (p1 : (-2147483648) ≤ x1 ∧ x1 ≤ 2147483647) (p2 : (-9223372036854775808) ≤ x2 ∧ x2 ≤ 9223372036854775807) (hP : ∀ (z : Int) (Z' : xZ) (h' : mx_H), XH n s S Z' h' → GI n S Z' → fr' [(47, (-1))] Z Z' → ((¬ (1 : Int) = 0 ∨ (Z 44 3 = 1 ∨ x1 < 0 ∨ Z 44 2 ≤ x1)) → ∀ i, Z' 45 i = Z 45 i) ∧ ((1 : Int) = 0 → ¬ (Z 44 3 = 1 ∨ x1 < 0 ∨ Z 44 2 ≤ x1) → (∀ i, ¬ i = x1 → Z' 45 i = Z 45 i) ∧ Z' 45 x1 = z) ∧ ((¬ (1 : Int) = 1 ∨ (Z 46 3 = 1 ∨ x1 < 0 ∨ Z 46 2 ≤ x1)) → ∀ i, Z' 47 i = Z 47 i) ∧ ((1 : Int) = 1 → ¬ (Z 46 3 = 1 ∨ x1 < 0 ∨ Z 46 2 ≤ x1) → (∀ i, ¬ i = x1 → Z' 47 i = Z 47 i) ∧ Z' 47 x1 = z) ∧ ((¬ (1 : Int) = 2 ∨ (Z 48 3 = 1 ∨ x1 < 0 ∨ Z 48 2 ≤ x1)) → ∀ i, Z' 49 i = Z 49 i) ∧ ((1 : Int) = 2 → ¬ (Z 48 3 = 1 ∨ x1 < 0 ∨ Z 48 2 ≤ x1) → (∀ i, ¬ i = x1 → Z' 49 i = Z 49 i) ∧ Z' 49 x1 = z) ∧ ((¬ (1 : Int) = 3 ∨ (Z 50 3 = 1 ∨ x1 < 0 ∨ Z 50 2 ≤ x1)) → ∀ i, Z' 51 i = Z 51 i) ∧ ((1 : Int) = 3 → ¬ (Z 50 3 = 1 ∨ x1 < 0 ∨ Z 50 2 ≤ x1) → (∀ i, ¬ i = x1 → Z' 51 i = Z 51 i) ∧ Z' 51 x1 = z) ∧ (-9223372036854775808) ≤ z ∧ z ≤ 9223372036854775807 ∧ ((((1 : Int) < 0 ∨ 3 < (1 : Int)) → z = -2) ∧ ((1 : Int) = 0 → (Z 44 3 = 1 → z = -6) ∧ (Z 44 3 = 0 → ((x1 < 0 ∨ Z 44 2 ≤ x1) → z = -7) ∧ (¬ (x1 < 0 ∨ Z 44 2 ≤ x1) → ((Z 44 1 = 0 → -128 ≤ z ∧ z ≤ 127 ∧ (z - x2) % 256 = 0) ∧ (Z 44 1 = 1 → -32768 ≤ z ∧ z ≤ 32767 ∧ (z - x2) % 65536 = 0) ∧ (Z 44 1 = 2 → -2147483648 ≤ z ∧ z ≤ 2147483647 ∧ (z - x2) % 4294967296 = 0) ∧ (¬ Z 44 1 = 0 → ¬ Z 44 1 = 1 → ¬ Z 44 1 = 2 → z = x2))))) ∧ ((1 : Int) = 1 → (Z 46 3 = 1 → z = -6) ∧ (Z 46 3 = 0 → ((x1 < 0 ∨ Z 46 2 ≤ x1) → z = -7) ∧ (¬ (x1 < 0 ∨ Z 46 2 ≤ x1) → ((Z 46 1 = 0 → -128 ≤ z ∧ z ≤ 127 ∧ (z - x2) % 256 = 0) ∧ (Z 46 1 = 1 → -32768 ≤ z ∧ z ≤ 32767 ∧ (z - x2) % 65536 = 0) ∧ (Z 46 1 = 2 → -2147483648 ≤ z ∧ z ≤ 2147483647 ∧ (z - x2) % 4294967296 = 0) ∧ (¬ Z 46 1 = 0 → ¬ Z 46 1 = 1 → ¬ Z 46 1 = 2 → z = x2))))) ∧ ((1 : Int) = 2 → (Z 48 3 = 1 → z = -6) ∧ (Z 48 3 = 0 → ((x1 < 0 ∨ Z 48 2 ≤ x1) → z = -7) ∧ (¬ (x1 < 0 ∨ Z 48 2 ≤ x1) → ((Z 48 1 = 0 → -128 ≤ z ∧ z ≤ 127 ∧ (z - x2) % 256 = 0) ∧ (Z 48 1 = 1 → -32768 ≤ z ∧ z ≤ 32767 ∧ (z - x2) % 65536 = 0) ∧ (Z 48 1 = 2 → -2147483648 ≤ z ∧ z ≤ 2147483647 ∧ (z - x2) % 4294967296 = 0) ∧ (¬ Z 48 1 = 0 → ¬ Z 48 1 = 1 → ¬ Z 48 1 = 2 → z = x2))))) ∧ ((1 : Int) = 3 → (Z 50 3 = 1 → z = -6) ∧ (Z 50 3 = 0 → ((x1 < 0 ∨ Z 50 2 ≤ x1) → z = -7) ∧ (¬ (x1 < 0 ∨ Z 50 2 ≤ x1) → ((Z 50 1 = 0 → -128 ≤ z ∧ z ≤ 127 ∧ (z - x2) % 256 = 0) ∧ (Z 50 1 = 1 → -32768 ≤ z ∧ z ≤ 32767 ∧ (z - x2) % 65536 = 0) ∧ (Z 50 1 = 2 → -2147483648 ≤ z ∧ z ≤ 2147483647 ∧ (z - x2) % 4294967296 = 0) ∧ (¬ Z 50 1 = 0 → ¬ Z 50 1 = 1 → ¬ Z 50 1 = 2 → z = x2)))))) → Post (some (xL z), h')) : mx_J (tB l D b0 ad Hb tau) mt_129 (d + 1) 0 [some (.ref 1), some (xI 1), some (xI x1), some (xL x2), none] [] h Post := by
    have a1 : 1 < n := lt83 (GI_n hG) rfl
    have s1 : S 1 = .inl (11, [2, 0, 0, 0, 2, 2, 2, 2, 2, 2, 2, 2, 2, 2, 2, 2, 2]) := GI_s hG 1 rfl
    have a34 : 34 < n := lt83 (GI_n hG) rfl
    have s34 : S 34 = .inr ((.object "TitheHeap$Tray"), 4, 2) := GI_s hG 34 rfl
    have a46 : 46 < n := lt83 (GI_n hG) rfl
    have s46 : S 46 = .inl (10, [2, 0, 0, 0]) := GI_s hG 46 rfl
    refine mx_J.step (sn_129 0) (fun _ _ => rfl) ?_
    refine mx_J.step (sn_129 1) (fun _ _ => rfl) ?_
    obtain ⟨z1, hc1, b1⟩ := ct_144_1_y (d := d + 0) (l := l) (D := D) (b0 := b0) (ad := ad) (Hb := Hb) (tau := tau) hx hG (show 0 ≤ 1 ∧ 1 ≤ 3 by omega)
    refine Jcv hx (show mx_Sn _ _ 2 (mx_callv 144 2 11 5) from sn_129 2) a1 s1 hc1 rfl rfl rfl ?_
    refine Jif_eq (show mx_Sn _ _ 5 (mx_if_eq 12 8) from sn_129 5) (by omega) (fun q2 => ?_) (fun q2 => ?_)
    · skip
      refine mx_J.step (sn_129 12) (fun _ _ => rfl) ?_
      refine JgetR (g := 10) (b := 34) hx (show mx_Sn _ _ 13 (mx_getf 11 10 16) from sn_129 13) a1 s1 rfl rfl (hG.prr 1 10 rfl) ?_
      refine mx_J.step (sn_129 16) (fun _ _ => rfl) ?_
      refine JaaldR (i := 1) (b := 46) hx (show mx_Sn _ _ 17 (mx_aald 18) from sn_129 17) a34 s34 (by omega) (show Z 34 1 = 46 by have hq := GI_ex hG 34 1; replace hq : ((0 : Int) ≤ 1 → (1 : Int) ≤ 3 → (Z 34 1) = 44 + 2 * 1) := hq; omega) ?_
      have b5 : 0 ≤ Z 46 3 ∧ Z 46 3 ≤ 1 := hG.pr 46 3
      refine JgetI (g := 3) (z := Z 46 3) hx (show mx_Sn _ _ 18 (mx_getf 10 3 21) from sn_129 18) a46 s46 rfl rfl rfl ?_
      refine Jif_eq (show mx_Sn _ _ 21 (mx_if_eq 28 24) from sn_129 21) (by omega) (fun q6 => ?_) (fun q6 => ?_)
      · skip
        refine mx_J.step (sn_129 28) (fun _ _ => rfl) ?_
        have c45 : (x1 < 0 ∨ Z 46 2 ≤ x1) → mx_J (tB l D b0 ad Hb tau) mt_129 (d + 1) 45 [some (.ref 1), some (xI 1), some (xI x1), some (xL x2), none] [] h Post := by
          intro f7_0
          refine JcL (z := (-7)) (show mx_Sn _ _ 45 (mx_const (.long (-7)) 48) from sn_129 45) rfl ?_
          have b8 : 0 ≤ Z 44 1 ∧ Z 44 1 ≤ 3 := hG.pr 44 1
          have b9 : 0 ≤ Z 44 2 ∧ Z 44 2 ≤ 40 := hG.pr 44 2
          have b10 : 0 ≤ Z 44 3 ∧ Z 44 3 ≤ 1 := hG.pr 44 3
          have b11 : 0 ≤ Z 46 1 ∧ Z 46 1 ≤ 3 := hG.pr 46 1
          have b12 : 0 ≤ Z 46 2 ∧ Z 46 2 ≤ 40 := hG.pr 46 2
          have b13 : 0 ≤ Z 48 1 ∧ Z 48 1 ≤ 3 := hG.pr 48 1
          have b14 : 0 ≤ Z 48 2 ∧ Z 48 2 ≤ 40 := hG.pr 48 2
          have b15 : 0 ≤ Z 48 3 ∧ Z 48 3 ≤ 1 := hG.pr 48 3
          have b16 : 0 ≤ Z 50 1 ∧ Z 50 1 ≤ 3 := hG.pr 50 1
          have b17 : 0 ≤ Z 50 2 ∧ Z 50 2 ≤ 40 := hG.pr 50 2
          have b18 : 0 ≤ Z 50 3 ∧ Z 50 3 ≤ 1 := hG.pr 50 3
          exact mx_J.ret (sn_129 48) (fun _ _ => rfl) (hP (-7) Z h hx hG fr_rf ⟨(fun _ => (fun i => rfl)), (fun q => absurd q (by decide)), (fun _ => (fun i => rfl)), (fun _ q => absurd (by omega) q), (fun _ => (fun i => rfl)), (fun q => absurd q (by decide)), (fun _ => (fun i => rfl)), (fun q => absurd q (by decide)), by omega⟩)
        refine Jif_lt (show mx_Sn _ _ 29 (mx_if_lt 45 32) from sn_129 29) (by omega) (fun q19 => ?_) (fun q19 => ?_)
        · skip
          exact c45 (by omega)
        · skip
          refine mx_J.step (sn_129 32) (fun _ _ => rfl) ?_
          refine mx_J.step (sn_129 33) (fun _ _ => rfl) ?_
          refine JgetR (g := 10) (b := 34) hx (show mx_Sn _ _ 34 (mx_getf 11 10 37) from sn_129 34) a1 s1 rfl rfl (hG.prr 1 10 rfl) ?_
          refine mx_J.step (sn_129 37) (fun _ _ => rfl) ?_
          refine JaaldR (i := 1) (b := 46) hx (show mx_Sn _ _ 38 (mx_aald 39) from sn_129 38) a34 s34 (by omega) (show Z 34 1 = 46 by have hq := GI_ex hG 34 1; replace hq : ((0 : Int) ≤ 1 → (1 : Int) ≤ 3 → (Z 34 1) = 44 + 2 * 1) := hq; omega) ?_
          have b22 : 0 ≤ Z 46 2 ∧ Z 46 2 ≤ 40 := hG.pr 46 2
          refine JgetI (g := 2) (z := Z 46 2) hx (show mx_Sn _ _ 39 (mx_getf 10 2 42) from sn_129 39) a46 s46 rfl rfl rfl ?_
          refine Jicmp_lt (show mx_Sn _ _ 42 (mx_icmp_lt 49 45) from sn_129 42) (by omega) (by omega) (fun q23 => ?_) (fun q23 => ?_)
          · skip
            refine mx_J.step (sn_129 49) (fun _ _ => rfl) ?_
            refine JgetR (g := 10) (b := 34) hx (show mx_Sn _ _ 50 (mx_getf 11 10 53) from sn_129 50) a1 s1 rfl rfl (hG.prr 1 10 rfl) ?_
            refine mx_J.step (sn_129 53) (fun _ _ => rfl) ?_
            refine JaaldR (i := 1) (b := 46) hx (show mx_Sn _ _ 54 (mx_aald 55) from sn_129 54) a34 s34 (by omega) (show Z 34 1 = 46 by have hq := GI_ex hG 34 1; replace hq : ((0 : Int) ≤ 1 → (1 : Int) ≤ 3 → (Z 34 1) = 44 + 2 * 1) := hq; omega) ?_
            refine mx_J.step (sn_129 55) (fun _ _ => rfl) ?_
            refine mx_J.step (sn_129 56) (fun _ _ => rfl) ?_
            have b26 : 0 ≤ Z 46 1 ∧ Z 46 1 ≤ 3 := hG.pr 46 1
            obtain ⟨Z25, h25, hc25, hx25, hG25, hf25, b25⟩ := ct_84_46 (d := d + 0) (l := l) (D := D) (b0 := b0) (ad := ad) (Hb := Hb) (tau := tau) hx hG (show (-2147483648) ≤ x1 ∧ x1 ≤ 2147483647 by omega) (show (-9223372036854775808) ≤ x2 ∧ x2 ≤ 9223372036854775807 by omega)
            obtain ⟨bs25_0, b25⟩ := b25
            have b27 : (-9223372036854775808) ≤ Z25 47 x1 ∧ Z25 47 x1 ≤ 9223372036854775807 := hG25.pr 47 x1
            refine Jcv0 hx (show mx_Sn _ _ 57 (mx_callv 84 3 10 60) from sn_129 57) a46 s46 hc25 rfl rfl rfl ?_
            refine mx_J.step (sn_129 60) (fun _ _ => rfl) ?_
            refine JgetR (g := 10) (b := 34) hx25 (show mx_Sn _ _ 61 (mx_getf 11 10 64) from sn_129 61) a1 s1 rfl rfl (hG25.prr 1 10 rfl) ?_
            refine mx_J.step (sn_129 64) (fun _ _ => rfl) ?_
            refine JaaldR (i := 1) (b := 46) hx25 (show mx_Sn _ _ 65 (mx_aald 66) from sn_129 65) a34 s34 (by omega) (show Z25 34 1 = 46 by have hq := GI_ex hG25 34 1; replace hq : ((0 : Int) ≤ 1 → (1 : Int) ≤ 3 → (Z25 34 1) = 44 + 2 * 1) := hq; omega) ?_
            refine mx_J.step (sn_129 66) (fun _ _ => rfl) ?_
            obtain ⟨z29, hc29, b29⟩ := ct_85_46 (d := d + 0) (l := l) (D := D) (b0 := b0) (ad := ad) (Hb := Hb) (tau := tau) hx25 hG25 (show (-2147483648) ≤ x1 ∧ x1 ≤ 2147483647 by omega)
            refine Jcv hx25 (show mx_Sn _ _ 67 (mx_callv 85 2 10 70) from sn_129 67) a46 s46 hc29 rfl rfl rfl ?_
            have eq30 : Z25 44 1 = Z 44 1 := (hf25 44 1 rfl)
            have b31 : 0 ≤ Z 44 1 ∧ Z 44 1 ≤ 3 := hG.pr 44 1
            have eq32 : Z25 44 2 = Z 44 2 := (hf25 44 2 rfl)
            have b33 : 0 ≤ Z 44 2 ∧ Z 44 2 ≤ 40 := hG.pr 44 2
            have eq34 : Z25 44 3 = Z 44 3 := (hf25 44 3 rfl)
            have b35 : 0 ≤ Z 44 3 ∧ Z 44 3 ≤ 1 := hG.pr 44 3
            have eq36 : Z25 46 1 = Z 46 1 := (hf25 46 1 rfl)
            have eq37 : Z25 46 2 = Z 46 2 := (hf25 46 2 rfl)
            have eq38 : Z25 46 3 = Z 46 3 := (hf25 46 3 rfl)
            have eq39 : Z25 48 1 = Z 48 1 := (hf25 48 1 rfl)
            have b40 : 0 ≤ Z 48 1 ∧ Z 48 1 ≤ 3 := hG.pr 48 1
            have eq41 : Z25 48 2 = Z 48 2 := (hf25 48 2 rfl)
            have b42 : 0 ≤ Z 48 2 ∧ Z 48 2 ≤ 40 := hG.pr 48 2
            have eq43 : Z25 48 3 = Z 48 3 := (hf25 48 3 rfl)
            have b44 : 0 ≤ Z 48 3 ∧ Z 48 3 ≤ 1 := hG.pr 48 3
            have eq45 : Z25 50 1 = Z 50 1 := (hf25 50 1 rfl)
            have b46 : 0 ≤ Z 50 1 ∧ Z 50 1 ≤ 3 := hG.pr 50 1
            have eq47 : Z25 50 2 = Z 50 2 := (hf25 50 2 rfl)
            have b48 : 0 ≤ Z 50 2 ∧ Z 50 2 ≤ 40 := hG.pr 50 2
            have eq49 : Z25 50 3 = Z 50 3 := (hf25 50 3 rfl)
            have b50 : 0 ≤ Z 50 3 ∧ Z 50 3 ≤ 1 := hG.pr 50 3
            exact mx_J.ret (sn_129 70) (fun _ _ => rfl) (hP z29 Z25 h25 hx25 hG25 (fr_tr (M := [(47, (-1))]) fr_rf (hf25) (M1 := []) rfl rfl) ⟨(fun _ => (fun i => (hf25 45 i rfl))), (fun q => absurd q (by decide)), (fun q => absurd q (by omega)), (fun _ _ => ⟨bs25_0, by omega⟩), (fun _ => (fun i => (hf25 49 i rfl))), (fun q => absurd q (by decide)), (fun _ => (fun i => (hf25 51 i rfl))), (fun q => absurd q (by decide)), by omega⟩)
          · skip
            exact c45 (by omega)
      · skip
        refine JcL (z := (-6)) (show mx_Sn _ _ 24 (mx_const (.long (-6)) 27) from sn_129 24) rfl ?_
        have b51 : 0 ≤ Z 44 1 ∧ Z 44 1 ≤ 3 := hG.pr 44 1
        have b52 : 0 ≤ Z 44 2 ∧ Z 44 2 ≤ 40 := hG.pr 44 2
        have b53 : 0 ≤ Z 44 3 ∧ Z 44 3 ≤ 1 := hG.pr 44 3
        have b54 : 0 ≤ Z 46 1 ∧ Z 46 1 ≤ 3 := hG.pr 46 1
        have b55 : 0 ≤ Z 46 2 ∧ Z 46 2 ≤ 40 := hG.pr 46 2
        have b56 : 0 ≤ Z 48 1 ∧ Z 48 1 ≤ 3 := hG.pr 48 1
        have b57 : 0 ≤ Z 48 2 ∧ Z 48 2 ≤ 40 := hG.pr 48 2
        have b58 : 0 ≤ Z 48 3 ∧ Z 48 3 ≤ 1 := hG.pr 48 3
        have b59 : 0 ≤ Z 50 1 ∧ Z 50 1 ≤ 3 := hG.pr 50 1
        have b60 : 0 ≤ Z 50 2 ∧ Z 50 2 ≤ 40 := hG.pr 50 2
        have b61 : 0 ≤ Z 50 3 ∧ Z 50 3 ≤ 1 := hG.pr 50 3
        exact mx_J.ret (sn_129 27) (fun _ _ => rfl) (hP (-6) Z h hx hG fr_rf ⟨(fun _ => (fun i => rfl)), (fun q => absurd q (by decide)), (fun _ => (fun i => rfl)), (fun _ q => absurd (Or.inl (by omega)) q), (fun _ => (fun i => rfl)), (fun q => absurd q (by decide)), (fun _ => (fun i => rfl)), (fun q => absurd q (by decide)), by omega⟩)
    · skip
      exfalso; omega
theorem ct_129_1_i1 {l : Launch} {D : va_G} {b0 : Nat} {ad : Nat → Nat} {Hb : Heap} {tau : Nat → Int64} {d n s : Nat} {S : Nat → xS} {Z : xZ} {h : mx_H} (hx : XH n s S Z h) (hG : GI n S Z)  {x1 x2 : Int} (p1 : (-2147483648) ≤ x1 ∧ x1 ≤ 2147483647) (p2 : (-9223372036854775808) ≤ x2 ∧ x2 ≤ 9223372036854775807) : ∃ (z : Int) (Z' : xZ) (h' : mx_H), mx_Ca (tB l D b0 ad Hb tau) (d + 2) 129 [.ref 1, xI 1, xI x1, xL x2] h (some (xL z), h') ∧ XH n s S Z' h' ∧ GI n S Z' ∧ fr' [(47, (-1))] Z Z' ∧ (((¬ (1 : Int) = 0 ∨ (Z 44 3 = 1 ∨ x1 < 0 ∨ Z 44 2 ≤ x1)) → ∀ i, Z' 45 i = Z 45 i) ∧ ((1 : Int) = 0 → ¬ (Z 44 3 = 1 ∨ x1 < 0 ∨ Z 44 2 ≤ x1) → (∀ i, ¬ i = x1 → Z' 45 i = Z 45 i) ∧ Z' 45 x1 = z) ∧ ((¬ (1 : Int) = 1 ∨ (Z 46 3 = 1 ∨ x1 < 0 ∨ Z 46 2 ≤ x1)) → ∀ i, Z' 47 i = Z 47 i) ∧ ((1 : Int) = 1 → ¬ (Z 46 3 = 1 ∨ x1 < 0 ∨ Z 46 2 ≤ x1) → (∀ i, ¬ i = x1 → Z' 47 i = Z 47 i) ∧ Z' 47 x1 = z) ∧ ((¬ (1 : Int) = 2 ∨ (Z 48 3 = 1 ∨ x1 < 0 ∨ Z 48 2 ≤ x1)) → ∀ i, Z' 49 i = Z 49 i) ∧ ((1 : Int) = 2 → ¬ (Z 48 3 = 1 ∨ x1 < 0 ∨ Z 48 2 ≤ x1) → (∀ i, ¬ i = x1 → Z' 49 i = Z 49 i) ∧ Z' 49 x1 = z) ∧ ((¬ (1 : Int) = 3 ∨ (Z 50 3 = 1 ∨ x1 < 0 ∨ Z 50 2 ≤ x1)) → ∀ i, Z' 51 i = Z 51 i) ∧ ((1 : Int) = 3 → ¬ (Z 50 3 = 1 ∨ x1 < 0 ∨ Z 50 2 ≤ x1) → (∀ i, ¬ i = x1 → Z' 51 i = Z 51 i) ∧ Z' 51 x1 = z) ∧ (-9223372036854775808) ≤ z ∧ z ≤ 9223372036854775807 ∧ ((((1 : Int) < 0 ∨ 3 < (1 : Int)) → z = -2) ∧ ((1 : Int) = 0 → (Z 44 3 = 1 → z = -6) ∧ (Z 44 3 = 0 → ((x1 < 0 ∨ Z 44 2 ≤ x1) → z = -7) ∧ (¬ (x1 < 0 ∨ Z 44 2 ≤ x1) → ((Z 44 1 = 0 → -128 ≤ z ∧ z ≤ 127 ∧ (z - x2) % 256 = 0) ∧ (Z 44 1 = 1 → -32768 ≤ z ∧ z ≤ 32767 ∧ (z - x2) % 65536 = 0) ∧ (Z 44 1 = 2 → -2147483648 ≤ z ∧ z ≤ 2147483647 ∧ (z - x2) % 4294967296 = 0) ∧ (¬ Z 44 1 = 0 → ¬ Z 44 1 = 1 → ¬ Z 44 1 = 2 → z = x2))))) ∧ ((1 : Int) = 1 → (Z 46 3 = 1 → z = -6) ∧ (Z 46 3 = 0 → ((x1 < 0 ∨ Z 46 2 ≤ x1) → z = -7) ∧ (¬ (x1 < 0 ∨ Z 46 2 ≤ x1) → ((Z 46 1 = 0 → -128 ≤ z ∧ z ≤ 127 ∧ (z - x2) % 256 = 0) ∧ (Z 46 1 = 1 → -32768 ≤ z ∧ z ≤ 32767 ∧ (z - x2) % 65536 = 0) ∧ (Z 46 1 = 2 → -2147483648 ≤ z ∧ z ≤ 2147483647 ∧ (z - x2) % 4294967296 = 0) ∧ (¬ Z 46 1 = 0 → ¬ Z 46 1 = 1 → ¬ Z 46 1 = 2 → z = x2))))) ∧ ((1 : Int) = 2 → (Z 48 3 = 1 → z = -6) ∧ (Z 48 3 = 0 → ((x1 < 0 ∨ Z 48 2 ≤ x1) → z = -7) ∧ (¬ (x1 < 0 ∨ Z 48 2 ≤ x1) → ((Z 48 1 = 0 → -128 ≤ z ∧ z ≤ 127 ∧ (z - x2) % 256 = 0) ∧ (Z 48 1 = 1 → -32768 ≤ z ∧ z ≤ 32767 ∧ (z - x2) % 65536 = 0) ∧ (Z 48 1 = 2 → -2147483648 ≤ z ∧ z ≤ 2147483647 ∧ (z - x2) % 4294967296 = 0) ∧ (¬ Z 48 1 = 0 → ¬ Z 48 1 = 1 → ¬ Z 48 1 = 2 → z = x2))))) ∧ ((1 : Int) = 3 → (Z 50 3 = 1 → z = -6) ∧ (Z 50 3 = 0 → ((x1 < 0 ∨ Z 50 2 ≤ x1) → z = -7) ∧ (¬ (x1 < 0 ∨ Z 50 2 ≤ x1) → ((Z 50 1 = 0 → -128 ≤ z ∧ z ≤ 127 ∧ (z - x2) % 256 = 0) ∧ (Z 50 1 = 1 → -32768 ≤ z ∧ z ≤ 32767 ∧ (z - x2) % 65536 = 0) ∧ (Z 50 1 = 2 → -2147483648 ≤ z ∧ z ≤ 2147483647 ∧ (z - x2) % 4294967296 = 0) ∧ (¬ Z 50 1 = 0 → ¬ Z 50 1 = 1 → ¬ Z 50 1 = 2 → z = x2))))))) := by
  obtain ⟨r, hca, z, Z', h', e, q⟩ := Jmt (B := tB l D b0 ad Hb tau) (M := mt_129) (mi := 129) (as := [.ref 1, xI 1, xI x1, xL x2]) (d := d + 1) (ls := [some (.ref 1), some (xI 1), some (xI x1), some (xL x2), none]) rfl rfl rfl rfl rfl rfl (cw_129_1_i1 (l := l) (D := D) (b0 := b0) (ad := ad) (Hb := Hb) (tau := tau) (d := d) (Post := fun r => ∃ (z : Int) (Z' : xZ) (h' : mx_H), r = (some (xL z), h') ∧ XH n s S Z' h' ∧ GI n S Z' ∧ fr' [(47, (-1))] Z Z' ∧ (((¬ (1 : Int) = 0 ∨ (Z 44 3 = 1 ∨ x1 < 0 ∨ Z 44 2 ≤ x1)) → ∀ i, Z' 45 i = Z 45 i) ∧ ((1 : Int) = 0 → ¬ (Z 44 3 = 1 ∨ x1 < 0 ∨ Z 44 2 ≤ x1) → (∀ i, ¬ i = x1 → Z' 45 i = Z 45 i) ∧ Z' 45 x1 = z) ∧ ((¬ (1 : Int) = 1 ∨ (Z 46 3 = 1 ∨ x1 < 0 ∨ Z 46 2 ≤ x1)) → ∀ i, Z' 47 i = Z 47 i) ∧ ((1 : Int) = 1 → ¬ (Z 46 3 = 1 ∨ x1 < 0 ∨ Z 46 2 ≤ x1) → (∀ i, ¬ i = x1 → Z' 47 i = Z 47 i) ∧ Z' 47 x1 = z) ∧ ((¬ (1 : Int) = 2 ∨ (Z 48 3 = 1 ∨ x1 < 0 ∨ Z 48 2 ≤ x1)) → ∀ i, Z' 49 i = Z 49 i) ∧ ((1 : Int) = 2 → ¬ (Z 48 3 = 1 ∨ x1 < 0 ∨ Z 48 2 ≤ x1) → (∀ i, ¬ i = x1 → Z' 49 i = Z 49 i) ∧ Z' 49 x1 = z) ∧ ((¬ (1 : Int) = 3 ∨ (Z 50 3 = 1 ∨ x1 < 0 ∨ Z 50 2 ≤ x1)) → ∀ i, Z' 51 i = Z 51 i) ∧ ((1 : Int) = 3 → ¬ (Z 50 3 = 1 ∨ x1 < 0 ∨ Z 50 2 ≤ x1) → (∀ i, ¬ i = x1 → Z' 51 i = Z 51 i) ∧ Z' 51 x1 = z) ∧ (-9223372036854775808) ≤ z ∧ z ≤ 9223372036854775807 ∧ ((((1 : Int) < 0 ∨ 3 < (1 : Int)) → z = -2) ∧ ((1 : Int) = 0 → (Z 44 3 = 1 → z = -6) ∧ (Z 44 3 = 0 → ((x1 < 0 ∨ Z 44 2 ≤ x1) → z = -7) ∧ (¬ (x1 < 0 ∨ Z 44 2 ≤ x1) → ((Z 44 1 = 0 → -128 ≤ z ∧ z ≤ 127 ∧ (z - x2) % 256 = 0) ∧ (Z 44 1 = 1 → -32768 ≤ z ∧ z ≤ 32767 ∧ (z - x2) % 65536 = 0) ∧ (Z 44 1 = 2 → -2147483648 ≤ z ∧ z ≤ 2147483647 ∧ (z - x2) % 4294967296 = 0) ∧ (¬ Z 44 1 = 0 → ¬ Z 44 1 = 1 → ¬ Z 44 1 = 2 → z = x2))))) ∧ ((1 : Int) = 1 → (Z 46 3 = 1 → z = -6) ∧ (Z 46 3 = 0 → ((x1 < 0 ∨ Z 46 2 ≤ x1) → z = -7) ∧ (¬ (x1 < 0 ∨ Z 46 2 ≤ x1) → ((Z 46 1 = 0 → -128 ≤ z ∧ z ≤ 127 ∧ (z - x2) % 256 = 0) ∧ (Z 46 1 = 1 → -32768 ≤ z ∧ z ≤ 32767 ∧ (z - x2) % 65536 = 0) ∧ (Z 46 1 = 2 → -2147483648 ≤ z ∧ z ≤ 2147483647 ∧ (z - x2) % 4294967296 = 0) ∧ (¬ Z 46 1 = 0 → ¬ Z 46 1 = 1 → ¬ Z 46 1 = 2 → z = x2))))) ∧ ((1 : Int) = 2 → (Z 48 3 = 1 → z = -6) ∧ (Z 48 3 = 0 → ((x1 < 0 ∨ Z 48 2 ≤ x1) → z = -7) ∧ (¬ (x1 < 0 ∨ Z 48 2 ≤ x1) → ((Z 48 1 = 0 → -128 ≤ z ∧ z ≤ 127 ∧ (z - x2) % 256 = 0) ∧ (Z 48 1 = 1 → -32768 ≤ z ∧ z ≤ 32767 ∧ (z - x2) % 65536 = 0) ∧ (Z 48 1 = 2 → -2147483648 ≤ z ∧ z ≤ 2147483647 ∧ (z - x2) % 4294967296 = 0) ∧ (¬ Z 48 1 = 0 → ¬ Z 48 1 = 1 → ¬ Z 48 1 = 2 → z = x2))))) ∧ ((1 : Int) = 3 → (Z 50 3 = 1 → z = -6) ∧ (Z 50 3 = 0 → ((x1 < 0 ∨ Z 50 2 ≤ x1) → z = -7) ∧ (¬ (x1 < 0 ∨ Z 50 2 ≤ x1) → ((Z 50 1 = 0 → -128 ≤ z ∧ z ≤ 127 ∧ (z - x2) % 256 = 0) ∧ (Z 50 1 = 1 → -32768 ≤ z ∧ z ≤ 32767 ∧ (z - x2) % 65536 = 0) ∧ (Z 50 1 = 2 → -2147483648 ≤ z ∧ z ≤ 2147483647 ∧ (z - x2) % 4294967296 = 0) ∧ (¬ Z 50 1 = 0 → ¬ Z 50 1 = 1 → ¬ Z 50 1 = 2 → z = x2)))))))) hx hG p1 p2 (fun z Z' h' q1 q2 q3 q4 => ⟨z, Z', h', rfl, q1, q2, q3, q4⟩))
  subst e; exact ⟨z, Z', h', hca, q⟩
set_option maxRecDepth 100000 in
theorem cw_129_1_i2 {l : Launch} {D : va_G} {b0 : Nat} {ad : Nat → Nat} {Hb : Heap} {tau : Nat → Int64} {d n s : Nat} {S : Nat → xS} {Z : xZ} {h : mx_H} {Post : mx_R → Prop} (hx : XH n s S Z h) (hG : GI n S Z)  {x1 x2 : Int} (p1 : (-2147483648) ≤ x1 ∧ x1 ≤ 2147483647) (p2 : (-9223372036854775808) ≤ x2 ∧ x2 ≤ 9223372036854775807) (hP : ∀ (z : Int) (Z' : xZ) (h' : mx_H), XH n s S Z' h' → GI n S Z' → fr' [(49, (-1))] Z Z' → ((¬ (2 : Int) = 0 ∨ (Z 44 3 = 1 ∨ x1 < 0 ∨ Z 44 2 ≤ x1)) → ∀ i, Z' 45 i = Z 45 i) ∧ ((2 : Int) = 0 → ¬ (Z 44 3 = 1 ∨ x1 < 0 ∨ Z 44 2 ≤ x1) → (∀ i, ¬ i = x1 → Z' 45 i = Z 45 i) ∧ Z' 45 x1 = z) ∧ ((¬ (2 : Int) = 1 ∨ (Z 46 3 = 1 ∨ x1 < 0 ∨ Z 46 2 ≤ x1)) → ∀ i, Z' 47 i = Z 47 i) ∧ ((2 : Int) = 1 → ¬ (Z 46 3 = 1 ∨ x1 < 0 ∨ Z 46 2 ≤ x1) → (∀ i, ¬ i = x1 → Z' 47 i = Z 47 i) ∧ Z' 47 x1 = z) ∧ ((¬ (2 : Int) = 2 ∨ (Z 48 3 = 1 ∨ x1 < 0 ∨ Z 48 2 ≤ x1)) → ∀ i, Z' 49 i = Z 49 i) ∧ ((2 : Int) = 2 → ¬ (Z 48 3 = 1 ∨ x1 < 0 ∨ Z 48 2 ≤ x1) → (∀ i, ¬ i = x1 → Z' 49 i = Z 49 i) ∧ Z' 49 x1 = z) ∧ ((¬ (2 : Int) = 3 ∨ (Z 50 3 = 1 ∨ x1 < 0 ∨ Z 50 2 ≤ x1)) → ∀ i, Z' 51 i = Z 51 i) ∧ ((2 : Int) = 3 → ¬ (Z 50 3 = 1 ∨ x1 < 0 ∨ Z 50 2 ≤ x1) → (∀ i, ¬ i = x1 → Z' 51 i = Z 51 i) ∧ Z' 51 x1 = z) ∧ (-9223372036854775808) ≤ z ∧ z ≤ 9223372036854775807 ∧ ((((2 : Int) < 0 ∨ 3 < (2 : Int)) → z = -2) ∧ ((2 : Int) = 0 → (Z 44 3 = 1 → z = -6) ∧ (Z 44 3 = 0 → ((x1 < 0 ∨ Z 44 2 ≤ x1) → z = -7) ∧ (¬ (x1 < 0 ∨ Z 44 2 ≤ x1) → ((Z 44 1 = 0 → -128 ≤ z ∧ z ≤ 127 ∧ (z - x2) % 256 = 0) ∧ (Z 44 1 = 1 → -32768 ≤ z ∧ z ≤ 32767 ∧ (z - x2) % 65536 = 0) ∧ (Z 44 1 = 2 → -2147483648 ≤ z ∧ z ≤ 2147483647 ∧ (z - x2) % 4294967296 = 0) ∧ (¬ Z 44 1 = 0 → ¬ Z 44 1 = 1 → ¬ Z 44 1 = 2 → z = x2))))) ∧ ((2 : Int) = 1 → (Z 46 3 = 1 → z = -6) ∧ (Z 46 3 = 0 → ((x1 < 0 ∨ Z 46 2 ≤ x1) → z = -7) ∧ (¬ (x1 < 0 ∨ Z 46 2 ≤ x1) → ((Z 46 1 = 0 → -128 ≤ z ∧ z ≤ 127 ∧ (z - x2) % 256 = 0) ∧ (Z 46 1 = 1 → -32768 ≤ z ∧ z ≤ 32767 ∧ (z - x2) % 65536 = 0) ∧ (Z 46 1 = 2 → -2147483648 ≤ z ∧ z ≤ 2147483647 ∧ (z - x2) % 4294967296 = 0) ∧ (¬ Z 46 1 = 0 → ¬ Z 46 1 = 1 → ¬ Z 46 1 = 2 → z = x2))))) ∧ ((2 : Int) = 2 → (Z 48 3 = 1 → z = -6) ∧ (Z 48 3 = 0 → ((x1 < 0 ∨ Z 48 2 ≤ x1) → z = -7) ∧ (¬ (x1 < 0 ∨ Z 48 2 ≤ x1) → ((Z 48 1 = 0 → -128 ≤ z ∧ z ≤ 127 ∧ (z - x2) % 256 = 0) ∧ (Z 48 1 = 1 → -32768 ≤ z ∧ z ≤ 32767 ∧ (z - x2) % 65536 = 0) ∧ (Z 48 1 = 2 → -2147483648 ≤ z ∧ z ≤ 2147483647 ∧ (z - x2) % 4294967296 = 0) ∧ (¬ Z 48 1 = 0 → ¬ Z 48 1 = 1 → ¬ Z 48 1 = 2 → z = x2))))) ∧ ((2 : Int) = 3 → (Z 50 3 = 1 → z = -6) ∧ (Z 50 3 = 0 → ((x1 < 0 ∨ Z 50 2 ≤ x1) → z = -7) ∧ (¬ (x1 < 0 ∨ Z 50 2 ≤ x1) → ((Z 50 1 = 0 → -128 ≤ z ∧ z ≤ 127 ∧ (z - x2) % 256 = 0) ∧ (Z 50 1 = 1 → -32768 ≤ z ∧ z ≤ 32767 ∧ (z - x2) % 65536 = 0) ∧ (Z 50 1 = 2 → -2147483648 ≤ z ∧ z ≤ 2147483647 ∧ (z - x2) % 4294967296 = 0) ∧ (¬ Z 50 1 = 0 → ¬ Z 50 1 = 1 → ¬ Z 50 1 = 2 → z = x2)))))) → Post (some (xL z), h')) : mx_J (tB l D b0 ad Hb tau) mt_129 (d + 1) 0 [some (.ref 1), some (xI 2), some (xI x1), some (xL x2), none] [] h Post := by
    have a1 : 1 < n := lt83 (GI_n hG) rfl
    have s1 : S 1 = .inl (11, [2, 0, 0, 0, 2, 2, 2, 2, 2, 2, 2, 2, 2, 2, 2, 2, 2]) := GI_s hG 1 rfl
    have a34 : 34 < n := lt83 (GI_n hG) rfl
    have s34 : S 34 = .inr ((.object "TitheHeap$Tray"), 4, 2) := GI_s hG 34 rfl
    have a48 : 48 < n := lt83 (GI_n hG) rfl
    have s48 : S 48 = .inl (10, [2, 0, 0, 0]) := GI_s hG 48 rfl
    refine mx_J.step (sn_129 0) (fun _ _ => rfl) ?_
    refine mx_J.step (sn_129 1) (fun _ _ => rfl) ?_
    obtain ⟨z1, hc1, b1⟩ := ct_144_1_y (d := d + 0) (l := l) (D := D) (b0 := b0) (ad := ad) (Hb := Hb) (tau := tau) hx hG (show 0 ≤ 2 ∧ 2 ≤ 3 by omega)
    refine Jcv hx (show mx_Sn _ _ 2 (mx_callv 144 2 11 5) from sn_129 2) a1 s1 hc1 rfl rfl rfl ?_
    refine Jif_eq (show mx_Sn _ _ 5 (mx_if_eq 12 8) from sn_129 5) (by omega) (fun q2 => ?_) (fun q2 => ?_)
    · skip
      refine mx_J.step (sn_129 12) (fun _ _ => rfl) ?_
      refine JgetR (g := 10) (b := 34) hx (show mx_Sn _ _ 13 (mx_getf 11 10 16) from sn_129 13) a1 s1 rfl rfl (hG.prr 1 10 rfl) ?_
      refine mx_J.step (sn_129 16) (fun _ _ => rfl) ?_
      refine JaaldR (i := 2) (b := 48) hx (show mx_Sn _ _ 17 (mx_aald 18) from sn_129 17) a34 s34 (by omega) (show Z 34 2 = 48 by have hq := GI_ex hG 34 2; replace hq : ((0 : Int) ≤ 2 → (2 : Int) ≤ 3 → (Z 34 2) = 44 + 2 * 2) := hq; omega) ?_
      have b5 : 0 ≤ Z 48 3 ∧ Z 48 3 ≤ 1 := hG.pr 48 3
      refine JgetI (g := 3) (z := Z 48 3) hx (show mx_Sn _ _ 18 (mx_getf 10 3 21) from sn_129 18) a48 s48 rfl rfl rfl ?_
      refine Jif_eq (show mx_Sn _ _ 21 (mx_if_eq 28 24) from sn_129 21) (by omega) (fun q6 => ?_) (fun q6 => ?_)
      · skip
        refine mx_J.step (sn_129 28) (fun _ _ => rfl) ?_
        have c45 : (x1 < 0 ∨ Z 48 2 ≤ x1) → mx_J (tB l D b0 ad Hb tau) mt_129 (d + 1) 45 [some (.ref 1), some (xI 2), some (xI x1), some (xL x2), none] [] h Post := by
          intro f7_0
          refine JcL (z := (-7)) (show mx_Sn _ _ 45 (mx_const (.long (-7)) 48) from sn_129 45) rfl ?_
          have b8 : 0 ≤ Z 44 1 ∧ Z 44 1 ≤ 3 := hG.pr 44 1
          have b9 : 0 ≤ Z 44 2 ∧ Z 44 2 ≤ 40 := hG.pr 44 2
          have b10 : 0 ≤ Z 44 3 ∧ Z 44 3 ≤ 1 := hG.pr 44 3
          have b11 : 0 ≤ Z 46 1 ∧ Z 46 1 ≤ 3 := hG.pr 46 1
          have b12 : 0 ≤ Z 46 2 ∧ Z 46 2 ≤ 40 := hG.pr 46 2
          have b13 : 0 ≤ Z 46 3 ∧ Z 46 3 ≤ 1 := hG.pr 46 3
          have b14 : 0 ≤ Z 48 1 ∧ Z 48 1 ≤ 3 := hG.pr 48 1
          have b15 : 0 ≤ Z 48 2 ∧ Z 48 2 ≤ 40 := hG.pr 48 2
          have b16 : 0 ≤ Z 50 1 ∧ Z 50 1 ≤ 3 := hG.pr 50 1
          have b17 : 0 ≤ Z 50 2 ∧ Z 50 2 ≤ 40 := hG.pr 50 2
          have b18 : 0 ≤ Z 50 3 ∧ Z 50 3 ≤ 1 := hG.pr 50 3
          exact mx_J.ret (sn_129 48) (fun _ _ => rfl) (hP (-7) Z h hx hG fr_rf ⟨(fun _ => (fun i => rfl)), (fun q => absurd q (by decide)), (fun _ => (fun i => rfl)), (fun q => absurd q (by decide)), (fun _ => (fun i => rfl)), (fun _ q => absurd (by omega) q), (fun _ => (fun i => rfl)), (fun q => absurd q (by decide)), by omega⟩)
        refine Jif_lt (show mx_Sn _ _ 29 (mx_if_lt 45 32) from sn_129 29) (by omega) (fun q19 => ?_) (fun q19 => ?_)
        · skip
          exact c45 (by omega)
        · skip
          refine mx_J.step (sn_129 32) (fun _ _ => rfl) ?_
          refine mx_J.step (sn_129 33) (fun _ _ => rfl) ?_
          refine JgetR (g := 10) (b := 34) hx (show mx_Sn _ _ 34 (mx_getf 11 10 37) from sn_129 34) a1 s1 rfl rfl (hG.prr 1 10 rfl) ?_
          refine mx_J.step (sn_129 37) (fun _ _ => rfl) ?_
          refine JaaldR (i := 2) (b := 48) hx (show mx_Sn _ _ 38 (mx_aald 39) from sn_129 38) a34 s34 (by omega) (show Z 34 2 = 48 by have hq := GI_ex hG 34 2; replace hq : ((0 : Int) ≤ 2 → (2 : Int) ≤ 3 → (Z 34 2) = 44 + 2 * 2) := hq; omega) ?_
          have b22 : 0 ≤ Z 48 2 ∧ Z 48 2 ≤ 40 := hG.pr 48 2
          refine JgetI (g := 2) (z := Z 48 2) hx (show mx_Sn _ _ 39 (mx_getf 10 2 42) from sn_129 39) a48 s48 rfl rfl rfl ?_
          refine Jicmp_lt (show mx_Sn _ _ 42 (mx_icmp_lt 49 45) from sn_129 42) (by omega) (by omega) (fun q23 => ?_) (fun q23 => ?_)
          · skip
            refine mx_J.step (sn_129 49) (fun _ _ => rfl) ?_
            refine JgetR (g := 10) (b := 34) hx (show mx_Sn _ _ 50 (mx_getf 11 10 53) from sn_129 50) a1 s1 rfl rfl (hG.prr 1 10 rfl) ?_
            refine mx_J.step (sn_129 53) (fun _ _ => rfl) ?_
            refine JaaldR (i := 2) (b := 48) hx (show mx_Sn _ _ 54 (mx_aald 55) from sn_129 54) a34 s34 (by omega) (show Z 34 2 = 48 by have hq := GI_ex hG 34 2; replace hq : ((0 : Int) ≤ 2 → (2 : Int) ≤ 3 → (Z 34 2) = 44 + 2 * 2) := hq; omega) ?_
            refine mx_J.step (sn_129 55) (fun _ _ => rfl) ?_
            refine mx_J.step (sn_129 56) (fun _ _ => rfl) ?_
            have b26 : 0 ≤ Z 48 1 ∧ Z 48 1 ≤ 3 := hG.pr 48 1
            obtain ⟨Z25, h25, hc25, hx25, hG25, hf25, b25⟩ := ct_84_48 (d := d + 0) (l := l) (D := D) (b0 := b0) (ad := ad) (Hb := Hb) (tau := tau) hx hG (show (-2147483648) ≤ x1 ∧ x1 ≤ 2147483647 by omega) (show (-9223372036854775808) ≤ x2 ∧ x2 ≤ 9223372036854775807 by omega)
            obtain ⟨bs25_0, b25⟩ := b25
            have b27 : (-9223372036854775808) ≤ Z25 49 x1 ∧ Z25 49 x1 ≤ 9223372036854775807 := hG25.pr 49 x1
            refine Jcv0 hx (show mx_Sn _ _ 57 (mx_callv 84 3 10 60) from sn_129 57) a48 s48 hc25 rfl rfl rfl ?_
            refine mx_J.step (sn_129 60) (fun _ _ => rfl) ?_
            refine JgetR (g := 10) (b := 34) hx25 (show mx_Sn _ _ 61 (mx_getf 11 10 64) from sn_129 61) a1 s1 rfl rfl (hG25.prr 1 10 rfl) ?_
            refine mx_J.step (sn_129 64) (fun _ _ => rfl) ?_
            refine JaaldR (i := 2) (b := 48) hx25 (show mx_Sn _ _ 65 (mx_aald 66) from sn_129 65) a34 s34 (by omega) (show Z25 34 2 = 48 by have hq := GI_ex hG25 34 2; replace hq : ((0 : Int) ≤ 2 → (2 : Int) ≤ 3 → (Z25 34 2) = 44 + 2 * 2) := hq; omega) ?_
            refine mx_J.step (sn_129 66) (fun _ _ => rfl) ?_
            obtain ⟨z29, hc29, b29⟩ := ct_85_48 (d := d + 0) (l := l) (D := D) (b0 := b0) (ad := ad) (Hb := Hb) (tau := tau) hx25 hG25 (show (-2147483648) ≤ x1 ∧ x1 ≤ 2147483647 by omega)
            refine Jcv hx25 (show mx_Sn _ _ 67 (mx_callv 85 2 10 70) from sn_129 67) a48 s48 hc29 rfl rfl rfl ?_
            have eq30 : Z25 44 1 = Z 44 1 := (hf25 44 1 rfl)
            have b31 : 0 ≤ Z 44 1 ∧ Z 44 1 ≤ 3 := hG.pr 44 1
            have eq32 : Z25 44 2 = Z 44 2 := (hf25 44 2 rfl)
            have b33 : 0 ≤ Z 44 2 ∧ Z 44 2 ≤ 40 := hG.pr 44 2
            have eq34 : Z25 44 3 = Z 44 3 := (hf25 44 3 rfl)
            have b35 : 0 ≤ Z 44 3 ∧ Z 44 3 ≤ 1 := hG.pr 44 3
            have eq36 : Z25 46 1 = Z 46 1 := (hf25 46 1 rfl)
            have b37 : 0 ≤ Z 46 1 ∧ Z 46 1 ≤ 3 := hG.pr 46 1
            have eq38 : Z25 46 2 = Z 46 2 := (hf25 46 2 rfl)
            have b39 : 0 ≤ Z 46 2 ∧ Z 46 2 ≤ 40 := hG.pr 46 2
            have eq40 : Z25 46 3 = Z 46 3 := (hf25 46 3 rfl)
            have b41 : 0 ≤ Z 46 3 ∧ Z 46 3 ≤ 1 := hG.pr 46 3
            have eq42 : Z25 48 1 = Z 48 1 := (hf25 48 1 rfl)
            have eq43 : Z25 48 2 = Z 48 2 := (hf25 48 2 rfl)
            have eq44 : Z25 48 3 = Z 48 3 := (hf25 48 3 rfl)
            have eq45 : Z25 50 1 = Z 50 1 := (hf25 50 1 rfl)
            have b46 : 0 ≤ Z 50 1 ∧ Z 50 1 ≤ 3 := hG.pr 50 1
            have eq47 : Z25 50 2 = Z 50 2 := (hf25 50 2 rfl)
            have b48 : 0 ≤ Z 50 2 ∧ Z 50 2 ≤ 40 := hG.pr 50 2
            have eq49 : Z25 50 3 = Z 50 3 := (hf25 50 3 rfl)
            have b50 : 0 ≤ Z 50 3 ∧ Z 50 3 ≤ 1 := hG.pr 50 3
            exact mx_J.ret (sn_129 70) (fun _ _ => rfl) (hP z29 Z25 h25 hx25 hG25 (fr_tr (M := [(49, (-1))]) fr_rf (hf25) (M1 := []) rfl rfl) ⟨(fun _ => (fun i => (hf25 45 i rfl))), (fun q => absurd q (by decide)), (fun _ => (fun i => (hf25 47 i rfl))), (fun q => absurd q (by decide)), (fun q => absurd q (by omega)), (fun _ _ => ⟨bs25_0, by omega⟩), (fun _ => (fun i => (hf25 51 i rfl))), (fun q => absurd q (by decide)), by omega⟩)
          · skip
            exact c45 (by omega)
      · skip
        refine JcL (z := (-6)) (show mx_Sn _ _ 24 (mx_const (.long (-6)) 27) from sn_129 24) rfl ?_
        have b51 : 0 ≤ Z 44 1 ∧ Z 44 1 ≤ 3 := hG.pr 44 1
        have b52 : 0 ≤ Z 44 2 ∧ Z 44 2 ≤ 40 := hG.pr 44 2
        have b53 : 0 ≤ Z 44 3 ∧ Z 44 3 ≤ 1 := hG.pr 44 3
        have b54 : 0 ≤ Z 46 1 ∧ Z 46 1 ≤ 3 := hG.pr 46 1
        have b55 : 0 ≤ Z 46 2 ∧ Z 46 2 ≤ 40 := hG.pr 46 2
        have b56 : 0 ≤ Z 46 3 ∧ Z 46 3 ≤ 1 := hG.pr 46 3
        have b57 : 0 ≤ Z 48 1 ∧ Z 48 1 ≤ 3 := hG.pr 48 1
        have b58 : 0 ≤ Z 48 2 ∧ Z 48 2 ≤ 40 := hG.pr 48 2
        have b59 : 0 ≤ Z 50 1 ∧ Z 50 1 ≤ 3 := hG.pr 50 1
        have b60 : 0 ≤ Z 50 2 ∧ Z 50 2 ≤ 40 := hG.pr 50 2
        have b61 : 0 ≤ Z 50 3 ∧ Z 50 3 ≤ 1 := hG.pr 50 3
        exact mx_J.ret (sn_129 27) (fun _ _ => rfl) (hP (-6) Z h hx hG fr_rf ⟨(fun _ => (fun i => rfl)), (fun q => absurd q (by decide)), (fun _ => (fun i => rfl)), (fun q => absurd q (by decide)), (fun _ => (fun i => rfl)), (fun _ q => absurd (Or.inl (by omega)) q), (fun _ => (fun i => rfl)), (fun q => absurd q (by decide)), by omega⟩)
    · skip
      exfalso; omega
theorem ct_129_1_i2 {l : Launch} {D : va_G} {b0 : Nat} {ad : Nat → Nat} {Hb : Heap} {tau : Nat → Int64} {d n s : Nat} {S : Nat → xS} {Z : xZ} {h : mx_H} (hx : XH n s S Z h) (hG : GI n S Z)  {x1 x2 : Int} (p1 : (-2147483648) ≤ x1 ∧ x1 ≤ 2147483647) (p2 : (-9223372036854775808) ≤ x2 ∧ x2 ≤ 9223372036854775807) : ∃ (z : Int) (Z' : xZ) (h' : mx_H), mx_Ca (tB l D b0 ad Hb tau) (d + 2) 129 [.ref 1, xI 2, xI x1, xL x2] h (some (xL z), h') ∧ XH n s S Z' h' ∧ GI n S Z' ∧ fr' [(49, (-1))] Z Z' ∧ (((¬ (2 : Int) = 0 ∨ (Z 44 3 = 1 ∨ x1 < 0 ∨ Z 44 2 ≤ x1)) → ∀ i, Z' 45 i = Z 45 i) ∧ ((2 : Int) = 0 → ¬ (Z 44 3 = 1 ∨ x1 < 0 ∨ Z 44 2 ≤ x1) → (∀ i, ¬ i = x1 → Z' 45 i = Z 45 i) ∧ Z' 45 x1 = z) ∧ ((¬ (2 : Int) = 1 ∨ (Z 46 3 = 1 ∨ x1 < 0 ∨ Z 46 2 ≤ x1)) → ∀ i, Z' 47 i = Z 47 i) ∧ ((2 : Int) = 1 → ¬ (Z 46 3 = 1 ∨ x1 < 0 ∨ Z 46 2 ≤ x1) → (∀ i, ¬ i = x1 → Z' 47 i = Z 47 i) ∧ Z' 47 x1 = z) ∧ ((¬ (2 : Int) = 2 ∨ (Z 48 3 = 1 ∨ x1 < 0 ∨ Z 48 2 ≤ x1)) → ∀ i, Z' 49 i = Z 49 i) ∧ ((2 : Int) = 2 → ¬ (Z 48 3 = 1 ∨ x1 < 0 ∨ Z 48 2 ≤ x1) → (∀ i, ¬ i = x1 → Z' 49 i = Z 49 i) ∧ Z' 49 x1 = z) ∧ ((¬ (2 : Int) = 3 ∨ (Z 50 3 = 1 ∨ x1 < 0 ∨ Z 50 2 ≤ x1)) → ∀ i, Z' 51 i = Z 51 i) ∧ ((2 : Int) = 3 → ¬ (Z 50 3 = 1 ∨ x1 < 0 ∨ Z 50 2 ≤ x1) → (∀ i, ¬ i = x1 → Z' 51 i = Z 51 i) ∧ Z' 51 x1 = z) ∧ (-9223372036854775808) ≤ z ∧ z ≤ 9223372036854775807 ∧ ((((2 : Int) < 0 ∨ 3 < (2 : Int)) → z = -2) ∧ ((2 : Int) = 0 → (Z 44 3 = 1 → z = -6) ∧ (Z 44 3 = 0 → ((x1 < 0 ∨ Z 44 2 ≤ x1) → z = -7) ∧ (¬ (x1 < 0 ∨ Z 44 2 ≤ x1) → ((Z 44 1 = 0 → -128 ≤ z ∧ z ≤ 127 ∧ (z - x2) % 256 = 0) ∧ (Z 44 1 = 1 → -32768 ≤ z ∧ z ≤ 32767 ∧ (z - x2) % 65536 = 0) ∧ (Z 44 1 = 2 → -2147483648 ≤ z ∧ z ≤ 2147483647 ∧ (z - x2) % 4294967296 = 0) ∧ (¬ Z 44 1 = 0 → ¬ Z 44 1 = 1 → ¬ Z 44 1 = 2 → z = x2))))) ∧ ((2 : Int) = 1 → (Z 46 3 = 1 → z = -6) ∧ (Z 46 3 = 0 → ((x1 < 0 ∨ Z 46 2 ≤ x1) → z = -7) ∧ (¬ (x1 < 0 ∨ Z 46 2 ≤ x1) → ((Z 46 1 = 0 → -128 ≤ z ∧ z ≤ 127 ∧ (z - x2) % 256 = 0) ∧ (Z 46 1 = 1 → -32768 ≤ z ∧ z ≤ 32767 ∧ (z - x2) % 65536 = 0) ∧ (Z 46 1 = 2 → -2147483648 ≤ z ∧ z ≤ 2147483647 ∧ (z - x2) % 4294967296 = 0) ∧ (¬ Z 46 1 = 0 → ¬ Z 46 1 = 1 → ¬ Z 46 1 = 2 → z = x2))))) ∧ ((2 : Int) = 2 → (Z 48 3 = 1 → z = -6) ∧ (Z 48 3 = 0 → ((x1 < 0 ∨ Z 48 2 ≤ x1) → z = -7) ∧ (¬ (x1 < 0 ∨ Z 48 2 ≤ x1) → ((Z 48 1 = 0 → -128 ≤ z ∧ z ≤ 127 ∧ (z - x2) % 256 = 0) ∧ (Z 48 1 = 1 → -32768 ≤ z ∧ z ≤ 32767 ∧ (z - x2) % 65536 = 0) ∧ (Z 48 1 = 2 → -2147483648 ≤ z ∧ z ≤ 2147483647 ∧ (z - x2) % 4294967296 = 0) ∧ (¬ Z 48 1 = 0 → ¬ Z 48 1 = 1 → ¬ Z 48 1 = 2 → z = x2))))) ∧ ((2 : Int) = 3 → (Z 50 3 = 1 → z = -6) ∧ (Z 50 3 = 0 → ((x1 < 0 ∨ Z 50 2 ≤ x1) → z = -7) ∧ (¬ (x1 < 0 ∨ Z 50 2 ≤ x1) → ((Z 50 1 = 0 → -128 ≤ z ∧ z ≤ 127 ∧ (z - x2) % 256 = 0) ∧ (Z 50 1 = 1 → -32768 ≤ z ∧ z ≤ 32767 ∧ (z - x2) % 65536 = 0) ∧ (Z 50 1 = 2 → -2147483648 ≤ z ∧ z ≤ 2147483647 ∧ (z - x2) % 4294967296 = 0) ∧ (¬ Z 50 1 = 0 → ¬ Z 50 1 = 1 → ¬ Z 50 1 = 2 → z = x2))))))) := by
  obtain ⟨r, hca, z, Z', h', e, q⟩ := Jmt (B := tB l D b0 ad Hb tau) (M := mt_129) (mi := 129) (as := [.ref 1, xI 2, xI x1, xL x2]) (d := d + 1) (ls := [some (.ref 1), some (xI 2), some (xI x1), some (xL x2), none]) rfl rfl rfl rfl rfl rfl (cw_129_1_i2 (l := l) (D := D) (b0 := b0) (ad := ad) (Hb := Hb) (tau := tau) (d := d) (Post := fun r => ∃ (z : Int) (Z' : xZ) (h' : mx_H), r = (some (xL z), h') ∧ XH n s S Z' h' ∧ GI n S Z' ∧ fr' [(49, (-1))] Z Z' ∧ (((¬ (2 : Int) = 0 ∨ (Z 44 3 = 1 ∨ x1 < 0 ∨ Z 44 2 ≤ x1)) → ∀ i, Z' 45 i = Z 45 i) ∧ ((2 : Int) = 0 → ¬ (Z 44 3 = 1 ∨ x1 < 0 ∨ Z 44 2 ≤ x1) → (∀ i, ¬ i = x1 → Z' 45 i = Z 45 i) ∧ Z' 45 x1 = z) ∧ ((¬ (2 : Int) = 1 ∨ (Z 46 3 = 1 ∨ x1 < 0 ∨ Z 46 2 ≤ x1)) → ∀ i, Z' 47 i = Z 47 i) ∧ ((2 : Int) = 1 → ¬ (Z 46 3 = 1 ∨ x1 < 0 ∨ Z 46 2 ≤ x1) → (∀ i, ¬ i = x1 → Z' 47 i = Z 47 i) ∧ Z' 47 x1 = z) ∧ ((¬ (2 : Int) = 2 ∨ (Z 48 3 = 1 ∨ x1 < 0 ∨ Z 48 2 ≤ x1)) → ∀ i, Z' 49 i = Z 49 i) ∧ ((2 : Int) = 2 → ¬ (Z 48 3 = 1 ∨ x1 < 0 ∨ Z 48 2 ≤ x1) → (∀ i, ¬ i = x1 → Z' 49 i = Z 49 i) ∧ Z' 49 x1 = z) ∧ ((¬ (2 : Int) = 3 ∨ (Z 50 3 = 1 ∨ x1 < 0 ∨ Z 50 2 ≤ x1)) → ∀ i, Z' 51 i = Z 51 i) ∧ ((2 : Int) = 3 → ¬ (Z 50 3 = 1 ∨ x1 < 0 ∨ Z 50 2 ≤ x1) → (∀ i, ¬ i = x1 → Z' 51 i = Z 51 i) ∧ Z' 51 x1 = z) ∧ (-9223372036854775808) ≤ z ∧ z ≤ 9223372036854775807 ∧ ((((2 : Int) < 0 ∨ 3 < (2 : Int)) → z = -2) ∧ ((2 : Int) = 0 → (Z 44 3 = 1 → z = -6) ∧ (Z 44 3 = 0 → ((x1 < 0 ∨ Z 44 2 ≤ x1) → z = -7) ∧ (¬ (x1 < 0 ∨ Z 44 2 ≤ x1) → ((Z 44 1 = 0 → -128 ≤ z ∧ z ≤ 127 ∧ (z - x2) % 256 = 0) ∧ (Z 44 1 = 1 → -32768 ≤ z ∧ z ≤ 32767 ∧ (z - x2) % 65536 = 0) ∧ (Z 44 1 = 2 → -2147483648 ≤ z ∧ z ≤ 2147483647 ∧ (z - x2) % 4294967296 = 0) ∧ (¬ Z 44 1 = 0 → ¬ Z 44 1 = 1 → ¬ Z 44 1 = 2 → z = x2))))) ∧ ((2 : Int) = 1 → (Z 46 3 = 1 → z = -6) ∧ (Z 46 3 = 0 → ((x1 < 0 ∨ Z 46 2 ≤ x1) → z = -7) ∧ (¬ (x1 < 0 ∨ Z 46 2 ≤ x1) → ((Z 46 1 = 0 → -128 ≤ z ∧ z ≤ 127 ∧ (z - x2) % 256 = 0) ∧ (Z 46 1 = 1 → -32768 ≤ z ∧ z ≤ 32767 ∧ (z - x2) % 65536 = 0) ∧ (Z 46 1 = 2 → -2147483648 ≤ z ∧ z ≤ 2147483647 ∧ (z - x2) % 4294967296 = 0) ∧ (¬ Z 46 1 = 0 → ¬ Z 46 1 = 1 → ¬ Z 46 1 = 2 → z = x2))))) ∧ ((2 : Int) = 2 → (Z 48 3 = 1 → z = -6) ∧ (Z 48 3 = 0 → ((x1 < 0 ∨ Z 48 2 ≤ x1) → z = -7) ∧ (¬ (x1 < 0 ∨ Z 48 2 ≤ x1) → ((Z 48 1 = 0 → -128 ≤ z ∧ z ≤ 127 ∧ (z - x2) % 256 = 0) ∧ (Z 48 1 = 1 → -32768 ≤ z ∧ z ≤ 32767 ∧ (z - x2) % 65536 = 0) ∧ (Z 48 1 = 2 → -2147483648 ≤ z ∧ z ≤ 2147483647 ∧ (z - x2) % 4294967296 = 0) ∧ (¬ Z 48 1 = 0 → ¬ Z 48 1 = 1 → ¬ Z 48 1 = 2 → z = x2))))) ∧ ((2 : Int) = 3 → (Z 50 3 = 1 → z = -6) ∧ (Z 50 3 = 0 → ((x1 < 0 ∨ Z 50 2 ≤ x1) → z = -7) ∧ (¬ (x1 < 0 ∨ Z 50 2 ≤ x1) → ((Z 50 1 = 0 → -128 ≤ z ∧ z ≤ 127 ∧ (z - x2) % 256 = 0) ∧ (Z 50 1 = 1 → -32768 ≤ z ∧ z ≤ 32767 ∧ (z - x2) % 65536 = 0) ∧ (Z 50 1 = 2 → -2147483648 ≤ z ∧ z ≤ 2147483647 ∧ (z - x2) % 4294967296 = 0) ∧ (¬ Z 50 1 = 0 → ¬ Z 50 1 = 1 → ¬ Z 50 1 = 2 → z = x2)))))))) hx hG p1 p2 (fun z Z' h' q1 q2 q3 q4 => ⟨z, Z', h', rfl, q1, q2, q3, q4⟩))
  subst e; exact ⟨z, Z', h', hca, q⟩
set_option maxRecDepth 100000 in
theorem cw_129_1_i3 {l : Launch} {D : va_G} {b0 : Nat} {ad : Nat → Nat} {Hb : Heap} {tau : Nat → Int64} {d n s : Nat} {S : Nat → xS} {Z : xZ} {h : mx_H} {Post : mx_R → Prop} (hx : XH n s S Z h) (hG : GI n S Z)  {x1 x2 : Int} (p1 : (-2147483648) ≤ x1 ∧ x1 ≤ 2147483647) (p2 : (-9223372036854775808) ≤ x2 ∧ x2 ≤ 9223372036854775807) (hP : ∀ (z : Int) (Z' : xZ) (h' : mx_H), XH n s S Z' h' → GI n S Z' → fr' [(51, (-1))] Z Z' → ((¬ (3 : Int) = 0 ∨ (Z 44 3 = 1 ∨ x1 < 0 ∨ Z 44 2 ≤ x1)) → ∀ i, Z' 45 i = Z 45 i) ∧ ((3 : Int) = 0 → ¬ (Z 44 3 = 1 ∨ x1 < 0 ∨ Z 44 2 ≤ x1) → (∀ i, ¬ i = x1 → Z' 45 i = Z 45 i) ∧ Z' 45 x1 = z) ∧ ((¬ (3 : Int) = 1 ∨ (Z 46 3 = 1 ∨ x1 < 0 ∨ Z 46 2 ≤ x1)) → ∀ i, Z' 47 i = Z 47 i) ∧ ((3 : Int) = 1 → ¬ (Z 46 3 = 1 ∨ x1 < 0 ∨ Z 46 2 ≤ x1) → (∀ i, ¬ i = x1 → Z' 47 i = Z 47 i) ∧ Z' 47 x1 = z) ∧ ((¬ (3 : Int) = 2 ∨ (Z 48 3 = 1 ∨ x1 < 0 ∨ Z 48 2 ≤ x1)) → ∀ i, Z' 49 i = Z 49 i) ∧ ((3 : Int) = 2 → ¬ (Z 48 3 = 1 ∨ x1 < 0 ∨ Z 48 2 ≤ x1) → (∀ i, ¬ i = x1 → Z' 49 i = Z 49 i) ∧ Z' 49 x1 = z) ∧ ((¬ (3 : Int) = 3 ∨ (Z 50 3 = 1 ∨ x1 < 0 ∨ Z 50 2 ≤ x1)) → ∀ i, Z' 51 i = Z 51 i) ∧ ((3 : Int) = 3 → ¬ (Z 50 3 = 1 ∨ x1 < 0 ∨ Z 50 2 ≤ x1) → (∀ i, ¬ i = x1 → Z' 51 i = Z 51 i) ∧ Z' 51 x1 = z) ∧ (-9223372036854775808) ≤ z ∧ z ≤ 9223372036854775807 ∧ ((((3 : Int) < 0 ∨ 3 < (3 : Int)) → z = -2) ∧ ((3 : Int) = 0 → (Z 44 3 = 1 → z = -6) ∧ (Z 44 3 = 0 → ((x1 < 0 ∨ Z 44 2 ≤ x1) → z = -7) ∧ (¬ (x1 < 0 ∨ Z 44 2 ≤ x1) → ((Z 44 1 = 0 → -128 ≤ z ∧ z ≤ 127 ∧ (z - x2) % 256 = 0) ∧ (Z 44 1 = 1 → -32768 ≤ z ∧ z ≤ 32767 ∧ (z - x2) % 65536 = 0) ∧ (Z 44 1 = 2 → -2147483648 ≤ z ∧ z ≤ 2147483647 ∧ (z - x2) % 4294967296 = 0) ∧ (¬ Z 44 1 = 0 → ¬ Z 44 1 = 1 → ¬ Z 44 1 = 2 → z = x2))))) ∧ ((3 : Int) = 1 → (Z 46 3 = 1 → z = -6) ∧ (Z 46 3 = 0 → ((x1 < 0 ∨ Z 46 2 ≤ x1) → z = -7) ∧ (¬ (x1 < 0 ∨ Z 46 2 ≤ x1) → ((Z 46 1 = 0 → -128 ≤ z ∧ z ≤ 127 ∧ (z - x2) % 256 = 0) ∧ (Z 46 1 = 1 → -32768 ≤ z ∧ z ≤ 32767 ∧ (z - x2) % 65536 = 0) ∧ (Z 46 1 = 2 → -2147483648 ≤ z ∧ z ≤ 2147483647 ∧ (z - x2) % 4294967296 = 0) ∧ (¬ Z 46 1 = 0 → ¬ Z 46 1 = 1 → ¬ Z 46 1 = 2 → z = x2))))) ∧ ((3 : Int) = 2 → (Z 48 3 = 1 → z = -6) ∧ (Z 48 3 = 0 → ((x1 < 0 ∨ Z 48 2 ≤ x1) → z = -7) ∧ (¬ (x1 < 0 ∨ Z 48 2 ≤ x1) → ((Z 48 1 = 0 → -128 ≤ z ∧ z ≤ 127 ∧ (z - x2) % 256 = 0) ∧ (Z 48 1 = 1 → -32768 ≤ z ∧ z ≤ 32767 ∧ (z - x2) % 65536 = 0) ∧ (Z 48 1 = 2 → -2147483648 ≤ z ∧ z ≤ 2147483647 ∧ (z - x2) % 4294967296 = 0) ∧ (¬ Z 48 1 = 0 → ¬ Z 48 1 = 1 → ¬ Z 48 1 = 2 → z = x2))))) ∧ ((3 : Int) = 3 → (Z 50 3 = 1 → z = -6) ∧ (Z 50 3 = 0 → ((x1 < 0 ∨ Z 50 2 ≤ x1) → z = -7) ∧ (¬ (x1 < 0 ∨ Z 50 2 ≤ x1) → ((Z 50 1 = 0 → -128 ≤ z ∧ z ≤ 127 ∧ (z - x2) % 256 = 0) ∧ (Z 50 1 = 1 → -32768 ≤ z ∧ z ≤ 32767 ∧ (z - x2) % 65536 = 0) ∧ (Z 50 1 = 2 → -2147483648 ≤ z ∧ z ≤ 2147483647 ∧ (z - x2) % 4294967296 = 0) ∧ (¬ Z 50 1 = 0 → ¬ Z 50 1 = 1 → ¬ Z 50 1 = 2 → z = x2)))))) → Post (some (xL z), h')) : mx_J (tB l D b0 ad Hb tau) mt_129 (d + 1) 0 [some (.ref 1), some (xI 3), some (xI x1), some (xL x2), none] [] h Post := by
    have a1 : 1 < n := lt83 (GI_n hG) rfl
    have s1 : S 1 = .inl (11, [2, 0, 0, 0, 2, 2, 2, 2, 2, 2, 2, 2, 2, 2, 2, 2, 2]) := GI_s hG 1 rfl
    have a34 : 34 < n := lt83 (GI_n hG) rfl
    have s34 : S 34 = .inr ((.object "TitheHeap$Tray"), 4, 2) := GI_s hG 34 rfl
    have a50 : 50 < n := lt83 (GI_n hG) rfl
    have s50 : S 50 = .inl (10, [2, 0, 0, 0]) := GI_s hG 50 rfl
    refine mx_J.step (sn_129 0) (fun _ _ => rfl) ?_
    refine mx_J.step (sn_129 1) (fun _ _ => rfl) ?_
    obtain ⟨z1, hc1, b1⟩ := ct_144_1_y (d := d + 0) (l := l) (D := D) (b0 := b0) (ad := ad) (Hb := Hb) (tau := tau) hx hG (show 0 ≤ 3 ∧ 3 ≤ 3 by omega)
    refine Jcv hx (show mx_Sn _ _ 2 (mx_callv 144 2 11 5) from sn_129 2) a1 s1 hc1 rfl rfl rfl ?_
    refine Jif_eq (show mx_Sn _ _ 5 (mx_if_eq 12 8) from sn_129 5) (by omega) (fun q2 => ?_) (fun q2 => ?_)
    · skip
      refine mx_J.step (sn_129 12) (fun _ _ => rfl) ?_
      refine JgetR (g := 10) (b := 34) hx (show mx_Sn _ _ 13 (mx_getf 11 10 16) from sn_129 13) a1 s1 rfl rfl (hG.prr 1 10 rfl) ?_
      refine mx_J.step (sn_129 16) (fun _ _ => rfl) ?_
      refine JaaldR (i := 3) (b := 50) hx (show mx_Sn _ _ 17 (mx_aald 18) from sn_129 17) a34 s34 (by omega) (show Z 34 3 = 50 by have hq := GI_ex hG 34 3; replace hq : ((0 : Int) ≤ 3 → (3 : Int) ≤ 3 → (Z 34 3) = 44 + 2 * 3) := hq; omega) ?_
      have b5 : 0 ≤ Z 50 3 ∧ Z 50 3 ≤ 1 := hG.pr 50 3
      refine JgetI (g := 3) (z := Z 50 3) hx (show mx_Sn _ _ 18 (mx_getf 10 3 21) from sn_129 18) a50 s50 rfl rfl rfl ?_
      refine Jif_eq (show mx_Sn _ _ 21 (mx_if_eq 28 24) from sn_129 21) (by omega) (fun q6 => ?_) (fun q6 => ?_)
      · skip
        refine mx_J.step (sn_129 28) (fun _ _ => rfl) ?_
        have c45 : (x1 < 0 ∨ Z 50 2 ≤ x1) → mx_J (tB l D b0 ad Hb tau) mt_129 (d + 1) 45 [some (.ref 1), some (xI 3), some (xI x1), some (xL x2), none] [] h Post := by
          intro f7_0
          refine JcL (z := (-7)) (show mx_Sn _ _ 45 (mx_const (.long (-7)) 48) from sn_129 45) rfl ?_
          have b8 : 0 ≤ Z 44 1 ∧ Z 44 1 ≤ 3 := hG.pr 44 1
          have b9 : 0 ≤ Z 44 2 ∧ Z 44 2 ≤ 40 := hG.pr 44 2
          have b10 : 0 ≤ Z 44 3 ∧ Z 44 3 ≤ 1 := hG.pr 44 3
          have b11 : 0 ≤ Z 46 1 ∧ Z 46 1 ≤ 3 := hG.pr 46 1
          have b12 : 0 ≤ Z 46 2 ∧ Z 46 2 ≤ 40 := hG.pr 46 2
          have b13 : 0 ≤ Z 46 3 ∧ Z 46 3 ≤ 1 := hG.pr 46 3
          have b14 : 0 ≤ Z 48 1 ∧ Z 48 1 ≤ 3 := hG.pr 48 1
          have b15 : 0 ≤ Z 48 2 ∧ Z 48 2 ≤ 40 := hG.pr 48 2
          have b16 : 0 ≤ Z 48 3 ∧ Z 48 3 ≤ 1 := hG.pr 48 3
          have b17 : 0 ≤ Z 50 1 ∧ Z 50 1 ≤ 3 := hG.pr 50 1
          have b18 : 0 ≤ Z 50 2 ∧ Z 50 2 ≤ 40 := hG.pr 50 2
          exact mx_J.ret (sn_129 48) (fun _ _ => rfl) (hP (-7) Z h hx hG fr_rf ⟨(fun _ => (fun i => rfl)), (fun q => absurd q (by decide)), (fun _ => (fun i => rfl)), (fun q => absurd q (by decide)), (fun _ => (fun i => rfl)), (fun q => absurd q (by decide)), (fun _ => (fun i => rfl)), (fun _ q => absurd (by omega) q), by omega⟩)
        refine Jif_lt (show mx_Sn _ _ 29 (mx_if_lt 45 32) from sn_129 29) (by omega) (fun q19 => ?_) (fun q19 => ?_)
        · skip
          exact c45 (by omega)
        · skip
          refine mx_J.step (sn_129 32) (fun _ _ => rfl) ?_
          refine mx_J.step (sn_129 33) (fun _ _ => rfl) ?_
          refine JgetR (g := 10) (b := 34) hx (show mx_Sn _ _ 34 (mx_getf 11 10 37) from sn_129 34) a1 s1 rfl rfl (hG.prr 1 10 rfl) ?_
          refine mx_J.step (sn_129 37) (fun _ _ => rfl) ?_
          refine JaaldR (i := 3) (b := 50) hx (show mx_Sn _ _ 38 (mx_aald 39) from sn_129 38) a34 s34 (by omega) (show Z 34 3 = 50 by have hq := GI_ex hG 34 3; replace hq : ((0 : Int) ≤ 3 → (3 : Int) ≤ 3 → (Z 34 3) = 44 + 2 * 3) := hq; omega) ?_
          have b22 : 0 ≤ Z 50 2 ∧ Z 50 2 ≤ 40 := hG.pr 50 2
          refine JgetI (g := 2) (z := Z 50 2) hx (show mx_Sn _ _ 39 (mx_getf 10 2 42) from sn_129 39) a50 s50 rfl rfl rfl ?_
          refine Jicmp_lt (show mx_Sn _ _ 42 (mx_icmp_lt 49 45) from sn_129 42) (by omega) (by omega) (fun q23 => ?_) (fun q23 => ?_)
          · skip
            refine mx_J.step (sn_129 49) (fun _ _ => rfl) ?_
            refine JgetR (g := 10) (b := 34) hx (show mx_Sn _ _ 50 (mx_getf 11 10 53) from sn_129 50) a1 s1 rfl rfl (hG.prr 1 10 rfl) ?_
            refine mx_J.step (sn_129 53) (fun _ _ => rfl) ?_
            refine JaaldR (i := 3) (b := 50) hx (show mx_Sn _ _ 54 (mx_aald 55) from sn_129 54) a34 s34 (by omega) (show Z 34 3 = 50 by have hq := GI_ex hG 34 3; replace hq : ((0 : Int) ≤ 3 → (3 : Int) ≤ 3 → (Z 34 3) = 44 + 2 * 3) := hq; omega) ?_
            refine mx_J.step (sn_129 55) (fun _ _ => rfl) ?_
            refine mx_J.step (sn_129 56) (fun _ _ => rfl) ?_
            have b26 : 0 ≤ Z 50 1 ∧ Z 50 1 ≤ 3 := hG.pr 50 1
            obtain ⟨Z25, h25, hc25, hx25, hG25, hf25, b25⟩ := ct_84_50 (d := d + 0) (l := l) (D := D) (b0 := b0) (ad := ad) (Hb := Hb) (tau := tau) hx hG (show (-2147483648) ≤ x1 ∧ x1 ≤ 2147483647 by omega) (show (-9223372036854775808) ≤ x2 ∧ x2 ≤ 9223372036854775807 by omega)
            obtain ⟨bs25_0, b25⟩ := b25
            have b27 : (-9223372036854775808) ≤ Z25 51 x1 ∧ Z25 51 x1 ≤ 9223372036854775807 := hG25.pr 51 x1
            refine Jcv0 hx (show mx_Sn _ _ 57 (mx_callv 84 3 10 60) from sn_129 57) a50 s50 hc25 rfl rfl rfl ?_
            refine mx_J.step (sn_129 60) (fun _ _ => rfl) ?_
            refine JgetR (g := 10) (b := 34) hx25 (show mx_Sn _ _ 61 (mx_getf 11 10 64) from sn_129 61) a1 s1 rfl rfl (hG25.prr 1 10 rfl) ?_
            refine mx_J.step (sn_129 64) (fun _ _ => rfl) ?_
            refine JaaldR (i := 3) (b := 50) hx25 (show mx_Sn _ _ 65 (mx_aald 66) from sn_129 65) a34 s34 (by omega) (show Z25 34 3 = 50 by have hq := GI_ex hG25 34 3; replace hq : ((0 : Int) ≤ 3 → (3 : Int) ≤ 3 → (Z25 34 3) = 44 + 2 * 3) := hq; omega) ?_
            refine mx_J.step (sn_129 66) (fun _ _ => rfl) ?_
            obtain ⟨z29, hc29, b29⟩ := ct_85_50 (d := d + 0) (l := l) (D := D) (b0 := b0) (ad := ad) (Hb := Hb) (tau := tau) hx25 hG25 (show (-2147483648) ≤ x1 ∧ x1 ≤ 2147483647 by omega)
            refine Jcv hx25 (show mx_Sn _ _ 67 (mx_callv 85 2 10 70) from sn_129 67) a50 s50 hc29 rfl rfl rfl ?_
            have eq30 : Z25 44 1 = Z 44 1 := (hf25 44 1 rfl)
            have b31 : 0 ≤ Z 44 1 ∧ Z 44 1 ≤ 3 := hG.pr 44 1
            have eq32 : Z25 44 2 = Z 44 2 := (hf25 44 2 rfl)
            have b33 : 0 ≤ Z 44 2 ∧ Z 44 2 ≤ 40 := hG.pr 44 2
            have eq34 : Z25 44 3 = Z 44 3 := (hf25 44 3 rfl)
            have b35 : 0 ≤ Z 44 3 ∧ Z 44 3 ≤ 1 := hG.pr 44 3
            have eq36 : Z25 46 1 = Z 46 1 := (hf25 46 1 rfl)
            have b37 : 0 ≤ Z 46 1 ∧ Z 46 1 ≤ 3 := hG.pr 46 1
            have eq38 : Z25 46 2 = Z 46 2 := (hf25 46 2 rfl)
            have b39 : 0 ≤ Z 46 2 ∧ Z 46 2 ≤ 40 := hG.pr 46 2
            have eq40 : Z25 46 3 = Z 46 3 := (hf25 46 3 rfl)
            have b41 : 0 ≤ Z 46 3 ∧ Z 46 3 ≤ 1 := hG.pr 46 3
            have eq42 : Z25 48 1 = Z 48 1 := (hf25 48 1 rfl)
            have b43 : 0 ≤ Z 48 1 ∧ Z 48 1 ≤ 3 := hG.pr 48 1
            have eq44 : Z25 48 2 = Z 48 2 := (hf25 48 2 rfl)
            have b45 : 0 ≤ Z 48 2 ∧ Z 48 2 ≤ 40 := hG.pr 48 2
            have eq46 : Z25 48 3 = Z 48 3 := (hf25 48 3 rfl)
            have b47 : 0 ≤ Z 48 3 ∧ Z 48 3 ≤ 1 := hG.pr 48 3
            have eq48 : Z25 50 1 = Z 50 1 := (hf25 50 1 rfl)
            have eq49 : Z25 50 2 = Z 50 2 := (hf25 50 2 rfl)
            have eq50 : Z25 50 3 = Z 50 3 := (hf25 50 3 rfl)
            exact mx_J.ret (sn_129 70) (fun _ _ => rfl) (hP z29 Z25 h25 hx25 hG25 (fr_tr (M := [(51, (-1))]) fr_rf (hf25) (M1 := []) rfl rfl) ⟨(fun _ => (fun i => (hf25 45 i rfl))), (fun q => absurd q (by decide)), (fun _ => (fun i => (hf25 47 i rfl))), (fun q => absurd q (by decide)), (fun _ => (fun i => (hf25 49 i rfl))), (fun q => absurd q (by decide)), (fun q => absurd q (by omega)), (fun _ _ => ⟨bs25_0, by omega⟩), by omega⟩)
          · skip
            exact c45 (by omega)
      · skip
        refine JcL (z := (-6)) (show mx_Sn _ _ 24 (mx_const (.long (-6)) 27) from sn_129 24) rfl ?_
        have b51 : 0 ≤ Z 44 1 ∧ Z 44 1 ≤ 3 := hG.pr 44 1
        have b52 : 0 ≤ Z 44 2 ∧ Z 44 2 ≤ 40 := hG.pr 44 2
        have b53 : 0 ≤ Z 44 3 ∧ Z 44 3 ≤ 1 := hG.pr 44 3
        have b54 : 0 ≤ Z 46 1 ∧ Z 46 1 ≤ 3 := hG.pr 46 1
        have b55 : 0 ≤ Z 46 2 ∧ Z 46 2 ≤ 40 := hG.pr 46 2
        have b56 : 0 ≤ Z 46 3 ∧ Z 46 3 ≤ 1 := hG.pr 46 3
        have b57 : 0 ≤ Z 48 1 ∧ Z 48 1 ≤ 3 := hG.pr 48 1
        have b58 : 0 ≤ Z 48 2 ∧ Z 48 2 ≤ 40 := hG.pr 48 2
        have b59 : 0 ≤ Z 48 3 ∧ Z 48 3 ≤ 1 := hG.pr 48 3
        have b60 : 0 ≤ Z 50 1 ∧ Z 50 1 ≤ 3 := hG.pr 50 1
        have b61 : 0 ≤ Z 50 2 ∧ Z 50 2 ≤ 40 := hG.pr 50 2
        exact mx_J.ret (sn_129 27) (fun _ _ => rfl) (hP (-6) Z h hx hG fr_rf ⟨(fun _ => (fun i => rfl)), (fun q => absurd q (by decide)), (fun _ => (fun i => rfl)), (fun q => absurd q (by decide)), (fun _ => (fun i => rfl)), (fun q => absurd q (by decide)), (fun _ => (fun i => rfl)), (fun _ q => absurd (Or.inl (by omega)) q), by omega⟩)
    · skip
      exfalso; omega
theorem ct_129_1_i3 {l : Launch} {D : va_G} {b0 : Nat} {ad : Nat → Nat} {Hb : Heap} {tau : Nat → Int64} {d n s : Nat} {S : Nat → xS} {Z : xZ} {h : mx_H} (hx : XH n s S Z h) (hG : GI n S Z)  {x1 x2 : Int} (p1 : (-2147483648) ≤ x1 ∧ x1 ≤ 2147483647) (p2 : (-9223372036854775808) ≤ x2 ∧ x2 ≤ 9223372036854775807) : ∃ (z : Int) (Z' : xZ) (h' : mx_H), mx_Ca (tB l D b0 ad Hb tau) (d + 2) 129 [.ref 1, xI 3, xI x1, xL x2] h (some (xL z), h') ∧ XH n s S Z' h' ∧ GI n S Z' ∧ fr' [(51, (-1))] Z Z' ∧ (((¬ (3 : Int) = 0 ∨ (Z 44 3 = 1 ∨ x1 < 0 ∨ Z 44 2 ≤ x1)) → ∀ i, Z' 45 i = Z 45 i) ∧ ((3 : Int) = 0 → ¬ (Z 44 3 = 1 ∨ x1 < 0 ∨ Z 44 2 ≤ x1) → (∀ i, ¬ i = x1 → Z' 45 i = Z 45 i) ∧ Z' 45 x1 = z) ∧ ((¬ (3 : Int) = 1 ∨ (Z 46 3 = 1 ∨ x1 < 0 ∨ Z 46 2 ≤ x1)) → ∀ i, Z' 47 i = Z 47 i) ∧ ((3 : Int) = 1 → ¬ (Z 46 3 = 1 ∨ x1 < 0 ∨ Z 46 2 ≤ x1) → (∀ i, ¬ i = x1 → Z' 47 i = Z 47 i) ∧ Z' 47 x1 = z) ∧ ((¬ (3 : Int) = 2 ∨ (Z 48 3 = 1 ∨ x1 < 0 ∨ Z 48 2 ≤ x1)) → ∀ i, Z' 49 i = Z 49 i) ∧ ((3 : Int) = 2 → ¬ (Z 48 3 = 1 ∨ x1 < 0 ∨ Z 48 2 ≤ x1) → (∀ i, ¬ i = x1 → Z' 49 i = Z 49 i) ∧ Z' 49 x1 = z) ∧ ((¬ (3 : Int) = 3 ∨ (Z 50 3 = 1 ∨ x1 < 0 ∨ Z 50 2 ≤ x1)) → ∀ i, Z' 51 i = Z 51 i) ∧ ((3 : Int) = 3 → ¬ (Z 50 3 = 1 ∨ x1 < 0 ∨ Z 50 2 ≤ x1) → (∀ i, ¬ i = x1 → Z' 51 i = Z 51 i) ∧ Z' 51 x1 = z) ∧ (-9223372036854775808) ≤ z ∧ z ≤ 9223372036854775807 ∧ ((((3 : Int) < 0 ∨ 3 < (3 : Int)) → z = -2) ∧ ((3 : Int) = 0 → (Z 44 3 = 1 → z = -6) ∧ (Z 44 3 = 0 → ((x1 < 0 ∨ Z 44 2 ≤ x1) → z = -7) ∧ (¬ (x1 < 0 ∨ Z 44 2 ≤ x1) → ((Z 44 1 = 0 → -128 ≤ z ∧ z ≤ 127 ∧ (z - x2) % 256 = 0) ∧ (Z 44 1 = 1 → -32768 ≤ z ∧ z ≤ 32767 ∧ (z - x2) % 65536 = 0) ∧ (Z 44 1 = 2 → -2147483648 ≤ z ∧ z ≤ 2147483647 ∧ (z - x2) % 4294967296 = 0) ∧ (¬ Z 44 1 = 0 → ¬ Z 44 1 = 1 → ¬ Z 44 1 = 2 → z = x2))))) ∧ ((3 : Int) = 1 → (Z 46 3 = 1 → z = -6) ∧ (Z 46 3 = 0 → ((x1 < 0 ∨ Z 46 2 ≤ x1) → z = -7) ∧ (¬ (x1 < 0 ∨ Z 46 2 ≤ x1) → ((Z 46 1 = 0 → -128 ≤ z ∧ z ≤ 127 ∧ (z - x2) % 256 = 0) ∧ (Z 46 1 = 1 → -32768 ≤ z ∧ z ≤ 32767 ∧ (z - x2) % 65536 = 0) ∧ (Z 46 1 = 2 → -2147483648 ≤ z ∧ z ≤ 2147483647 ∧ (z - x2) % 4294967296 = 0) ∧ (¬ Z 46 1 = 0 → ¬ Z 46 1 = 1 → ¬ Z 46 1 = 2 → z = x2))))) ∧ ((3 : Int) = 2 → (Z 48 3 = 1 → z = -6) ∧ (Z 48 3 = 0 → ((x1 < 0 ∨ Z 48 2 ≤ x1) → z = -7) ∧ (¬ (x1 < 0 ∨ Z 48 2 ≤ x1) → ((Z 48 1 = 0 → -128 ≤ z ∧ z ≤ 127 ∧ (z - x2) % 256 = 0) ∧ (Z 48 1 = 1 → -32768 ≤ z ∧ z ≤ 32767 ∧ (z - x2) % 65536 = 0) ∧ (Z 48 1 = 2 → -2147483648 ≤ z ∧ z ≤ 2147483647 ∧ (z - x2) % 4294967296 = 0) ∧ (¬ Z 48 1 = 0 → ¬ Z 48 1 = 1 → ¬ Z 48 1 = 2 → z = x2))))) ∧ ((3 : Int) = 3 → (Z 50 3 = 1 → z = -6) ∧ (Z 50 3 = 0 → ((x1 < 0 ∨ Z 50 2 ≤ x1) → z = -7) ∧ (¬ (x1 < 0 ∨ Z 50 2 ≤ x1) → ((Z 50 1 = 0 → -128 ≤ z ∧ z ≤ 127 ∧ (z - x2) % 256 = 0) ∧ (Z 50 1 = 1 → -32768 ≤ z ∧ z ≤ 32767 ∧ (z - x2) % 65536 = 0) ∧ (Z 50 1 = 2 → -2147483648 ≤ z ∧ z ≤ 2147483647 ∧ (z - x2) % 4294967296 = 0) ∧ (¬ Z 50 1 = 0 → ¬ Z 50 1 = 1 → ¬ Z 50 1 = 2 → z = x2))))))) := by
  obtain ⟨r, hca, z, Z', h', e, q⟩ := Jmt (B := tB l D b0 ad Hb tau) (M := mt_129) (mi := 129) (as := [.ref 1, xI 3, xI x1, xL x2]) (d := d + 1) (ls := [some (.ref 1), some (xI 3), some (xI x1), some (xL x2), none]) rfl rfl rfl rfl rfl rfl (cw_129_1_i3 (l := l) (D := D) (b0 := b0) (ad := ad) (Hb := Hb) (tau := tau) (d := d) (Post := fun r => ∃ (z : Int) (Z' : xZ) (h' : mx_H), r = (some (xL z), h') ∧ XH n s S Z' h' ∧ GI n S Z' ∧ fr' [(51, (-1))] Z Z' ∧ (((¬ (3 : Int) = 0 ∨ (Z 44 3 = 1 ∨ x1 < 0 ∨ Z 44 2 ≤ x1)) → ∀ i, Z' 45 i = Z 45 i) ∧ ((3 : Int) = 0 → ¬ (Z 44 3 = 1 ∨ x1 < 0 ∨ Z 44 2 ≤ x1) → (∀ i, ¬ i = x1 → Z' 45 i = Z 45 i) ∧ Z' 45 x1 = z) ∧ ((¬ (3 : Int) = 1 ∨ (Z 46 3 = 1 ∨ x1 < 0 ∨ Z 46 2 ≤ x1)) → ∀ i, Z' 47 i = Z 47 i) ∧ ((3 : Int) = 1 → ¬ (Z 46 3 = 1 ∨ x1 < 0 ∨ Z 46 2 ≤ x1) → (∀ i, ¬ i = x1 → Z' 47 i = Z 47 i) ∧ Z' 47 x1 = z) ∧ ((¬ (3 : Int) = 2 ∨ (Z 48 3 = 1 ∨ x1 < 0 ∨ Z 48 2 ≤ x1)) → ∀ i, Z' 49 i = Z 49 i) ∧ ((3 : Int) = 2 → ¬ (Z 48 3 = 1 ∨ x1 < 0 ∨ Z 48 2 ≤ x1) → (∀ i, ¬ i = x1 → Z' 49 i = Z 49 i) ∧ Z' 49 x1 = z) ∧ ((¬ (3 : Int) = 3 ∨ (Z 50 3 = 1 ∨ x1 < 0 ∨ Z 50 2 ≤ x1)) → ∀ i, Z' 51 i = Z 51 i) ∧ ((3 : Int) = 3 → ¬ (Z 50 3 = 1 ∨ x1 < 0 ∨ Z 50 2 ≤ x1) → (∀ i, ¬ i = x1 → Z' 51 i = Z 51 i) ∧ Z' 51 x1 = z) ∧ (-9223372036854775808) ≤ z ∧ z ≤ 9223372036854775807 ∧ ((((3 : Int) < 0 ∨ 3 < (3 : Int)) → z = -2) ∧ ((3 : Int) = 0 → (Z 44 3 = 1 → z = -6) ∧ (Z 44 3 = 0 → ((x1 < 0 ∨ Z 44 2 ≤ x1) → z = -7) ∧ (¬ (x1 < 0 ∨ Z 44 2 ≤ x1) → ((Z 44 1 = 0 → -128 ≤ z ∧ z ≤ 127 ∧ (z - x2) % 256 = 0) ∧ (Z 44 1 = 1 → -32768 ≤ z ∧ z ≤ 32767 ∧ (z - x2) % 65536 = 0) ∧ (Z 44 1 = 2 → -2147483648 ≤ z ∧ z ≤ 2147483647 ∧ (z - x2) % 4294967296 = 0) ∧ (¬ Z 44 1 = 0 → ¬ Z 44 1 = 1 → ¬ Z 44 1 = 2 → z = x2))))) ∧ ((3 : Int) = 1 → (Z 46 3 = 1 → z = -6) ∧ (Z 46 3 = 0 → ((x1 < 0 ∨ Z 46 2 ≤ x1) → z = -7) ∧ (¬ (x1 < 0 ∨ Z 46 2 ≤ x1) → ((Z 46 1 = 0 → -128 ≤ z ∧ z ≤ 127 ∧ (z - x2) % 256 = 0) ∧ (Z 46 1 = 1 → -32768 ≤ z ∧ z ≤ 32767 ∧ (z - x2) % 65536 = 0) ∧ (Z 46 1 = 2 → -2147483648 ≤ z ∧ z ≤ 2147483647 ∧ (z - x2) % 4294967296 = 0) ∧ (¬ Z 46 1 = 0 → ¬ Z 46 1 = 1 → ¬ Z 46 1 = 2 → z = x2))))) ∧ ((3 : Int) = 2 → (Z 48 3 = 1 → z = -6) ∧ (Z 48 3 = 0 → ((x1 < 0 ∨ Z 48 2 ≤ x1) → z = -7) ∧ (¬ (x1 < 0 ∨ Z 48 2 ≤ x1) → ((Z 48 1 = 0 → -128 ≤ z ∧ z ≤ 127 ∧ (z - x2) % 256 = 0) ∧ (Z 48 1 = 1 → -32768 ≤ z ∧ z ≤ 32767 ∧ (z - x2) % 65536 = 0) ∧ (Z 48 1 = 2 → -2147483648 ≤ z ∧ z ≤ 2147483647 ∧ (z - x2) % 4294967296 = 0) ∧ (¬ Z 48 1 = 0 → ¬ Z 48 1 = 1 → ¬ Z 48 1 = 2 → z = x2))))) ∧ ((3 : Int) = 3 → (Z 50 3 = 1 → z = -6) ∧ (Z 50 3 = 0 → ((x1 < 0 ∨ Z 50 2 ≤ x1) → z = -7) ∧ (¬ (x1 < 0 ∨ Z 50 2 ≤ x1) → ((Z 50 1 = 0 → -128 ≤ z ∧ z ≤ 127 ∧ (z - x2) % 256 = 0) ∧ (Z 50 1 = 1 → -32768 ≤ z ∧ z ≤ 32767 ∧ (z - x2) % 65536 = 0) ∧ (Z 50 1 = 2 → -2147483648 ≤ z ∧ z ≤ 2147483647 ∧ (z - x2) % 4294967296 = 0) ∧ (¬ Z 50 1 = 0 → ¬ Z 50 1 = 1 → ¬ Z 50 1 = 2 → z = x2)))))))) hx hG p1 p2 (fun z Z' h' q1 q2 q3 q4 => ⟨z, Z', h', rfl, q1, q2, q3, q4⟩))
  subst e; exact ⟨z, Z', h', hca, q⟩
set_option maxRecDepth 100000 in
theorem cw_129_1_n {l : Launch} {D : va_G} {b0 : Nat} {ad : Nat → Nat} {Hb : Heap} {tau : Nat → Int64} {d n s : Nat} {S : Nat → xS} {Z : xZ} {h : mx_H} {Post : mx_R → Prop} (hx : XH n s S Z h) (hG : GI n S Z)  {x0 x1 x2 : Int} (p0 : (-2147483648) ≤ x0 ∧ x0 ≤ (-1)) (p1 : (-2147483648) ≤ x1 ∧ x1 ≤ 2147483647) (p2 : (-9223372036854775808) ≤ x2 ∧ x2 ≤ 9223372036854775807) (hP : ∀ z : Int, ((¬ x0 = 0 ∨ (Z 44 3 = 1 ∨ x1 < 0 ∨ Z 44 2 ≤ x1)) → ∀ i, Z 45 i = Z 45 i) ∧ (x0 = 0 → ¬ (Z 44 3 = 1 ∨ x1 < 0 ∨ Z 44 2 ≤ x1) → (∀ i, ¬ i = x1 → Z 45 i = Z 45 i) ∧ Z 45 x1 = z) ∧ ((¬ x0 = 1 ∨ (Z 46 3 = 1 ∨ x1 < 0 ∨ Z 46 2 ≤ x1)) → ∀ i, Z 47 i = Z 47 i) ∧ (x0 = 1 → ¬ (Z 46 3 = 1 ∨ x1 < 0 ∨ Z 46 2 ≤ x1) → (∀ i, ¬ i = x1 → Z 47 i = Z 47 i) ∧ Z 47 x1 = z) ∧ ((¬ x0 = 2 ∨ (Z 48 3 = 1 ∨ x1 < 0 ∨ Z 48 2 ≤ x1)) → ∀ i, Z 49 i = Z 49 i) ∧ (x0 = 2 → ¬ (Z 48 3 = 1 ∨ x1 < 0 ∨ Z 48 2 ≤ x1) → (∀ i, ¬ i = x1 → Z 49 i = Z 49 i) ∧ Z 49 x1 = z) ∧ ((¬ x0 = 3 ∨ (Z 50 3 = 1 ∨ x1 < 0 ∨ Z 50 2 ≤ x1)) → ∀ i, Z 51 i = Z 51 i) ∧ (x0 = 3 → ¬ (Z 50 3 = 1 ∨ x1 < 0 ∨ Z 50 2 ≤ x1) → (∀ i, ¬ i = x1 → Z 51 i = Z 51 i) ∧ Z 51 x1 = z) ∧ (-2) ≤ z ∧ z ≤ (-2) ∧ (((x0 < 0 ∨ 3 < x0) → z = -2) ∧ (x0 = 0 → (Z 44 3 = 1 → z = -6) ∧ (Z 44 3 = 0 → ((x1 < 0 ∨ Z 44 2 ≤ x1) → z = -7) ∧ (¬ (x1 < 0 ∨ Z 44 2 ≤ x1) → ((Z 44 1 = 0 → -128 ≤ z ∧ z ≤ 127 ∧ (z - x2) % 256 = 0) ∧ (Z 44 1 = 1 → -32768 ≤ z ∧ z ≤ 32767 ∧ (z - x2) % 65536 = 0) ∧ (Z 44 1 = 2 → -2147483648 ≤ z ∧ z ≤ 2147483647 ∧ (z - x2) % 4294967296 = 0) ∧ (¬ Z 44 1 = 0 → ¬ Z 44 1 = 1 → ¬ Z 44 1 = 2 → z = x2))))) ∧ (x0 = 1 → (Z 46 3 = 1 → z = -6) ∧ (Z 46 3 = 0 → ((x1 < 0 ∨ Z 46 2 ≤ x1) → z = -7) ∧ (¬ (x1 < 0 ∨ Z 46 2 ≤ x1) → ((Z 46 1 = 0 → -128 ≤ z ∧ z ≤ 127 ∧ (z - x2) % 256 = 0) ∧ (Z 46 1 = 1 → -32768 ≤ z ∧ z ≤ 32767 ∧ (z - x2) % 65536 = 0) ∧ (Z 46 1 = 2 → -2147483648 ≤ z ∧ z ≤ 2147483647 ∧ (z - x2) % 4294967296 = 0) ∧ (¬ Z 46 1 = 0 → ¬ Z 46 1 = 1 → ¬ Z 46 1 = 2 → z = x2))))) ∧ (x0 = 2 → (Z 48 3 = 1 → z = -6) ∧ (Z 48 3 = 0 → ((x1 < 0 ∨ Z 48 2 ≤ x1) → z = -7) ∧ (¬ (x1 < 0 ∨ Z 48 2 ≤ x1) → ((Z 48 1 = 0 → -128 ≤ z ∧ z ≤ 127 ∧ (z - x2) % 256 = 0) ∧ (Z 48 1 = 1 → -32768 ≤ z ∧ z ≤ 32767 ∧ (z - x2) % 65536 = 0) ∧ (Z 48 1 = 2 → -2147483648 ≤ z ∧ z ≤ 2147483647 ∧ (z - x2) % 4294967296 = 0) ∧ (¬ Z 48 1 = 0 → ¬ Z 48 1 = 1 → ¬ Z 48 1 = 2 → z = x2))))) ∧ (x0 = 3 → (Z 50 3 = 1 → z = -6) ∧ (Z 50 3 = 0 → ((x1 < 0 ∨ Z 50 2 ≤ x1) → z = -7) ∧ (¬ (x1 < 0 ∨ Z 50 2 ≤ x1) → ((Z 50 1 = 0 → -128 ≤ z ∧ z ≤ 127 ∧ (z - x2) % 256 = 0) ∧ (Z 50 1 = 1 → -32768 ≤ z ∧ z ≤ 32767 ∧ (z - x2) % 65536 = 0) ∧ (Z 50 1 = 2 → -2147483648 ≤ z ∧ z ≤ 2147483647 ∧ (z - x2) % 4294967296 = 0) ∧ (¬ Z 50 1 = 0 → ¬ Z 50 1 = 1 → ¬ Z 50 1 = 2 → z = x2)))))) → Post (some (xL z), h)) : mx_J (tB l D b0 ad Hb tau) mt_129 (d + 1) 0 [some (.ref 1), some (xI x0), some (xI x1), some (xL x2), none] [] h Post := by
    have a1 : 1 < n := lt83 (GI_n hG) rfl
    have s1 : S 1 = .inl (11, [2, 0, 0, 0, 2, 2, 2, 2, 2, 2, 2, 2, 2, 2, 2, 2, 2]) := GI_s hG 1 rfl
    refine mx_J.step (sn_129 0) (fun _ _ => rfl) ?_
    refine mx_J.step (sn_129 1) (fun _ _ => rfl) ?_
    obtain ⟨z1, hc1, b1⟩ := ct_144_1_n (d := d + 0) (l := l) (D := D) (b0 := b0) (ad := ad) (Hb := Hb) (tau := tau) hx hG (show (-2147483648) ≤ x0 ∧ x0 ≤ (-1) by omega)
    refine Jcv hx (show mx_Sn _ _ 2 (mx_callv 144 2 11 5) from sn_129 2) a1 s1 hc1 rfl rfl rfl ?_
    refine Jif_eq (show mx_Sn _ _ 5 (mx_if_eq 12 8) from sn_129 5) (by omega) (fun q2 => ?_) (fun q2 => ?_)
    · skip
      exfalso; omega
    · skip
      refine JcL (z := (-2)) (show mx_Sn _ _ 8 (mx_const (.long (-2)) 11) from sn_129 8) rfl ?_
      have b3 : 0 ≤ Z 44 1 ∧ Z 44 1 ≤ 3 := hG.pr 44 1
      have b4 : 0 ≤ Z 44 2 ∧ Z 44 2 ≤ 40 := hG.pr 44 2
      have b5 : 0 ≤ Z 44 3 ∧ Z 44 3 ≤ 1 := hG.pr 44 3
      have b6 : 0 ≤ Z 46 1 ∧ Z 46 1 ≤ 3 := hG.pr 46 1
      have b7 : 0 ≤ Z 46 2 ∧ Z 46 2 ≤ 40 := hG.pr 46 2
      have b8 : 0 ≤ Z 46 3 ∧ Z 46 3 ≤ 1 := hG.pr 46 3
      have b9 : 0 ≤ Z 48 1 ∧ Z 48 1 ≤ 3 := hG.pr 48 1
      have b10 : 0 ≤ Z 48 2 ∧ Z 48 2 ≤ 40 := hG.pr 48 2
      have b11 : 0 ≤ Z 48 3 ∧ Z 48 3 ≤ 1 := hG.pr 48 3
      have b12 : 0 ≤ Z 50 1 ∧ Z 50 1 ≤ 3 := hG.pr 50 1
      have b13 : 0 ≤ Z 50 2 ∧ Z 50 2 ≤ 40 := hG.pr 50 2
      have b14 : 0 ≤ Z 50 3 ∧ Z 50 3 ≤ 1 := hG.pr 50 3
      exact mx_J.ret (sn_129 11) (fun _ _ => rfl) (hP (-2) ⟨(fun _ => (fun i => rfl)), (fun q => absurd q (by omega)), (fun _ => (fun i => rfl)), (fun q => absurd q (by omega)), (fun _ => (fun i => rfl)), (fun q => absurd q (by omega)), (fun _ => (fun i => rfl)), (fun q => absurd q (by omega)), by omega⟩)
theorem ct_129_1_n {l : Launch} {D : va_G} {b0 : Nat} {ad : Nat → Nat} {Hb : Heap} {tau : Nat → Int64} {d n s : Nat} {S : Nat → xS} {Z : xZ} {h : mx_H} (hx : XH n s S Z h) (hG : GI n S Z)  {x0 x1 x2 : Int} (p0 : (-2147483648) ≤ x0 ∧ x0 ≤ (-1)) (p1 : (-2147483648) ≤ x1 ∧ x1 ≤ 2147483647) (p2 : (-9223372036854775808) ≤ x2 ∧ x2 ≤ 9223372036854775807) : ∃ z : Int, mx_Ca (tB l D b0 ad Hb tau) (d + 2) 129 [.ref 1, xI x0, xI x1, xL x2] h (some (xL z), h) ∧ (((¬ x0 = 0 ∨ (Z 44 3 = 1 ∨ x1 < 0 ∨ Z 44 2 ≤ x1)) → ∀ i, Z 45 i = Z 45 i) ∧ (x0 = 0 → ¬ (Z 44 3 = 1 ∨ x1 < 0 ∨ Z 44 2 ≤ x1) → (∀ i, ¬ i = x1 → Z 45 i = Z 45 i) ∧ Z 45 x1 = z) ∧ ((¬ x0 = 1 ∨ (Z 46 3 = 1 ∨ x1 < 0 ∨ Z 46 2 ≤ x1)) → ∀ i, Z 47 i = Z 47 i) ∧ (x0 = 1 → ¬ (Z 46 3 = 1 ∨ x1 < 0 ∨ Z 46 2 ≤ x1) → (∀ i, ¬ i = x1 → Z 47 i = Z 47 i) ∧ Z 47 x1 = z) ∧ ((¬ x0 = 2 ∨ (Z 48 3 = 1 ∨ x1 < 0 ∨ Z 48 2 ≤ x1)) → ∀ i, Z 49 i = Z 49 i) ∧ (x0 = 2 → ¬ (Z 48 3 = 1 ∨ x1 < 0 ∨ Z 48 2 ≤ x1) → (∀ i, ¬ i = x1 → Z 49 i = Z 49 i) ∧ Z 49 x1 = z) ∧ ((¬ x0 = 3 ∨ (Z 50 3 = 1 ∨ x1 < 0 ∨ Z 50 2 ≤ x1)) → ∀ i, Z 51 i = Z 51 i) ∧ (x0 = 3 → ¬ (Z 50 3 = 1 ∨ x1 < 0 ∨ Z 50 2 ≤ x1) → (∀ i, ¬ i = x1 → Z 51 i = Z 51 i) ∧ Z 51 x1 = z) ∧ (-2) ≤ z ∧ z ≤ (-2) ∧ (((x0 < 0 ∨ 3 < x0) → z = -2) ∧ (x0 = 0 → (Z 44 3 = 1 → z = -6) ∧ (Z 44 3 = 0 → ((x1 < 0 ∨ Z 44 2 ≤ x1) → z = -7) ∧ (¬ (x1 < 0 ∨ Z 44 2 ≤ x1) → ((Z 44 1 = 0 → -128 ≤ z ∧ z ≤ 127 ∧ (z - x2) % 256 = 0) ∧ (Z 44 1 = 1 → -32768 ≤ z ∧ z ≤ 32767 ∧ (z - x2) % 65536 = 0) ∧ (Z 44 1 = 2 → -2147483648 ≤ z ∧ z ≤ 2147483647 ∧ (z - x2) % 4294967296 = 0) ∧ (¬ Z 44 1 = 0 → ¬ Z 44 1 = 1 → ¬ Z 44 1 = 2 → z = x2))))) ∧ (x0 = 1 → (Z 46 3 = 1 → z = -6) ∧ (Z 46 3 = 0 → ((x1 < 0 ∨ Z 46 2 ≤ x1) → z = -7) ∧ (¬ (x1 < 0 ∨ Z 46 2 ≤ x1) → ((Z 46 1 = 0 → -128 ≤ z ∧ z ≤ 127 ∧ (z - x2) % 256 = 0) ∧ (Z 46 1 = 1 → -32768 ≤ z ∧ z ≤ 32767 ∧ (z - x2) % 65536 = 0) ∧ (Z 46 1 = 2 → -2147483648 ≤ z ∧ z ≤ 2147483647 ∧ (z - x2) % 4294967296 = 0) ∧ (¬ Z 46 1 = 0 → ¬ Z 46 1 = 1 → ¬ Z 46 1 = 2 → z = x2))))) ∧ (x0 = 2 → (Z 48 3 = 1 → z = -6) ∧ (Z 48 3 = 0 → ((x1 < 0 ∨ Z 48 2 ≤ x1) → z = -7) ∧ (¬ (x1 < 0 ∨ Z 48 2 ≤ x1) → ((Z 48 1 = 0 → -128 ≤ z ∧ z ≤ 127 ∧ (z - x2) % 256 = 0) ∧ (Z 48 1 = 1 → -32768 ≤ z ∧ z ≤ 32767 ∧ (z - x2) % 65536 = 0) ∧ (Z 48 1 = 2 → -2147483648 ≤ z ∧ z ≤ 2147483647 ∧ (z - x2) % 4294967296 = 0) ∧ (¬ Z 48 1 = 0 → ¬ Z 48 1 = 1 → ¬ Z 48 1 = 2 → z = x2))))) ∧ (x0 = 3 → (Z 50 3 = 1 → z = -6) ∧ (Z 50 3 = 0 → ((x1 < 0 ∨ Z 50 2 ≤ x1) → z = -7) ∧ (¬ (x1 < 0 ∨ Z 50 2 ≤ x1) → ((Z 50 1 = 0 → -128 ≤ z ∧ z ≤ 127 ∧ (z - x2) % 256 = 0) ∧ (Z 50 1 = 1 → -32768 ≤ z ∧ z ≤ 32767 ∧ (z - x2) % 65536 = 0) ∧ (Z 50 1 = 2 → -2147483648 ≤ z ∧ z ≤ 2147483647 ∧ (z - x2) % 4294967296 = 0) ∧ (¬ Z 50 1 = 0 → ¬ Z 50 1 = 1 → ¬ Z 50 1 = 2 → z = x2))))))) := by
  obtain ⟨r, hca, z, e, hp⟩ := Jmt (B := tB l D b0 ad Hb tau) (M := mt_129) (mi := 129) (as := [.ref 1, xI x0, xI x1, xL x2]) (d := d + 1) (ls := [some (.ref 1), some (xI x0), some (xI x1), some (xL x2), none]) rfl rfl rfl rfl rfl rfl (cw_129_1_n (l := l) (D := D) (b0 := b0) (ad := ad) (Hb := Hb) (tau := tau) (d := d) (Post := fun r => ∃ z : Int, r = (some (xL z), h) ∧ (((¬ x0 = 0 ∨ (Z 44 3 = 1 ∨ x1 < 0 ∨ Z 44 2 ≤ x1)) → ∀ i, Z 45 i = Z 45 i) ∧ (x0 = 0 → ¬ (Z 44 3 = 1 ∨ x1 < 0 ∨ Z 44 2 ≤ x1) → (∀ i, ¬ i = x1 → Z 45 i = Z 45 i) ∧ Z 45 x1 = z) ∧ ((¬ x0 = 1 ∨ (Z 46 3 = 1 ∨ x1 < 0 ∨ Z 46 2 ≤ x1)) → ∀ i, Z 47 i = Z 47 i) ∧ (x0 = 1 → ¬ (Z 46 3 = 1 ∨ x1 < 0 ∨ Z 46 2 ≤ x1) → (∀ i, ¬ i = x1 → Z 47 i = Z 47 i) ∧ Z 47 x1 = z) ∧ ((¬ x0 = 2 ∨ (Z 48 3 = 1 ∨ x1 < 0 ∨ Z 48 2 ≤ x1)) → ∀ i, Z 49 i = Z 49 i) ∧ (x0 = 2 → ¬ (Z 48 3 = 1 ∨ x1 < 0 ∨ Z 48 2 ≤ x1) → (∀ i, ¬ i = x1 → Z 49 i = Z 49 i) ∧ Z 49 x1 = z) ∧ ((¬ x0 = 3 ∨ (Z 50 3 = 1 ∨ x1 < 0 ∨ Z 50 2 ≤ x1)) → ∀ i, Z 51 i = Z 51 i) ∧ (x0 = 3 → ¬ (Z 50 3 = 1 ∨ x1 < 0 ∨ Z 50 2 ≤ x1) → (∀ i, ¬ i = x1 → Z 51 i = Z 51 i) ∧ Z 51 x1 = z) ∧ (-2) ≤ z ∧ z ≤ (-2) ∧ (((x0 < 0 ∨ 3 < x0) → z = -2) ∧ (x0 = 0 → (Z 44 3 = 1 → z = -6) ∧ (Z 44 3 = 0 → ((x1 < 0 ∨ Z 44 2 ≤ x1) → z = -7) ∧ (¬ (x1 < 0 ∨ Z 44 2 ≤ x1) → ((Z 44 1 = 0 → -128 ≤ z ∧ z ≤ 127 ∧ (z - x2) % 256 = 0) ∧ (Z 44 1 = 1 → -32768 ≤ z ∧ z ≤ 32767 ∧ (z - x2) % 65536 = 0) ∧ (Z 44 1 = 2 → -2147483648 ≤ z ∧ z ≤ 2147483647 ∧ (z - x2) % 4294967296 = 0) ∧ (¬ Z 44 1 = 0 → ¬ Z 44 1 = 1 → ¬ Z 44 1 = 2 → z = x2))))) ∧ (x0 = 1 → (Z 46 3 = 1 → z = -6) ∧ (Z 46 3 = 0 → ((x1 < 0 ∨ Z 46 2 ≤ x1) → z = -7) ∧ (¬ (x1 < 0 ∨ Z 46 2 ≤ x1) → ((Z 46 1 = 0 → -128 ≤ z ∧ z ≤ 127 ∧ (z - x2) % 256 = 0) ∧ (Z 46 1 = 1 → -32768 ≤ z ∧ z ≤ 32767 ∧ (z - x2) % 65536 = 0) ∧ (Z 46 1 = 2 → -2147483648 ≤ z ∧ z ≤ 2147483647 ∧ (z - x2) % 4294967296 = 0) ∧ (¬ Z 46 1 = 0 → ¬ Z 46 1 = 1 → ¬ Z 46 1 = 2 → z = x2))))) ∧ (x0 = 2 → (Z 48 3 = 1 → z = -6) ∧ (Z 48 3 = 0 → ((x1 < 0 ∨ Z 48 2 ≤ x1) → z = -7) ∧ (¬ (x1 < 0 ∨ Z 48 2 ≤ x1) → ((Z 48 1 = 0 → -128 ≤ z ∧ z ≤ 127 ∧ (z - x2) % 256 = 0) ∧ (Z 48 1 = 1 → -32768 ≤ z ∧ z ≤ 32767 ∧ (z - x2) % 65536 = 0) ∧ (Z 48 1 = 2 → -2147483648 ≤ z ∧ z ≤ 2147483647 ∧ (z - x2) % 4294967296 = 0) ∧ (¬ Z 48 1 = 0 → ¬ Z 48 1 = 1 → ¬ Z 48 1 = 2 → z = x2))))) ∧ (x0 = 3 → (Z 50 3 = 1 → z = -6) ∧ (Z 50 3 = 0 → ((x1 < 0 ∨ Z 50 2 ≤ x1) → z = -7) ∧ (¬ (x1 < 0 ∨ Z 50 2 ≤ x1) → ((Z 50 1 = 0 → -128 ≤ z ∧ z ≤ 127 ∧ (z - x2) % 256 = 0) ∧ (Z 50 1 = 1 → -32768 ≤ z ∧ z ≤ 32767 ∧ (z - x2) % 65536 = 0) ∧ (Z 50 1 = 2 → -2147483648 ≤ z ∧ z ≤ 2147483647 ∧ (z - x2) % 4294967296 = 0) ∧ (¬ Z 50 1 = 0 → ¬ Z 50 1 = 1 → ¬ Z 50 1 = 2 → z = x2)))))))) hx hG p0 p1 p2 (fun z hz => ⟨z, rfl, hz⟩))
  subst e; exact ⟨z, hca, hp⟩
set_option maxRecDepth 100000 in
theorem cw_129_1_p {l : Launch} {D : va_G} {b0 : Nat} {ad : Nat → Nat} {Hb : Heap} {tau : Nat → Int64} {d n s : Nat} {S : Nat → xS} {Z : xZ} {h : mx_H} {Post : mx_R → Prop} (hx : XH n s S Z h) (hG : GI n S Z)  {x0 x1 x2 : Int} (p0 : 4 ≤ x0 ∧ x0 ≤ 2147483647) (p1 : (-2147483648) ≤ x1 ∧ x1 ≤ 2147483647) (p2 : (-9223372036854775808) ≤ x2 ∧ x2 ≤ 9223372036854775807) (hP : ∀ z : Int, ((¬ x0 = 0 ∨ (Z 44 3 = 1 ∨ x1 < 0 ∨ Z 44 2 ≤ x1)) → ∀ i, Z 45 i = Z 45 i) ∧ (x0 = 0 → ¬ (Z 44 3 = 1 ∨ x1 < 0 ∨ Z 44 2 ≤ x1) → (∀ i, ¬ i = x1 → Z 45 i = Z 45 i) ∧ Z 45 x1 = z) ∧ ((¬ x0 = 1 ∨ (Z 46 3 = 1 ∨ x1 < 0 ∨ Z 46 2 ≤ x1)) → ∀ i, Z 47 i = Z 47 i) ∧ (x0 = 1 → ¬ (Z 46 3 = 1 ∨ x1 < 0 ∨ Z 46 2 ≤ x1) → (∀ i, ¬ i = x1 → Z 47 i = Z 47 i) ∧ Z 47 x1 = z) ∧ ((¬ x0 = 2 ∨ (Z 48 3 = 1 ∨ x1 < 0 ∨ Z 48 2 ≤ x1)) → ∀ i, Z 49 i = Z 49 i) ∧ (x0 = 2 → ¬ (Z 48 3 = 1 ∨ x1 < 0 ∨ Z 48 2 ≤ x1) → (∀ i, ¬ i = x1 → Z 49 i = Z 49 i) ∧ Z 49 x1 = z) ∧ ((¬ x0 = 3 ∨ (Z 50 3 = 1 ∨ x1 < 0 ∨ Z 50 2 ≤ x1)) → ∀ i, Z 51 i = Z 51 i) ∧ (x0 = 3 → ¬ (Z 50 3 = 1 ∨ x1 < 0 ∨ Z 50 2 ≤ x1) → (∀ i, ¬ i = x1 → Z 51 i = Z 51 i) ∧ Z 51 x1 = z) ∧ (-2) ≤ z ∧ z ≤ (-2) ∧ (((x0 < 0 ∨ 3 < x0) → z = -2) ∧ (x0 = 0 → (Z 44 3 = 1 → z = -6) ∧ (Z 44 3 = 0 → ((x1 < 0 ∨ Z 44 2 ≤ x1) → z = -7) ∧ (¬ (x1 < 0 ∨ Z 44 2 ≤ x1) → ((Z 44 1 = 0 → -128 ≤ z ∧ z ≤ 127 ∧ (z - x2) % 256 = 0) ∧ (Z 44 1 = 1 → -32768 ≤ z ∧ z ≤ 32767 ∧ (z - x2) % 65536 = 0) ∧ (Z 44 1 = 2 → -2147483648 ≤ z ∧ z ≤ 2147483647 ∧ (z - x2) % 4294967296 = 0) ∧ (¬ Z 44 1 = 0 → ¬ Z 44 1 = 1 → ¬ Z 44 1 = 2 → z = x2))))) ∧ (x0 = 1 → (Z 46 3 = 1 → z = -6) ∧ (Z 46 3 = 0 → ((x1 < 0 ∨ Z 46 2 ≤ x1) → z = -7) ∧ (¬ (x1 < 0 ∨ Z 46 2 ≤ x1) → ((Z 46 1 = 0 → -128 ≤ z ∧ z ≤ 127 ∧ (z - x2) % 256 = 0) ∧ (Z 46 1 = 1 → -32768 ≤ z ∧ z ≤ 32767 ∧ (z - x2) % 65536 = 0) ∧ (Z 46 1 = 2 → -2147483648 ≤ z ∧ z ≤ 2147483647 ∧ (z - x2) % 4294967296 = 0) ∧ (¬ Z 46 1 = 0 → ¬ Z 46 1 = 1 → ¬ Z 46 1 = 2 → z = x2))))) ∧ (x0 = 2 → (Z 48 3 = 1 → z = -6) ∧ (Z 48 3 = 0 → ((x1 < 0 ∨ Z 48 2 ≤ x1) → z = -7) ∧ (¬ (x1 < 0 ∨ Z 48 2 ≤ x1) → ((Z 48 1 = 0 → -128 ≤ z ∧ z ≤ 127 ∧ (z - x2) % 256 = 0) ∧ (Z 48 1 = 1 → -32768 ≤ z ∧ z ≤ 32767 ∧ (z - x2) % 65536 = 0) ∧ (Z 48 1 = 2 → -2147483648 ≤ z ∧ z ≤ 2147483647 ∧ (z - x2) % 4294967296 = 0) ∧ (¬ Z 48 1 = 0 → ¬ Z 48 1 = 1 → ¬ Z 48 1 = 2 → z = x2))))) ∧ (x0 = 3 → (Z 50 3 = 1 → z = -6) ∧ (Z 50 3 = 0 → ((x1 < 0 ∨ Z 50 2 ≤ x1) → z = -7) ∧ (¬ (x1 < 0 ∨ Z 50 2 ≤ x1) → ((Z 50 1 = 0 → -128 ≤ z ∧ z ≤ 127 ∧ (z - x2) % 256 = 0) ∧ (Z 50 1 = 1 → -32768 ≤ z ∧ z ≤ 32767 ∧ (z - x2) % 65536 = 0) ∧ (Z 50 1 = 2 → -2147483648 ≤ z ∧ z ≤ 2147483647 ∧ (z - x2) % 4294967296 = 0) ∧ (¬ Z 50 1 = 0 → ¬ Z 50 1 = 1 → ¬ Z 50 1 = 2 → z = x2)))))) → Post (some (xL z), h)) : mx_J (tB l D b0 ad Hb tau) mt_129 (d + 1) 0 [some (.ref 1), some (xI x0), some (xI x1), some (xL x2), none] [] h Post := by
    have a1 : 1 < n := lt83 (GI_n hG) rfl
    have s1 : S 1 = .inl (11, [2, 0, 0, 0, 2, 2, 2, 2, 2, 2, 2, 2, 2, 2, 2, 2, 2]) := GI_s hG 1 rfl
    refine mx_J.step (sn_129 0) (fun _ _ => rfl) ?_
    refine mx_J.step (sn_129 1) (fun _ _ => rfl) ?_
    obtain ⟨z1, hc1, b1⟩ := ct_144_1_p (d := d + 0) (l := l) (D := D) (b0 := b0) (ad := ad) (Hb := Hb) (tau := tau) hx hG (show 4 ≤ x0 ∧ x0 ≤ 2147483647 by omega)
    refine Jcv hx (show mx_Sn _ _ 2 (mx_callv 144 2 11 5) from sn_129 2) a1 s1 hc1 rfl rfl rfl ?_
    refine Jif_eq (show mx_Sn _ _ 5 (mx_if_eq 12 8) from sn_129 5) (by omega) (fun q2 => ?_) (fun q2 => ?_)
    · skip
      exfalso; omega
    · skip
      refine JcL (z := (-2)) (show mx_Sn _ _ 8 (mx_const (.long (-2)) 11) from sn_129 8) rfl ?_
      have b3 : 0 ≤ Z 44 1 ∧ Z 44 1 ≤ 3 := hG.pr 44 1
      have b4 : 0 ≤ Z 44 2 ∧ Z 44 2 ≤ 40 := hG.pr 44 2
      have b5 : 0 ≤ Z 44 3 ∧ Z 44 3 ≤ 1 := hG.pr 44 3
      have b6 : 0 ≤ Z 46 1 ∧ Z 46 1 ≤ 3 := hG.pr 46 1
      have b7 : 0 ≤ Z 46 2 ∧ Z 46 2 ≤ 40 := hG.pr 46 2
      have b8 : 0 ≤ Z 46 3 ∧ Z 46 3 ≤ 1 := hG.pr 46 3
      have b9 : 0 ≤ Z 48 1 ∧ Z 48 1 ≤ 3 := hG.pr 48 1
      have b10 : 0 ≤ Z 48 2 ∧ Z 48 2 ≤ 40 := hG.pr 48 2
      have b11 : 0 ≤ Z 48 3 ∧ Z 48 3 ≤ 1 := hG.pr 48 3
      have b12 : 0 ≤ Z 50 1 ∧ Z 50 1 ≤ 3 := hG.pr 50 1
      have b13 : 0 ≤ Z 50 2 ∧ Z 50 2 ≤ 40 := hG.pr 50 2
      have b14 : 0 ≤ Z 50 3 ∧ Z 50 3 ≤ 1 := hG.pr 50 3
      exact mx_J.ret (sn_129 11) (fun _ _ => rfl) (hP (-2) ⟨(fun _ => (fun i => rfl)), (fun q => absurd q (by omega)), (fun _ => (fun i => rfl)), (fun q => absurd q (by omega)), (fun _ => (fun i => rfl)), (fun q => absurd q (by omega)), (fun _ => (fun i => rfl)), (fun q => absurd q (by omega)), by omega⟩)
theorem ct_129_1_p {l : Launch} {D : va_G} {b0 : Nat} {ad : Nat → Nat} {Hb : Heap} {tau : Nat → Int64} {d n s : Nat} {S : Nat → xS} {Z : xZ} {h : mx_H} (hx : XH n s S Z h) (hG : GI n S Z)  {x0 x1 x2 : Int} (p0 : 4 ≤ x0 ∧ x0 ≤ 2147483647) (p1 : (-2147483648) ≤ x1 ∧ x1 ≤ 2147483647) (p2 : (-9223372036854775808) ≤ x2 ∧ x2 ≤ 9223372036854775807) : ∃ z : Int, mx_Ca (tB l D b0 ad Hb tau) (d + 2) 129 [.ref 1, xI x0, xI x1, xL x2] h (some (xL z), h) ∧ (((¬ x0 = 0 ∨ (Z 44 3 = 1 ∨ x1 < 0 ∨ Z 44 2 ≤ x1)) → ∀ i, Z 45 i = Z 45 i) ∧ (x0 = 0 → ¬ (Z 44 3 = 1 ∨ x1 < 0 ∨ Z 44 2 ≤ x1) → (∀ i, ¬ i = x1 → Z 45 i = Z 45 i) ∧ Z 45 x1 = z) ∧ ((¬ x0 = 1 ∨ (Z 46 3 = 1 ∨ x1 < 0 ∨ Z 46 2 ≤ x1)) → ∀ i, Z 47 i = Z 47 i) ∧ (x0 = 1 → ¬ (Z 46 3 = 1 ∨ x1 < 0 ∨ Z 46 2 ≤ x1) → (∀ i, ¬ i = x1 → Z 47 i = Z 47 i) ∧ Z 47 x1 = z) ∧ ((¬ x0 = 2 ∨ (Z 48 3 = 1 ∨ x1 < 0 ∨ Z 48 2 ≤ x1)) → ∀ i, Z 49 i = Z 49 i) ∧ (x0 = 2 → ¬ (Z 48 3 = 1 ∨ x1 < 0 ∨ Z 48 2 ≤ x1) → (∀ i, ¬ i = x1 → Z 49 i = Z 49 i) ∧ Z 49 x1 = z) ∧ ((¬ x0 = 3 ∨ (Z 50 3 = 1 ∨ x1 < 0 ∨ Z 50 2 ≤ x1)) → ∀ i, Z 51 i = Z 51 i) ∧ (x0 = 3 → ¬ (Z 50 3 = 1 ∨ x1 < 0 ∨ Z 50 2 ≤ x1) → (∀ i, ¬ i = x1 → Z 51 i = Z 51 i) ∧ Z 51 x1 = z) ∧ (-2) ≤ z ∧ z ≤ (-2) ∧ (((x0 < 0 ∨ 3 < x0) → z = -2) ∧ (x0 = 0 → (Z 44 3 = 1 → z = -6) ∧ (Z 44 3 = 0 → ((x1 < 0 ∨ Z 44 2 ≤ x1) → z = -7) ∧ (¬ (x1 < 0 ∨ Z 44 2 ≤ x1) → ((Z 44 1 = 0 → -128 ≤ z ∧ z ≤ 127 ∧ (z - x2) % 256 = 0) ∧ (Z 44 1 = 1 → -32768 ≤ z ∧ z ≤ 32767 ∧ (z - x2) % 65536 = 0) ∧ (Z 44 1 = 2 → -2147483648 ≤ z ∧ z ≤ 2147483647 ∧ (z - x2) % 4294967296 = 0) ∧ (¬ Z 44 1 = 0 → ¬ Z 44 1 = 1 → ¬ Z 44 1 = 2 → z = x2))))) ∧ (x0 = 1 → (Z 46 3 = 1 → z = -6) ∧ (Z 46 3 = 0 → ((x1 < 0 ∨ Z 46 2 ≤ x1) → z = -7) ∧ (¬ (x1 < 0 ∨ Z 46 2 ≤ x1) → ((Z 46 1 = 0 → -128 ≤ z ∧ z ≤ 127 ∧ (z - x2) % 256 = 0) ∧ (Z 46 1 = 1 → -32768 ≤ z ∧ z ≤ 32767 ∧ (z - x2) % 65536 = 0) ∧ (Z 46 1 = 2 → -2147483648 ≤ z ∧ z ≤ 2147483647 ∧ (z - x2) % 4294967296 = 0) ∧ (¬ Z 46 1 = 0 → ¬ Z 46 1 = 1 → ¬ Z 46 1 = 2 → z = x2))))) ∧ (x0 = 2 → (Z 48 3 = 1 → z = -6) ∧ (Z 48 3 = 0 → ((x1 < 0 ∨ Z 48 2 ≤ x1) → z = -7) ∧ (¬ (x1 < 0 ∨ Z 48 2 ≤ x1) → ((Z 48 1 = 0 → -128 ≤ z ∧ z ≤ 127 ∧ (z - x2) % 256 = 0) ∧ (Z 48 1 = 1 → -32768 ≤ z ∧ z ≤ 32767 ∧ (z - x2) % 65536 = 0) ∧ (Z 48 1 = 2 → -2147483648 ≤ z ∧ z ≤ 2147483647 ∧ (z - x2) % 4294967296 = 0) ∧ (¬ Z 48 1 = 0 → ¬ Z 48 1 = 1 → ¬ Z 48 1 = 2 → z = x2))))) ∧ (x0 = 3 → (Z 50 3 = 1 → z = -6) ∧ (Z 50 3 = 0 → ((x1 < 0 ∨ Z 50 2 ≤ x1) → z = -7) ∧ (¬ (x1 < 0 ∨ Z 50 2 ≤ x1) → ((Z 50 1 = 0 → -128 ≤ z ∧ z ≤ 127 ∧ (z - x2) % 256 = 0) ∧ (Z 50 1 = 1 → -32768 ≤ z ∧ z ≤ 32767 ∧ (z - x2) % 65536 = 0) ∧ (Z 50 1 = 2 → -2147483648 ≤ z ∧ z ≤ 2147483647 ∧ (z - x2) % 4294967296 = 0) ∧ (¬ Z 50 1 = 0 → ¬ Z 50 1 = 1 → ¬ Z 50 1 = 2 → z = x2))))))) := by
  obtain ⟨r, hca, z, e, hp⟩ := Jmt (B := tB l D b0 ad Hb tau) (M := mt_129) (mi := 129) (as := [.ref 1, xI x0, xI x1, xL x2]) (d := d + 1) (ls := [some (.ref 1), some (xI x0), some (xI x1), some (xL x2), none]) rfl rfl rfl rfl rfl rfl (cw_129_1_p (l := l) (D := D) (b0 := b0) (ad := ad) (Hb := Hb) (tau := tau) (d := d) (Post := fun r => ∃ z : Int, r = (some (xL z), h) ∧ (((¬ x0 = 0 ∨ (Z 44 3 = 1 ∨ x1 < 0 ∨ Z 44 2 ≤ x1)) → ∀ i, Z 45 i = Z 45 i) ∧ (x0 = 0 → ¬ (Z 44 3 = 1 ∨ x1 < 0 ∨ Z 44 2 ≤ x1) → (∀ i, ¬ i = x1 → Z 45 i = Z 45 i) ∧ Z 45 x1 = z) ∧ ((¬ x0 = 1 ∨ (Z 46 3 = 1 ∨ x1 < 0 ∨ Z 46 2 ≤ x1)) → ∀ i, Z 47 i = Z 47 i) ∧ (x0 = 1 → ¬ (Z 46 3 = 1 ∨ x1 < 0 ∨ Z 46 2 ≤ x1) → (∀ i, ¬ i = x1 → Z 47 i = Z 47 i) ∧ Z 47 x1 = z) ∧ ((¬ x0 = 2 ∨ (Z 48 3 = 1 ∨ x1 < 0 ∨ Z 48 2 ≤ x1)) → ∀ i, Z 49 i = Z 49 i) ∧ (x0 = 2 → ¬ (Z 48 3 = 1 ∨ x1 < 0 ∨ Z 48 2 ≤ x1) → (∀ i, ¬ i = x1 → Z 49 i = Z 49 i) ∧ Z 49 x1 = z) ∧ ((¬ x0 = 3 ∨ (Z 50 3 = 1 ∨ x1 < 0 ∨ Z 50 2 ≤ x1)) → ∀ i, Z 51 i = Z 51 i) ∧ (x0 = 3 → ¬ (Z 50 3 = 1 ∨ x1 < 0 ∨ Z 50 2 ≤ x1) → (∀ i, ¬ i = x1 → Z 51 i = Z 51 i) ∧ Z 51 x1 = z) ∧ (-2) ≤ z ∧ z ≤ (-2) ∧ (((x0 < 0 ∨ 3 < x0) → z = -2) ∧ (x0 = 0 → (Z 44 3 = 1 → z = -6) ∧ (Z 44 3 = 0 → ((x1 < 0 ∨ Z 44 2 ≤ x1) → z = -7) ∧ (¬ (x1 < 0 ∨ Z 44 2 ≤ x1) → ((Z 44 1 = 0 → -128 ≤ z ∧ z ≤ 127 ∧ (z - x2) % 256 = 0) ∧ (Z 44 1 = 1 → -32768 ≤ z ∧ z ≤ 32767 ∧ (z - x2) % 65536 = 0) ∧ (Z 44 1 = 2 → -2147483648 ≤ z ∧ z ≤ 2147483647 ∧ (z - x2) % 4294967296 = 0) ∧ (¬ Z 44 1 = 0 → ¬ Z 44 1 = 1 → ¬ Z 44 1 = 2 → z = x2))))) ∧ (x0 = 1 → (Z 46 3 = 1 → z = -6) ∧ (Z 46 3 = 0 → ((x1 < 0 ∨ Z 46 2 ≤ x1) → z = -7) ∧ (¬ (x1 < 0 ∨ Z 46 2 ≤ x1) → ((Z 46 1 = 0 → -128 ≤ z ∧ z ≤ 127 ∧ (z - x2) % 256 = 0) ∧ (Z 46 1 = 1 → -32768 ≤ z ∧ z ≤ 32767 ∧ (z - x2) % 65536 = 0) ∧ (Z 46 1 = 2 → -2147483648 ≤ z ∧ z ≤ 2147483647 ∧ (z - x2) % 4294967296 = 0) ∧ (¬ Z 46 1 = 0 → ¬ Z 46 1 = 1 → ¬ Z 46 1 = 2 → z = x2))))) ∧ (x0 = 2 → (Z 48 3 = 1 → z = -6) ∧ (Z 48 3 = 0 → ((x1 < 0 ∨ Z 48 2 ≤ x1) → z = -7) ∧ (¬ (x1 < 0 ∨ Z 48 2 ≤ x1) → ((Z 48 1 = 0 → -128 ≤ z ∧ z ≤ 127 ∧ (z - x2) % 256 = 0) ∧ (Z 48 1 = 1 → -32768 ≤ z ∧ z ≤ 32767 ∧ (z - x2) % 65536 = 0) ∧ (Z 48 1 = 2 → -2147483648 ≤ z ∧ z ≤ 2147483647 ∧ (z - x2) % 4294967296 = 0) ∧ (¬ Z 48 1 = 0 → ¬ Z 48 1 = 1 → ¬ Z 48 1 = 2 → z = x2))))) ∧ (x0 = 3 → (Z 50 3 = 1 → z = -6) ∧ (Z 50 3 = 0 → ((x1 < 0 ∨ Z 50 2 ≤ x1) → z = -7) ∧ (¬ (x1 < 0 ∨ Z 50 2 ≤ x1) → ((Z 50 1 = 0 → -128 ≤ z ∧ z ≤ 127 ∧ (z - x2) % 256 = 0) ∧ (Z 50 1 = 1 → -32768 ≤ z ∧ z ≤ 32767 ∧ (z - x2) % 65536 = 0) ∧ (Z 50 1 = 2 → -2147483648 ≤ z ∧ z ≤ 2147483647 ∧ (z - x2) % 4294967296 = 0) ∧ (¬ Z 50 1 = 0 → ¬ Z 50 1 = 1 → ¬ Z 50 1 = 2 → z = x2)))))))) hx hG p0 p1 p2 (fun z hz => ⟨z, rfl, hz⟩))
  subst e; exact ⟨z, hca, hp⟩
theorem ct_129_1 {l : Launch} {D : va_G} {b0 : Nat} {ad : Nat → Nat} {Hb : Heap} {tau : Nat → Int64} {d n s : Nat} {S : Nat → xS} {Z : xZ} {h : mx_H} (hx : XH n s S Z h) (hG : GI n S Z) {x0 x1 x2 : Int} (p0 : (-2147483648) ≤ x0 ∧ x0 ≤ 2147483647) (p1 : (-2147483648) ≤ x1 ∧ x1 ≤ 2147483647) (p2 : (-9223372036854775808) ≤ x2 ∧ x2 ≤ 9223372036854775807) : ∃ (z : Int) (Z' : xZ) (h' : mx_H), mx_Ca (tB l D b0 ad Hb tau) (d + 2) 129 [.ref 1, xI x0, xI x1, xL x2] h (some (xL z), h') ∧ XH n s S Z' h' ∧ GI n S Z' ∧ fr' [(45, (-1)), (47, (-1)), (49, (-1)), (51, (-1))] Z Z' ∧ (((¬ x0 = 0 ∨ (Z 44 3 = 1 ∨ x1 < 0 ∨ Z 44 2 ≤ x1)) → ∀ i, Z' 45 i = Z 45 i) ∧ (x0 = 0 → ¬ (Z 44 3 = 1 ∨ x1 < 0 ∨ Z 44 2 ≤ x1) → (∀ i, ¬ i = x1 → Z' 45 i = Z 45 i) ∧ Z' 45 x1 = z) ∧ ((¬ x0 = 1 ∨ (Z 46 3 = 1 ∨ x1 < 0 ∨ Z 46 2 ≤ x1)) → ∀ i, Z' 47 i = Z 47 i) ∧ (x0 = 1 → ¬ (Z 46 3 = 1 ∨ x1 < 0 ∨ Z 46 2 ≤ x1) → (∀ i, ¬ i = x1 → Z' 47 i = Z 47 i) ∧ Z' 47 x1 = z) ∧ ((¬ x0 = 2 ∨ (Z 48 3 = 1 ∨ x1 < 0 ∨ Z 48 2 ≤ x1)) → ∀ i, Z' 49 i = Z 49 i) ∧ (x0 = 2 → ¬ (Z 48 3 = 1 ∨ x1 < 0 ∨ Z 48 2 ≤ x1) → (∀ i, ¬ i = x1 → Z' 49 i = Z 49 i) ∧ Z' 49 x1 = z) ∧ ((¬ x0 = 3 ∨ (Z 50 3 = 1 ∨ x1 < 0 ∨ Z 50 2 ≤ x1)) → ∀ i, Z' 51 i = Z 51 i) ∧ (x0 = 3 → ¬ (Z 50 3 = 1 ∨ x1 < 0 ∨ Z 50 2 ≤ x1) → (∀ i, ¬ i = x1 → Z' 51 i = Z 51 i) ∧ Z' 51 x1 = z) ∧ (-9223372036854775808) ≤ z ∧ z ≤ 9223372036854775807 ∧ (((x0 < 0 ∨ 3 < x0) → z = -2) ∧ (x0 = 0 → (Z 44 3 = 1 → z = -6) ∧ (Z 44 3 = 0 → ((x1 < 0 ∨ Z 44 2 ≤ x1) → z = -7) ∧ (¬ (x1 < 0 ∨ Z 44 2 ≤ x1) → ((Z 44 1 = 0 → -128 ≤ z ∧ z ≤ 127 ∧ (z - x2) % 256 = 0) ∧ (Z 44 1 = 1 → -32768 ≤ z ∧ z ≤ 32767 ∧ (z - x2) % 65536 = 0) ∧ (Z 44 1 = 2 → -2147483648 ≤ z ∧ z ≤ 2147483647 ∧ (z - x2) % 4294967296 = 0) ∧ (¬ Z 44 1 = 0 → ¬ Z 44 1 = 1 → ¬ Z 44 1 = 2 → z = x2))))) ∧ (x0 = 1 → (Z 46 3 = 1 → z = -6) ∧ (Z 46 3 = 0 → ((x1 < 0 ∨ Z 46 2 ≤ x1) → z = -7) ∧ (¬ (x1 < 0 ∨ Z 46 2 ≤ x1) → ((Z 46 1 = 0 → -128 ≤ z ∧ z ≤ 127 ∧ (z - x2) % 256 = 0) ∧ (Z 46 1 = 1 → -32768 ≤ z ∧ z ≤ 32767 ∧ (z - x2) % 65536 = 0) ∧ (Z 46 1 = 2 → -2147483648 ≤ z ∧ z ≤ 2147483647 ∧ (z - x2) % 4294967296 = 0) ∧ (¬ Z 46 1 = 0 → ¬ Z 46 1 = 1 → ¬ Z 46 1 = 2 → z = x2))))) ∧ (x0 = 2 → (Z 48 3 = 1 → z = -6) ∧ (Z 48 3 = 0 → ((x1 < 0 ∨ Z 48 2 ≤ x1) → z = -7) ∧ (¬ (x1 < 0 ∨ Z 48 2 ≤ x1) → ((Z 48 1 = 0 → -128 ≤ z ∧ z ≤ 127 ∧ (z - x2) % 256 = 0) ∧ (Z 48 1 = 1 → -32768 ≤ z ∧ z ≤ 32767 ∧ (z - x2) % 65536 = 0) ∧ (Z 48 1 = 2 → -2147483648 ≤ z ∧ z ≤ 2147483647 ∧ (z - x2) % 4294967296 = 0) ∧ (¬ Z 48 1 = 0 → ¬ Z 48 1 = 1 → ¬ Z 48 1 = 2 → z = x2))))) ∧ (x0 = 3 → (Z 50 3 = 1 → z = -6) ∧ (Z 50 3 = 0 → ((x1 < 0 ∨ Z 50 2 ≤ x1) → z = -7) ∧ (¬ (x1 < 0 ∨ Z 50 2 ≤ x1) → ((Z 50 1 = 0 → -128 ≤ z ∧ z ≤ 127 ∧ (z - x2) % 256 = 0) ∧ (Z 50 1 = 1 → -32768 ≤ z ∧ z ≤ 32767 ∧ (z - x2) % 65536 = 0) ∧ (Z 50 1 = 2 → -2147483648 ≤ z ∧ z ≤ 2147483647 ∧ (z - x2) % 4294967296 = 0) ∧ (¬ Z 50 1 = 0 → ¬ Z 50 1 = 1 → ¬ Z 50 1 = 2 → z = x2))))))) := by
  have hc : x0 = 0 ∨ x0 = 1 ∨ x0 = 2 ∨ x0 = 3 ∨ ((-2147483648) ≤ x0 ∧ x0 ≤ (-1)) ∨ (4 ≤ x0 ∧ x0 ≤ 2147483647) := by omega
  rcases hc with hc | hc | hc | hc | hc | hc
  · subst hc
    obtain ⟨z, Z', h', hca, q1, q2, q3, b⟩ := ct_129_1_i0 (d := d + 0) (l := l) (D := D) (b0 := b0) (ad := ad) (Hb := Hb) (tau := tau) hx hG p1 p2
    exact ⟨z, Z', h', hca, q1, q2, fr_tr (M1 := []) fr_rf q3 rfl rfl, ⟨b.1, b.2.1, b.2.2.1, b.2.2.2.1, b.2.2.2.2.1, b.2.2.2.2.2.1, b.2.2.2.2.2.2.1, b.2.2.2.2.2.2.2.1, Int.le_trans (by decide) b.2.2.2.2.2.2.2.2.1, Int.le_trans b.2.2.2.2.2.2.2.2.2.1 (by decide), b.2.2.2.2.2.2.2.2.2.2⟩⟩
  · subst hc
    obtain ⟨z, Z', h', hca, q1, q2, q3, b⟩ := ct_129_1_i1 (d := d + 0) (l := l) (D := D) (b0 := b0) (ad := ad) (Hb := Hb) (tau := tau) hx hG p1 p2
    exact ⟨z, Z', h', hca, q1, q2, fr_tr (M1 := []) fr_rf q3 rfl rfl, ⟨b.1, b.2.1, b.2.2.1, b.2.2.2.1, b.2.2.2.2.1, b.2.2.2.2.2.1, b.2.2.2.2.2.2.1, b.2.2.2.2.2.2.2.1, Int.le_trans (by decide) b.2.2.2.2.2.2.2.2.1, Int.le_trans b.2.2.2.2.2.2.2.2.2.1 (by decide), b.2.2.2.2.2.2.2.2.2.2⟩⟩
  · subst hc
    obtain ⟨z, Z', h', hca, q1, q2, q3, b⟩ := ct_129_1_i2 (d := d + 0) (l := l) (D := D) (b0 := b0) (ad := ad) (Hb := Hb) (tau := tau) hx hG p1 p2
    exact ⟨z, Z', h', hca, q1, q2, fr_tr (M1 := []) fr_rf q3 rfl rfl, ⟨b.1, b.2.1, b.2.2.1, b.2.2.2.1, b.2.2.2.2.1, b.2.2.2.2.2.1, b.2.2.2.2.2.2.1, b.2.2.2.2.2.2.2.1, Int.le_trans (by decide) b.2.2.2.2.2.2.2.2.1, Int.le_trans b.2.2.2.2.2.2.2.2.2.1 (by decide), b.2.2.2.2.2.2.2.2.2.2⟩⟩
  · subst hc
    obtain ⟨z, Z', h', hca, q1, q2, q3, b⟩ := ct_129_1_i3 (d := d + 0) (l := l) (D := D) (b0 := b0) (ad := ad) (Hb := Hb) (tau := tau) hx hG p1 p2
    exact ⟨z, Z', h', hca, q1, q2, fr_tr (M1 := []) fr_rf q3 rfl rfl, ⟨b.1, b.2.1, b.2.2.1, b.2.2.2.1, b.2.2.2.2.1, b.2.2.2.2.2.1, b.2.2.2.2.2.2.1, b.2.2.2.2.2.2.2.1, Int.le_trans (by decide) b.2.2.2.2.2.2.2.2.1, Int.le_trans b.2.2.2.2.2.2.2.2.2.1 (by decide), b.2.2.2.2.2.2.2.2.2.2⟩⟩
  · skip
    obtain ⟨z, hca, b⟩ := ct_129_1_n (d := d + 0) (l := l) (D := D) (b0 := b0) (ad := ad) (Hb := Hb) (tau := tau) hx hG hc p1 p2
    exact ⟨z, Z, h, hca, hx, hG, fr_rf, ⟨b.1, b.2.1, b.2.2.1, b.2.2.2.1, b.2.2.2.2.1, b.2.2.2.2.2.1, b.2.2.2.2.2.2.1, b.2.2.2.2.2.2.2.1, Int.le_trans (by decide) b.2.2.2.2.2.2.2.2.1, Int.le_trans b.2.2.2.2.2.2.2.2.2.1 (by decide), b.2.2.2.2.2.2.2.2.2.2⟩⟩
  · skip
    obtain ⟨z, hca, b⟩ := ct_129_1_p (d := d + 0) (l := l) (D := D) (b0 := b0) (ad := ad) (Hb := Hb) (tau := tau) hx hG hc p1 p2
    exact ⟨z, Z, h, hca, hx, hG, fr_rf, ⟨b.1, b.2.1, b.2.2.1, b.2.2.2.1, b.2.2.2.2.1, b.2.2.2.2.2.1, b.2.2.2.2.2.2.1, b.2.2.2.2.2.2.2.1, Int.le_trans (by decide) b.2.2.2.2.2.2.2.2.1, Int.le_trans b.2.2.2.2.2.2.2.2.2.1 (by decide), b.2.2.2.2.2.2.2.2.2.2⟩⟩
set_option maxRecDepth 100000 in
theorem cw_130_1_i0 {l : Launch} {D : va_G} {b0 : Nat} {ad : Nat → Nat} {Hb : Heap} {tau : Nat → Int64} {d n s : Nat} {S : Nat → xS} {Z : xZ} {h : mx_H} {Post : mx_R → Prop} (hx : XH n s S Z h) (hG : GI n S Z)  {x1 : Int} (p1 : (-2147483648) ≤ x1 ∧ x1 ≤ 2147483647) (k0 : CTB Z (Z 7 4)) (k1 : 1 ≤ Z 7 4) (hP : ∀ (z : Int) (Z' : xZ) (h' : mx_H), XH n s S Z' h' → GI n S Z' → fr' [(45, (-1))] Z Z' → ((¬ (0 : Int) = 0 ∨ z < 0) → ∀ i, Z' 45 i = Z 45 i) ∧ ((0 : Int) = 0 → 0 ≤ z → LI (hpk (Z 7 4) x1) (Z 45) (Z' 45) z) ∧ ((¬ (0 : Int) = 1 ∨ z < 0) → ∀ i, Z' 47 i = Z 47 i) ∧ ((0 : Int) = 1 → 0 ≤ z → LI (hpk (Z 7 4) x1) (Z 47) (Z' 47) z) ∧ ((¬ (0 : Int) = 2 ∨ z < 0) → ∀ i, Z' 49 i = Z 49 i) ∧ ((0 : Int) = 2 → 0 ≤ z → LI (hpk (Z 7 4) x1) (Z 49) (Z' 49) z) ∧ ((¬ (0 : Int) = 3 ∨ z < 0) → ∀ i, Z' 51 i = Z 51 i) ∧ ((0 : Int) = 3 → 0 ≤ z → LI (hpk (Z 7 4) x1) (Z 51) (Z' 51) z) ∧ (-6) ≤ z ∧ z ≤ 18 ∧ ((((0 : Int) < 0 ∨ 3 < (0 : Int)) → z = -2) ∧ ((0 : Int) = 0 → ((Z 44 3 = 1 → z = -6) ∧ (Z 44 3 = 0 → ((x1 < 0 ∨ Z 7 5 ≤ x1) → z = -3) ∧ (¬ (x1 < 0 ∨ Z 7 5 ≤ x1) → ((Z 10 x1 ≤ Z 44 2 → z = Z 10 x1) ∧ (Z 44 2 < Z 10 x1 → z = Z 44 2)))))) ∧ ((0 : Int) = 1 → ((Z 46 3 = 1 → z = -6) ∧ (Z 46 3 = 0 → ((x1 < 0 ∨ Z 7 5 ≤ x1) → z = -3) ∧ (¬ (x1 < 0 ∨ Z 7 5 ≤ x1) → ((Z 10 x1 ≤ Z 46 2 → z = Z 10 x1) ∧ (Z 46 2 < Z 10 x1 → z = Z 46 2)))))) ∧ ((0 : Int) = 2 → ((Z 48 3 = 1 → z = -6) ∧ (Z 48 3 = 0 → ((x1 < 0 ∨ Z 7 5 ≤ x1) → z = -3) ∧ (¬ (x1 < 0 ∨ Z 7 5 ≤ x1) → ((Z 10 x1 ≤ Z 48 2 → z = Z 10 x1) ∧ (Z 48 2 < Z 10 x1 → z = Z 48 2)))))) ∧ ((0 : Int) = 3 → ((Z 50 3 = 1 → z = -6) ∧ (Z 50 3 = 0 → ((x1 < 0 ∨ Z 7 5 ≤ x1) → z = -3) ∧ (¬ (x1 < 0 ∨ Z 7 5 ≤ x1) → ((Z 10 x1 ≤ Z 50 2 → z = Z 10 x1) ∧ (Z 50 2 < Z 10 x1 → z = Z 50 2))))))) → Post (some (xI z), h')) : mx_J (tB l D b0 ad Hb tau) mt_130 (d + 2) 0 [some (.ref 1), some (xI 0), some (xI x1), none, none] [] h Post := by
    have a1 : 1 < n := lt83 (GI_n hG) rfl
    have s1 : S 1 = .inl (11, [2, 0, 0, 0, 2, 2, 2, 2, 2, 2, 2, 2, 2, 2, 2, 2, 2]) := GI_s hG 1 rfl
    have a7 : 7 < n := lt83 (GI_n hG) rfl
    have s7 : S 7 = .inl (0, [2, 2, 2, 2, 0, 0]) := GI_s hG 7 rfl
    have a34 : 34 < n := lt83 (GI_n hG) rfl
    have s34 : S 34 = .inr ((.object "TitheHeap$Tray"), 4, 2) := GI_s hG 34 rfl
    have a44 : 44 < n := lt83 (GI_n hG) rfl
    have s44 : S 44 = .inl (10, [2, 0, 0, 0]) := GI_s hG 44 rfl
    refine mx_J.step (sn_130 0) (fun _ _ => rfl) ?_
    refine mx_J.step (sn_130 1) (fun _ _ => rfl) ?_
    obtain ⟨z1, hc1, b1⟩ := ct_144_1_y (d := d + 1) (l := l) (D := D) (b0 := b0) (ad := ad) (Hb := Hb) (tau := tau) hx hG (show 0 ≤ 0 ∧ 0 ≤ 3 by omega)
    refine Jcv hx (show mx_Sn _ _ 2 (mx_callv 144 2 11 5) from sn_130 2) a1 s1 hc1 rfl rfl rfl ?_
    refine Jif_eq (show mx_Sn _ _ 5 (mx_if_eq 11 8) from sn_130 5) (by omega) (fun q2 => ?_) (fun q2 => ?_)
    · skip
      refine mx_J.step (sn_130 11) (fun _ _ => rfl) ?_
      refine JgetR (g := 10) (b := 34) hx (show mx_Sn _ _ 12 (mx_getf 11 10 15) from sn_130 12) a1 s1 rfl rfl (hG.prr 1 10 rfl) ?_
      refine mx_J.step (sn_130 15) (fun _ _ => rfl) ?_
      refine JaaldR (i := 0) (b := 44) hx (show mx_Sn _ _ 16 (mx_aald 17) from sn_130 16) a34 s34 (by omega) (show Z 34 0 = 44 by have hq := GI_ex hG 34 0; replace hq : ((0 : Int) ≤ 0 → (0 : Int) ≤ 3 → (Z 34 0) = 44 + 2 * 0) := hq; omega) ?_
      have b5 : 0 ≤ Z 44 3 ∧ Z 44 3 ≤ 1 := hG.pr 44 3
      refine JgetI (g := 3) (z := Z 44 3) hx (show mx_Sn _ _ 17 (mx_getf 10 3 20) from sn_130 17) a44 s44 rfl rfl rfl ?_
      refine Jif_eq (show mx_Sn _ _ 20 (mx_if_eq 26 23) from sn_130 20) (by omega) (fun q6 => ?_) (fun q6 => ?_)
      · skip
        refine mx_J.step (sn_130 26) (fun _ _ => rfl) ?_
        have c41 : (x1 < 0 ∨ Z 7 5 ≤ x1) → mx_J (tB l D b0 ad Hb tau) mt_130 (d + 2) 41 [some (.ref 1), some (xI 0), some (xI x1), none, none] [] h Post := by
          intro f7_0
          refine JcI (z := (-3)) (show mx_Sn _ _ 41 (mx_const (.int (-3)) 43) from sn_130 41) rfl ?_
          have b8 : 0 ≤ Z 7 5 ∧ Z 7 5 ≤ 385 := hG.pr 7 5
          have b9 : 0 ≤ Z 10 x1 ∧ Z 10 x1 ≤ 18 := hG.pr 10 x1
          have b10 : 0 ≤ Z 44 2 ∧ Z 44 2 ≤ 40 := hG.pr 44 2
          have b11 : 0 ≤ Z 46 2 ∧ Z 46 2 ≤ 40 := hG.pr 46 2
          have b12 : 0 ≤ Z 46 3 ∧ Z 46 3 ≤ 1 := hG.pr 46 3
          have b13 : 0 ≤ Z 48 2 ∧ Z 48 2 ≤ 40 := hG.pr 48 2
          have b14 : 0 ≤ Z 48 3 ∧ Z 48 3 ≤ 1 := hG.pr 48 3
          have b15 : 0 ≤ Z 50 2 ∧ Z 50 2 ≤ 40 := hG.pr 50 2
          have b16 : 0 ≤ Z 50 3 ∧ Z 50 3 ≤ 1 := hG.pr 50 3
          exact mx_J.ret (sn_130 43) (fun _ _ => rfl) (hP (-3) Z h hx hG fr_rf ⟨(fun _ => (fun i => rfl)), (fun _ q => absurd q (by decide)), (fun _ => (fun i => rfl)), (fun _ q => absurd q (by decide)), (fun _ => (fun i => rfl)), (fun _ q => absurd q (by decide)), (fun _ => (fun i => rfl)), (fun _ q => absurd q (by decide)), by omega⟩)
        refine Jif_lt (show mx_Sn _ _ 27 (mx_if_lt 41 30) from sn_130 27) (by omega) (fun q17 => ?_) (fun q17 => ?_)
        · skip
          exact c41 (by omega)
        · skip
          refine mx_J.step (sn_130 30) (fun _ _ => rfl) ?_
          refine mx_J.step (sn_130 31) (fun _ _ => rfl) ?_
          refine JgetR (g := 5) (b := 7) hx (show mx_Sn _ _ 32 (mx_getf 11 5 35) from sn_130 32) a1 s1 rfl rfl (hG.prr 1 5 rfl) ?_
          have b20 : 0 ≤ Z 7 5 ∧ Z 7 5 ≤ 385 := hG.pr 7 5
          refine JgetI (g := 5) (z := Z 7 5) hx (show mx_Sn _ _ 35 (mx_getf 0 5 38) from sn_130 35) a7 s7 rfl rfl rfl ?_
          refine Jicmp_lt (show mx_Sn _ _ 38 (mx_icmp_lt 44 41) from sn_130 38) (by omega) (by omega) (fun q21 => ?_) (fun q21 => ?_)
          · skip
            refine mx_J.step (sn_130 44) (fun _ _ => rfl) ?_
            refine JgetR (g := 5) (b := 7) hx (show mx_Sn _ _ 45 (mx_getf 11 5 48) from sn_130 45) a1 s1 rfl rfl (hG.prr 1 5 rfl) ?_
            refine mx_J.step (sn_130 48) (fun _ _ => rfl) ?_
            have b24 : 0 ≤ Z 10 x1 ∧ Z 10 x1 ≤ 18 := hG.pr 10 x1
            obtain ⟨z23, hc23, b23⟩ := ct_5_7 (d := d + 1) (l := l) (D := D) (b0 := b0) (ad := ad) (Hb := Hb) (tau := tau) hx hG (show (-2147483648) ≤ x1 ∧ x1 ≤ 2147483647 by omega)
            refine Jcv hx (show mx_Sn _ _ 49 (mx_callv 5 2 0 52) from sn_130 49) a7 s7 hc23 rfl rfl rfl ?_
            refine mx_J.step (sn_130 52) (fun _ _ => rfl) ?_
            refine JgetR (g := 10) (b := 34) hx (show mx_Sn _ _ 53 (mx_getf 11 10 56) from sn_130 53) a1 s1 rfl rfl (hG.prr 1 10 rfl) ?_
            refine mx_J.step (sn_130 56) (fun _ _ => rfl) ?_
            refine JaaldR (i := 0) (b := 44) hx (show mx_Sn _ _ 57 (mx_aald 58) from sn_130 57) a34 s34 (by omega) (show Z 34 0 = 44 by have hq := GI_ex hG 34 0; replace hq : ((0 : Int) ≤ 0 → (0 : Int) ≤ 3 → (Z 34 0) = 44 + 2 * 0) := hq; omega) ?_
            have b27 : 0 ≤ Z 44 2 ∧ Z 44 2 ≤ 40 := hG.pr 44 2
            refine JgetI (g := 2) (z := Z 44 2) hx (show mx_Sn _ _ 58 (mx_getf 10 2 61) from sn_130 58) a44 s44 rfl rfl rfl ?_
            refine Jmmin (show mx_Sn _ _ 61 (mx_mmin 64) from sn_130 61) (by omega) (by omega) ⟨_, rfl⟩ rfl (fun y28 hy28 => ?_)
            refine mx_J.step (ls2 := [some (.ref 1), some (xI 0), some (xI x1), some (xI y28), none]) (sn_130 64) (fun _ _ => rfl) ?_
            refine JcI (z := 0) (show mx_Sn _ _ 65 (mx_const (.int 0) 66) from sn_130 65) rfl ?_
            refine mx_J.step (ls2 := [some (.ref 1), some (xI 0), some (xI x1), some (xI y28), some (xI 0)]) (sn_130 66) (fun _ _ => rfl) ?_
            have c68 : ∀ (m29 : Nat) (w29_4 : Int) (Z30 : xZ) (h30 : mx_H), 18 - w29_4 < (m29 : Int) → 0 ≤ w29_4 ∧ w29_4 ≤ 18 → w29_4 ≤ y28 → LI (hpk (Z 7 4) x1) (Z 45) (Z30 45) w29_4 → XH n s S Z30 h30 → GI n S Z30 → fr' [(45, (-1))] Z Z30 → mx_J (tB l D b0 ad Hb tau) mt_130 (d + 2) 68 [some (.ref 1), some (xI 0), some (xI x1), some (xI y28), some (xI w29_4)] [] h30 Post := by
              intro m29
              induction m29 with
              | zero => intro w29_4 Z30 h30 q29 f29_0 f29_1 f29_2 hx30 hG30 hf30; exact absurd q29 (by omega)
              | succ m29 ih29 =>
                intro w29_4 Z30 h30 q29 f29_0 f29_1 f29_2 hx30 hG30 hf30
                refine mx_J.step (sn_130 68) (fun _ _ => rfl) ?_
                refine mx_J.step (sn_130 70) (fun _ _ => rfl) ?_
                refine Jicmp_ge (show mx_Sn _ _ 71 (mx_icmp_ge 102 74) from sn_130 71) (by omega) (by omega) (fun q31 => ?_) (fun q31 => ?_)
                · skip
                  refine mx_J.step (sn_130 102) (fun _ _ => rfl) ?_
                  have eq32 : Z30 7 5 = Z 7 5 := (hf30 7 5 rfl)
                  have eq33 : Z30 10 x1 = Z 10 x1 := (hf30 10 x1 rfl)
                  have eq34 : Z30 44 2 = Z 44 2 := (hf30 44 2 rfl)
                  have eq35 : Z30 44 3 = Z 44 3 := (hf30 44 3 rfl)
                  have eq36 : Z30 46 2 = Z 46 2 := (hf30 46 2 rfl)
                  have b37 : 0 ≤ Z 46 2 ∧ Z 46 2 ≤ 40 := hG.pr 46 2
                  have eq38 : Z30 46 3 = Z 46 3 := (hf30 46 3 rfl)
                  have b39 : 0 ≤ Z 46 3 ∧ Z 46 3 ≤ 1 := hG.pr 46 3
                  have eq40 : Z30 48 2 = Z 48 2 := (hf30 48 2 rfl)
                  have b41 : 0 ≤ Z 48 2 ∧ Z 48 2 ≤ 40 := hG.pr 48 2
                  have eq42 : Z30 48 3 = Z 48 3 := (hf30 48 3 rfl)
                  have b43 : 0 ≤ Z 48 3 ∧ Z 48 3 ≤ 1 := hG.pr 48 3
                  have eq44 : Z30 50 2 = Z 50 2 := (hf30 50 2 rfl)
                  have b45 : 0 ≤ Z 50 2 ∧ Z 50 2 ≤ 40 := hG.pr 50 2
                  have eq46 : Z30 50 3 = Z 50 3 := (hf30 50 3 rfl)
                  have b47 : 0 ≤ Z 50 3 ∧ Z 50 3 ≤ 1 := hG.pr 50 3
                  exact mx_J.ret (sn_130 103) (fun _ _ => rfl) (hP y28 Z30 h30 hx30 hG30 (fr_tr (M := [(45, (-1))]) fr_rf (hf30) (M1 := []) rfl rfl) ⟨(fun q => absurd q (by omega)), (fun _ _ => (show w29_4 = y28 by omega) ▸ (by assumption : LI (hpk (Z 7 4) x1) (Z 45) (Z30 45) w29_4)), (fun _ => (fun i => (hf30 47 i rfl))), (fun q => absurd q (by decide)), (fun _ => (fun i => (hf30 49 i rfl))), (fun q => absurd q (by decide)), (fun _ => (fun i => (hf30 51 i rfl))), (fun q => absurd q (by decide)), by omega⟩)
                · skip
                  refine mx_J.step (sn_130 74) (fun _ _ => rfl) ?_
                  refine JgetR (g := 10) (b := 34) hx30 (show mx_Sn _ _ 75 (mx_getf 11 10 78) from sn_130 75) a1 s1 rfl rfl (hG30.prr 1 10 rfl) ?_
                  refine mx_J.step (sn_130 78) (fun _ _ => rfl) ?_
                  refine JaaldR (i := 0) (b := 44) hx30 (show mx_Sn _ _ 79 (mx_aald 80) from sn_130 79) a34 s34 (by omega) (show Z30 34 0 = 44 by have hq := GI_ex hG30 34 0; replace hq : ((0 : Int) ≤ 0 → (0 : Int) ≤ 3 → (Z30 34 0) = 44 + 2 * 0) := hq; omega) ?_
                  refine mx_J.step (sn_130 80) (fun _ _ => rfl) ?_
                  refine mx_J.step (sn_130 82) (fun _ _ => rfl) ?_
                  refine JgetR (g := 5) (b := 7) hx30 (show mx_Sn _ _ 83 (mx_getf 11 5 86) from sn_130 83) a1 s1 rfl rfl (hG30.prr 1 5 rfl) ?_
                  refine mx_J.step (sn_130 86) (fun _ _ => rfl) ?_
                  refine mx_J.step (sn_130 87) (fun _ _ => rfl) ?_
                  have eq51 : Z30 9 (x1 * 18 + w29_4) = Z 9 (x1 * 18 + w29_4) := (hf30 9 (x1 * 18 + w29_4) rfl)
                  have b52 : 0 ≤ Z 9 (x1 * 18 + w29_4) ∧ Z 9 (x1 * 18 + w29_4) ≤ 18 := hG.pr 9 (x1 * 18 + w29_4)
                  have eq53 : Z30 10 x1 = Z 10 x1 := (hf30 10 x1 rfl)
                  have eq54 : Z30 7 5 = Z 7 5 := (hf30 7 5 rfl)
                  obtain ⟨z50, hc50, b50⟩ := ct_6_7 (d := d + 0) (l := l) (D := D) (b0 := b0) (ad := ad) (Hb := Hb) (tau := tau) hx30 hG30 (show (-2147483648) ≤ x1 ∧ x1 ≤ 2147483647 by omega) (show (-2147483648) ≤ w29_4 ∧ w29_4 ≤ 2147483647 by omega)
                  try rw [eq51] at b50
                  try rw [eq53] at b50
                  try rw [eq54] at b50
                  refine Jcv hx30 (show mx_Sn _ _ 89 (mx_callv 6 3 0 92) from sn_130 89) a7 s7 hc50 rfl rfl rfl ?_
                  refine Ji2l (show mx_Sn _ _ 92 (mx_i2l 93) from sn_130 92) (by omega) ?_
                  have eq56 : Z30 44 1 = Z 44 1 := (hf30 44 1 rfl)
                  have b57 : 0 ≤ Z 44 1 ∧ Z 44 1 ≤ 3 := hG.pr 44 1
                  obtain ⟨Z55, h55, hc55, hx55, hG55, hf55, b55⟩ := ct_84_44 (d := d + 1) (l := l) (D := D) (b0 := b0) (ad := ad) (Hb := Hb) (tau := tau) hx30 hG30 (show (-2147483648) ≤ w29_4 ∧ w29_4 ≤ 2147483647 by omega) (show (-9223372036854775808) ≤ z50 ∧ z50 ≤ 9223372036854775807 by omega)
                  try rw [eq56] at b55
                  obtain ⟨bs55_0, b55⟩ := b55
                  have b58 : (-9223372036854775808) ≤ Z55 45 w29_4 ∧ Z55 45 w29_4 ≤ 9223372036854775807 := hG55.pr 45 w29_4
                  refine Jcv0 hx30 (show mx_Sn _ _ 93 (mx_callv 84 3 10 96) from sn_130 93) a44 s44 hc55 rfl rfl rfl ?_
                  have cs9 := CTB_s k0 (t := x1) (p := w29_4) (by omega) (by have := k0.2.1; omega) (by omega) (by have := CTB_h k0 (t := x1) (by omega) (by have := k0.2.1; omega); omega)
                  have li1 : LI (hpk (Z 7 4) x1) (Z 45) (Z55 45) (w29_4 + 1) := li_s (by assumption) ((ct_sz (b55 (by omega) (by omega)) (by omega)).trans (by omega)) bs55_0
                  refine Jiinc (z := w29_4) (cz := 1) (ls2 := [some (.ref 1), some (xI 0), some (xI x1), some (xI y28), some (xI (w29_4 + 1))]) (show mx_Sn _ _ 96 (mx_iinc 4 1 99) from sn_130 96) rfl rfl rfl rfl ?_
                  refine mx_J.step (sn_130 99) (fun _ _ => rfl) ?_
                  exact ih29 (w29_4 + 1) Z55 h55 (by omega) (by omega) (by omega) (by first | exact li_0 | assumption) hx55 hG55 (fr_tr (M := [(45, (-1))]) (fr_tr (M := [(45, (-1))]) fr_rf (hf30) (M1 := []) rfl rfl) (hf55) rfl rfl)
            exact c68 (Int.toNat (18 - 0) + 1) 0 Z h (by omega) (by omega) (by omega) (by first | exact li_0 | assumption) hx hG fr_rf
          · skip
            exact c41 (by omega)
      · skip
        refine JcI (z := (-6)) (show mx_Sn _ _ 23 (mx_const (.int (-6)) 25) from sn_130 23) rfl ?_
        have b59 : 0 ≤ Z 7 5 ∧ Z 7 5 ≤ 385 := hG.pr 7 5
        have b60 : 0 ≤ Z 10 x1 ∧ Z 10 x1 ≤ 18 := hG.pr 10 x1
        have b61 : 0 ≤ Z 44 2 ∧ Z 44 2 ≤ 40 := hG.pr 44 2
        have b62 : 0 ≤ Z 46 2 ∧ Z 46 2 ≤ 40 := hG.pr 46 2
        have b63 : 0 ≤ Z 46 3 ∧ Z 46 3 ≤ 1 := hG.pr 46 3
        have b64 : 0 ≤ Z 48 2 ∧ Z 48 2 ≤ 40 := hG.pr 48 2
        have b65 : 0 ≤ Z 48 3 ∧ Z 48 3 ≤ 1 := hG.pr 48 3
        have b66 : 0 ≤ Z 50 2 ∧ Z 50 2 ≤ 40 := hG.pr 50 2
        have b67 : 0 ≤ Z 50 3 ∧ Z 50 3 ≤ 1 := hG.pr 50 3
        exact mx_J.ret (sn_130 25) (fun _ _ => rfl) (hP (-6) Z h hx hG fr_rf ⟨(fun _ => (fun i => rfl)), (fun _ q => absurd q (by decide)), (fun _ => (fun i => rfl)), (fun _ q => absurd q (by decide)), (fun _ => (fun i => rfl)), (fun _ q => absurd q (by decide)), (fun _ => (fun i => rfl)), (fun _ q => absurd q (by decide)), by omega⟩)
    · skip
      exfalso; omega
theorem ct_130_1_i0 {l : Launch} {D : va_G} {b0 : Nat} {ad : Nat → Nat} {Hb : Heap} {tau : Nat → Int64} {d n s : Nat} {S : Nat → xS} {Z : xZ} {h : mx_H} (hx : XH n s S Z h) (hG : GI n S Z)  {x1 : Int} (p1 : (-2147483648) ≤ x1 ∧ x1 ≤ 2147483647) (k0 : CTB Z (Z 7 4)) (k1 : 1 ≤ Z 7 4) : ∃ (z : Int) (Z' : xZ) (h' : mx_H), mx_Ca (tB l D b0 ad Hb tau) (d + 3) 130 [.ref 1, xI 0, xI x1] h (some (xI z), h') ∧ XH n s S Z' h' ∧ GI n S Z' ∧ fr' [(45, (-1))] Z Z' ∧ (((¬ (0 : Int) = 0 ∨ z < 0) → ∀ i, Z' 45 i = Z 45 i) ∧ ((0 : Int) = 0 → 0 ≤ z → LI (hpk (Z 7 4) x1) (Z 45) (Z' 45) z) ∧ ((¬ (0 : Int) = 1 ∨ z < 0) → ∀ i, Z' 47 i = Z 47 i) ∧ ((0 : Int) = 1 → 0 ≤ z → LI (hpk (Z 7 4) x1) (Z 47) (Z' 47) z) ∧ ((¬ (0 : Int) = 2 ∨ z < 0) → ∀ i, Z' 49 i = Z 49 i) ∧ ((0 : Int) = 2 → 0 ≤ z → LI (hpk (Z 7 4) x1) (Z 49) (Z' 49) z) ∧ ((¬ (0 : Int) = 3 ∨ z < 0) → ∀ i, Z' 51 i = Z 51 i) ∧ ((0 : Int) = 3 → 0 ≤ z → LI (hpk (Z 7 4) x1) (Z 51) (Z' 51) z) ∧ (-6) ≤ z ∧ z ≤ 18 ∧ ((((0 : Int) < 0 ∨ 3 < (0 : Int)) → z = -2) ∧ ((0 : Int) = 0 → ((Z 44 3 = 1 → z = -6) ∧ (Z 44 3 = 0 → ((x1 < 0 ∨ Z 7 5 ≤ x1) → z = -3) ∧ (¬ (x1 < 0 ∨ Z 7 5 ≤ x1) → ((Z 10 x1 ≤ Z 44 2 → z = Z 10 x1) ∧ (Z 44 2 < Z 10 x1 → z = Z 44 2)))))) ∧ ((0 : Int) = 1 → ((Z 46 3 = 1 → z = -6) ∧ (Z 46 3 = 0 → ((x1 < 0 ∨ Z 7 5 ≤ x1) → z = -3) ∧ (¬ (x1 < 0 ∨ Z 7 5 ≤ x1) → ((Z 10 x1 ≤ Z 46 2 → z = Z 10 x1) ∧ (Z 46 2 < Z 10 x1 → z = Z 46 2)))))) ∧ ((0 : Int) = 2 → ((Z 48 3 = 1 → z = -6) ∧ (Z 48 3 = 0 → ((x1 < 0 ∨ Z 7 5 ≤ x1) → z = -3) ∧ (¬ (x1 < 0 ∨ Z 7 5 ≤ x1) → ((Z 10 x1 ≤ Z 48 2 → z = Z 10 x1) ∧ (Z 48 2 < Z 10 x1 → z = Z 48 2)))))) ∧ ((0 : Int) = 3 → ((Z 50 3 = 1 → z = -6) ∧ (Z 50 3 = 0 → ((x1 < 0 ∨ Z 7 5 ≤ x1) → z = -3) ∧ (¬ (x1 < 0 ∨ Z 7 5 ≤ x1) → ((Z 10 x1 ≤ Z 50 2 → z = Z 10 x1) ∧ (Z 50 2 < Z 10 x1 → z = Z 50 2)))))))) := by
  obtain ⟨r, hca, z, Z', h', e, q⟩ := Jmt (B := tB l D b0 ad Hb tau) (M := mt_130) (mi := 130) (as := [.ref 1, xI 0, xI x1]) (d := d + 2) (ls := [some (.ref 1), some (xI 0), some (xI x1), none, none]) rfl rfl rfl rfl rfl rfl (cw_130_1_i0 (l := l) (D := D) (b0 := b0) (ad := ad) (Hb := Hb) (tau := tau) (d := d) (Post := fun r => ∃ (z : Int) (Z' : xZ) (h' : mx_H), r = (some (xI z), h') ∧ XH n s S Z' h' ∧ GI n S Z' ∧ fr' [(45, (-1))] Z Z' ∧ (((¬ (0 : Int) = 0 ∨ z < 0) → ∀ i, Z' 45 i = Z 45 i) ∧ ((0 : Int) = 0 → 0 ≤ z → LI (hpk (Z 7 4) x1) (Z 45) (Z' 45) z) ∧ ((¬ (0 : Int) = 1 ∨ z < 0) → ∀ i, Z' 47 i = Z 47 i) ∧ ((0 : Int) = 1 → 0 ≤ z → LI (hpk (Z 7 4) x1) (Z 47) (Z' 47) z) ∧ ((¬ (0 : Int) = 2 ∨ z < 0) → ∀ i, Z' 49 i = Z 49 i) ∧ ((0 : Int) = 2 → 0 ≤ z → LI (hpk (Z 7 4) x1) (Z 49) (Z' 49) z) ∧ ((¬ (0 : Int) = 3 ∨ z < 0) → ∀ i, Z' 51 i = Z 51 i) ∧ ((0 : Int) = 3 → 0 ≤ z → LI (hpk (Z 7 4) x1) (Z 51) (Z' 51) z) ∧ (-6) ≤ z ∧ z ≤ 18 ∧ ((((0 : Int) < 0 ∨ 3 < (0 : Int)) → z = -2) ∧ ((0 : Int) = 0 → ((Z 44 3 = 1 → z = -6) ∧ (Z 44 3 = 0 → ((x1 < 0 ∨ Z 7 5 ≤ x1) → z = -3) ∧ (¬ (x1 < 0 ∨ Z 7 5 ≤ x1) → ((Z 10 x1 ≤ Z 44 2 → z = Z 10 x1) ∧ (Z 44 2 < Z 10 x1 → z = Z 44 2)))))) ∧ ((0 : Int) = 1 → ((Z 46 3 = 1 → z = -6) ∧ (Z 46 3 = 0 → ((x1 < 0 ∨ Z 7 5 ≤ x1) → z = -3) ∧ (¬ (x1 < 0 ∨ Z 7 5 ≤ x1) → ((Z 10 x1 ≤ Z 46 2 → z = Z 10 x1) ∧ (Z 46 2 < Z 10 x1 → z = Z 46 2)))))) ∧ ((0 : Int) = 2 → ((Z 48 3 = 1 → z = -6) ∧ (Z 48 3 = 0 → ((x1 < 0 ∨ Z 7 5 ≤ x1) → z = -3) ∧ (¬ (x1 < 0 ∨ Z 7 5 ≤ x1) → ((Z 10 x1 ≤ Z 48 2 → z = Z 10 x1) ∧ (Z 48 2 < Z 10 x1 → z = Z 48 2)))))) ∧ ((0 : Int) = 3 → ((Z 50 3 = 1 → z = -6) ∧ (Z 50 3 = 0 → ((x1 < 0 ∨ Z 7 5 ≤ x1) → z = -3) ∧ (¬ (x1 < 0 ∨ Z 7 5 ≤ x1) → ((Z 10 x1 ≤ Z 50 2 → z = Z 10 x1) ∧ (Z 50 2 < Z 10 x1 → z = Z 50 2))))))))) hx hG p1 k0 k1 (fun z Z' h' q1 q2 q3 q4 => ⟨z, Z', h', rfl, q1, q2, q3, q4⟩))
  subst e; exact ⟨z, Z', h', hca, q⟩
set_option maxRecDepth 100000 in
theorem cw_130_1_i1 {l : Launch} {D : va_G} {b0 : Nat} {ad : Nat → Nat} {Hb : Heap} {tau : Nat → Int64} {d n s : Nat} {S : Nat → xS} {Z : xZ} {h : mx_H} {Post : mx_R → Prop} (hx : XH n s S Z h) (hG : GI n S Z)  {x1 : Int} (p1 : (-2147483648) ≤ x1 ∧ x1 ≤ 2147483647) (k0 : CTB Z (Z 7 4)) (k1 : 1 ≤ Z 7 4) (hP : ∀ (z : Int) (Z' : xZ) (h' : mx_H), XH n s S Z' h' → GI n S Z' → fr' [(47, (-1))] Z Z' → ((¬ (1 : Int) = 0 ∨ z < 0) → ∀ i, Z' 45 i = Z 45 i) ∧ ((1 : Int) = 0 → 0 ≤ z → LI (hpk (Z 7 4) x1) (Z 45) (Z' 45) z) ∧ ((¬ (1 : Int) = 1 ∨ z < 0) → ∀ i, Z' 47 i = Z 47 i) ∧ ((1 : Int) = 1 → 0 ≤ z → LI (hpk (Z 7 4) x1) (Z 47) (Z' 47) z) ∧ ((¬ (1 : Int) = 2 ∨ z < 0) → ∀ i, Z' 49 i = Z 49 i) ∧ ((1 : Int) = 2 → 0 ≤ z → LI (hpk (Z 7 4) x1) (Z 49) (Z' 49) z) ∧ ((¬ (1 : Int) = 3 ∨ z < 0) → ∀ i, Z' 51 i = Z 51 i) ∧ ((1 : Int) = 3 → 0 ≤ z → LI (hpk (Z 7 4) x1) (Z 51) (Z' 51) z) ∧ (-6) ≤ z ∧ z ≤ 18 ∧ ((((1 : Int) < 0 ∨ 3 < (1 : Int)) → z = -2) ∧ ((1 : Int) = 0 → ((Z 44 3 = 1 → z = -6) ∧ (Z 44 3 = 0 → ((x1 < 0 ∨ Z 7 5 ≤ x1) → z = -3) ∧ (¬ (x1 < 0 ∨ Z 7 5 ≤ x1) → ((Z 10 x1 ≤ Z 44 2 → z = Z 10 x1) ∧ (Z 44 2 < Z 10 x1 → z = Z 44 2)))))) ∧ ((1 : Int) = 1 → ((Z 46 3 = 1 → z = -6) ∧ (Z 46 3 = 0 → ((x1 < 0 ∨ Z 7 5 ≤ x1) → z = -3) ∧ (¬ (x1 < 0 ∨ Z 7 5 ≤ x1) → ((Z 10 x1 ≤ Z 46 2 → z = Z 10 x1) ∧ (Z 46 2 < Z 10 x1 → z = Z 46 2)))))) ∧ ((1 : Int) = 2 → ((Z 48 3 = 1 → z = -6) ∧ (Z 48 3 = 0 → ((x1 < 0 ∨ Z 7 5 ≤ x1) → z = -3) ∧ (¬ (x1 < 0 ∨ Z 7 5 ≤ x1) → ((Z 10 x1 ≤ Z 48 2 → z = Z 10 x1) ∧ (Z 48 2 < Z 10 x1 → z = Z 48 2)))))) ∧ ((1 : Int) = 3 → ((Z 50 3 = 1 → z = -6) ∧ (Z 50 3 = 0 → ((x1 < 0 ∨ Z 7 5 ≤ x1) → z = -3) ∧ (¬ (x1 < 0 ∨ Z 7 5 ≤ x1) → ((Z 10 x1 ≤ Z 50 2 → z = Z 10 x1) ∧ (Z 50 2 < Z 10 x1 → z = Z 50 2))))))) → Post (some (xI z), h')) : mx_J (tB l D b0 ad Hb tau) mt_130 (d + 2) 0 [some (.ref 1), some (xI 1), some (xI x1), none, none] [] h Post := by
    have a1 : 1 < n := lt83 (GI_n hG) rfl
    have s1 : S 1 = .inl (11, [2, 0, 0, 0, 2, 2, 2, 2, 2, 2, 2, 2, 2, 2, 2, 2, 2]) := GI_s hG 1 rfl
    have a7 : 7 < n := lt83 (GI_n hG) rfl
    have s7 : S 7 = .inl (0, [2, 2, 2, 2, 0, 0]) := GI_s hG 7 rfl
    have a34 : 34 < n := lt83 (GI_n hG) rfl
    have s34 : S 34 = .inr ((.object "TitheHeap$Tray"), 4, 2) := GI_s hG 34 rfl
    have a46 : 46 < n := lt83 (GI_n hG) rfl
    have s46 : S 46 = .inl (10, [2, 0, 0, 0]) := GI_s hG 46 rfl
    refine mx_J.step (sn_130 0) (fun _ _ => rfl) ?_
    refine mx_J.step (sn_130 1) (fun _ _ => rfl) ?_
    obtain ⟨z1, hc1, b1⟩ := ct_144_1_y (d := d + 1) (l := l) (D := D) (b0 := b0) (ad := ad) (Hb := Hb) (tau := tau) hx hG (show 0 ≤ 1 ∧ 1 ≤ 3 by omega)
    refine Jcv hx (show mx_Sn _ _ 2 (mx_callv 144 2 11 5) from sn_130 2) a1 s1 hc1 rfl rfl rfl ?_
    refine Jif_eq (show mx_Sn _ _ 5 (mx_if_eq 11 8) from sn_130 5) (by omega) (fun q2 => ?_) (fun q2 => ?_)
    · skip
      refine mx_J.step (sn_130 11) (fun _ _ => rfl) ?_
      refine JgetR (g := 10) (b := 34) hx (show mx_Sn _ _ 12 (mx_getf 11 10 15) from sn_130 12) a1 s1 rfl rfl (hG.prr 1 10 rfl) ?_
      refine mx_J.step (sn_130 15) (fun _ _ => rfl) ?_
      refine JaaldR (i := 1) (b := 46) hx (show mx_Sn _ _ 16 (mx_aald 17) from sn_130 16) a34 s34 (by omega) (show Z 34 1 = 46 by have hq := GI_ex hG 34 1; replace hq : ((0 : Int) ≤ 1 → (1 : Int) ≤ 3 → (Z 34 1) = 44 + 2 * 1) := hq; omega) ?_
      have b5 : 0 ≤ Z 46 3 ∧ Z 46 3 ≤ 1 := hG.pr 46 3
      refine JgetI (g := 3) (z := Z 46 3) hx (show mx_Sn _ _ 17 (mx_getf 10 3 20) from sn_130 17) a46 s46 rfl rfl rfl ?_
      refine Jif_eq (show mx_Sn _ _ 20 (mx_if_eq 26 23) from sn_130 20) (by omega) (fun q6 => ?_) (fun q6 => ?_)
      · skip
        refine mx_J.step (sn_130 26) (fun _ _ => rfl) ?_
        have c41 : (x1 < 0 ∨ Z 7 5 ≤ x1) → mx_J (tB l D b0 ad Hb tau) mt_130 (d + 2) 41 [some (.ref 1), some (xI 1), some (xI x1), none, none] [] h Post := by
          intro f7_0
          refine JcI (z := (-3)) (show mx_Sn _ _ 41 (mx_const (.int (-3)) 43) from sn_130 41) rfl ?_
          have b8 : 0 ≤ Z 7 5 ∧ Z 7 5 ≤ 385 := hG.pr 7 5
          have b9 : 0 ≤ Z 10 x1 ∧ Z 10 x1 ≤ 18 := hG.pr 10 x1
          have b10 : 0 ≤ Z 44 2 ∧ Z 44 2 ≤ 40 := hG.pr 44 2
          have b11 : 0 ≤ Z 44 3 ∧ Z 44 3 ≤ 1 := hG.pr 44 3
          have b12 : 0 ≤ Z 46 2 ∧ Z 46 2 ≤ 40 := hG.pr 46 2
          have b13 : 0 ≤ Z 48 2 ∧ Z 48 2 ≤ 40 := hG.pr 48 2
          have b14 : 0 ≤ Z 48 3 ∧ Z 48 3 ≤ 1 := hG.pr 48 3
          have b15 : 0 ≤ Z 50 2 ∧ Z 50 2 ≤ 40 := hG.pr 50 2
          have b16 : 0 ≤ Z 50 3 ∧ Z 50 3 ≤ 1 := hG.pr 50 3
          exact mx_J.ret (sn_130 43) (fun _ _ => rfl) (hP (-3) Z h hx hG fr_rf ⟨(fun _ => (fun i => rfl)), (fun _ q => absurd q (by decide)), (fun _ => (fun i => rfl)), (fun _ q => absurd q (by decide)), (fun _ => (fun i => rfl)), (fun _ q => absurd q (by decide)), (fun _ => (fun i => rfl)), (fun _ q => absurd q (by decide)), by omega⟩)
        refine Jif_lt (show mx_Sn _ _ 27 (mx_if_lt 41 30) from sn_130 27) (by omega) (fun q17 => ?_) (fun q17 => ?_)
        · skip
          exact c41 (by omega)
        · skip
          refine mx_J.step (sn_130 30) (fun _ _ => rfl) ?_
          refine mx_J.step (sn_130 31) (fun _ _ => rfl) ?_
          refine JgetR (g := 5) (b := 7) hx (show mx_Sn _ _ 32 (mx_getf 11 5 35) from sn_130 32) a1 s1 rfl rfl (hG.prr 1 5 rfl) ?_
          have b20 : 0 ≤ Z 7 5 ∧ Z 7 5 ≤ 385 := hG.pr 7 5
          refine JgetI (g := 5) (z := Z 7 5) hx (show mx_Sn _ _ 35 (mx_getf 0 5 38) from sn_130 35) a7 s7 rfl rfl rfl ?_
          refine Jicmp_lt (show mx_Sn _ _ 38 (mx_icmp_lt 44 41) from sn_130 38) (by omega) (by omega) (fun q21 => ?_) (fun q21 => ?_)
          · skip
            refine mx_J.step (sn_130 44) (fun _ _ => rfl) ?_
            refine JgetR (g := 5) (b := 7) hx (show mx_Sn _ _ 45 (mx_getf 11 5 48) from sn_130 45) a1 s1 rfl rfl (hG.prr 1 5 rfl) ?_
            refine mx_J.step (sn_130 48) (fun _ _ => rfl) ?_
            have b24 : 0 ≤ Z 10 x1 ∧ Z 10 x1 ≤ 18 := hG.pr 10 x1
            obtain ⟨z23, hc23, b23⟩ := ct_5_7 (d := d + 1) (l := l) (D := D) (b0 := b0) (ad := ad) (Hb := Hb) (tau := tau) hx hG (show (-2147483648) ≤ x1 ∧ x1 ≤ 2147483647 by omega)
            refine Jcv hx (show mx_Sn _ _ 49 (mx_callv 5 2 0 52) from sn_130 49) a7 s7 hc23 rfl rfl rfl ?_
            refine mx_J.step (sn_130 52) (fun _ _ => rfl) ?_
            refine JgetR (g := 10) (b := 34) hx (show mx_Sn _ _ 53 (mx_getf 11 10 56) from sn_130 53) a1 s1 rfl rfl (hG.prr 1 10 rfl) ?_
            refine mx_J.step (sn_130 56) (fun _ _ => rfl) ?_
            refine JaaldR (i := 1) (b := 46) hx (show mx_Sn _ _ 57 (mx_aald 58) from sn_130 57) a34 s34 (by omega) (show Z 34 1 = 46 by have hq := GI_ex hG 34 1; replace hq : ((0 : Int) ≤ 1 → (1 : Int) ≤ 3 → (Z 34 1) = 44 + 2 * 1) := hq; omega) ?_
            have b27 : 0 ≤ Z 46 2 ∧ Z 46 2 ≤ 40 := hG.pr 46 2
            refine JgetI (g := 2) (z := Z 46 2) hx (show mx_Sn _ _ 58 (mx_getf 10 2 61) from sn_130 58) a46 s46 rfl rfl rfl ?_
            refine Jmmin (show mx_Sn _ _ 61 (mx_mmin 64) from sn_130 61) (by omega) (by omega) ⟨_, rfl⟩ rfl (fun y28 hy28 => ?_)
            refine mx_J.step (ls2 := [some (.ref 1), some (xI 1), some (xI x1), some (xI y28), none]) (sn_130 64) (fun _ _ => rfl) ?_
            refine JcI (z := 0) (show mx_Sn _ _ 65 (mx_const (.int 0) 66) from sn_130 65) rfl ?_
            refine mx_J.step (ls2 := [some (.ref 1), some (xI 1), some (xI x1), some (xI y28), some (xI 0)]) (sn_130 66) (fun _ _ => rfl) ?_
            have c68 : ∀ (m29 : Nat) (w29_4 : Int) (Z30 : xZ) (h30 : mx_H), 18 - w29_4 < (m29 : Int) → 0 ≤ w29_4 ∧ w29_4 ≤ 18 → w29_4 ≤ y28 → LI (hpk (Z 7 4) x1) (Z 47) (Z30 47) w29_4 → XH n s S Z30 h30 → GI n S Z30 → fr' [(47, (-1))] Z Z30 → mx_J (tB l D b0 ad Hb tau) mt_130 (d + 2) 68 [some (.ref 1), some (xI 1), some (xI x1), some (xI y28), some (xI w29_4)] [] h30 Post := by
              intro m29
              induction m29 with
              | zero => intro w29_4 Z30 h30 q29 f29_0 f29_1 f29_2 hx30 hG30 hf30; exact absurd q29 (by omega)
              | succ m29 ih29 =>
                intro w29_4 Z30 h30 q29 f29_0 f29_1 f29_2 hx30 hG30 hf30
                refine mx_J.step (sn_130 68) (fun _ _ => rfl) ?_
                refine mx_J.step (sn_130 70) (fun _ _ => rfl) ?_
                refine Jicmp_ge (show mx_Sn _ _ 71 (mx_icmp_ge 102 74) from sn_130 71) (by omega) (by omega) (fun q31 => ?_) (fun q31 => ?_)
                · skip
                  refine mx_J.step (sn_130 102) (fun _ _ => rfl) ?_
                  have eq32 : Z30 7 5 = Z 7 5 := (hf30 7 5 rfl)
                  have eq33 : Z30 10 x1 = Z 10 x1 := (hf30 10 x1 rfl)
                  have eq34 : Z30 44 2 = Z 44 2 := (hf30 44 2 rfl)
                  have b35 : 0 ≤ Z 44 2 ∧ Z 44 2 ≤ 40 := hG.pr 44 2
                  have eq36 : Z30 44 3 = Z 44 3 := (hf30 44 3 rfl)
                  have b37 : 0 ≤ Z 44 3 ∧ Z 44 3 ≤ 1 := hG.pr 44 3
                  have eq38 : Z30 46 2 = Z 46 2 := (hf30 46 2 rfl)
                  have eq39 : Z30 46 3 = Z 46 3 := (hf30 46 3 rfl)
                  have eq40 : Z30 48 2 = Z 48 2 := (hf30 48 2 rfl)
                  have b41 : 0 ≤ Z 48 2 ∧ Z 48 2 ≤ 40 := hG.pr 48 2
                  have eq42 : Z30 48 3 = Z 48 3 := (hf30 48 3 rfl)
                  have b43 : 0 ≤ Z 48 3 ∧ Z 48 3 ≤ 1 := hG.pr 48 3
                  have eq44 : Z30 50 2 = Z 50 2 := (hf30 50 2 rfl)
                  have b45 : 0 ≤ Z 50 2 ∧ Z 50 2 ≤ 40 := hG.pr 50 2
                  have eq46 : Z30 50 3 = Z 50 3 := (hf30 50 3 rfl)
                  have b47 : 0 ≤ Z 50 3 ∧ Z 50 3 ≤ 1 := hG.pr 50 3
                  exact mx_J.ret (sn_130 103) (fun _ _ => rfl) (hP y28 Z30 h30 hx30 hG30 (fr_tr (M := [(47, (-1))]) fr_rf (hf30) (M1 := []) rfl rfl) ⟨(fun _ => (fun i => (hf30 45 i rfl))), (fun q => absurd q (by decide)), (fun q => absurd q (by omega)), (fun _ _ => (show w29_4 = y28 by omega) ▸ (by assumption : LI (hpk (Z 7 4) x1) (Z 47) (Z30 47) w29_4)), (fun _ => (fun i => (hf30 49 i rfl))), (fun q => absurd q (by decide)), (fun _ => (fun i => (hf30 51 i rfl))), (fun q => absurd q (by decide)), by omega⟩)
                · skip
                  refine mx_J.step (sn_130 74) (fun _ _ => rfl) ?_
                  refine JgetR (g := 10) (b := 34) hx30 (show mx_Sn _ _ 75 (mx_getf 11 10 78) from sn_130 75) a1 s1 rfl rfl (hG30.prr 1 10 rfl) ?_
                  refine mx_J.step (sn_130 78) (fun _ _ => rfl) ?_
                  refine JaaldR (i := 1) (b := 46) hx30 (show mx_Sn _ _ 79 (mx_aald 80) from sn_130 79) a34 s34 (by omega) (show Z30 34 1 = 46 by have hq := GI_ex hG30 34 1; replace hq : ((0 : Int) ≤ 1 → (1 : Int) ≤ 3 → (Z30 34 1) = 44 + 2 * 1) := hq; omega) ?_
                  refine mx_J.step (sn_130 80) (fun _ _ => rfl) ?_
                  refine mx_J.step (sn_130 82) (fun _ _ => rfl) ?_
                  refine JgetR (g := 5) (b := 7) hx30 (show mx_Sn _ _ 83 (mx_getf 11 5 86) from sn_130 83) a1 s1 rfl rfl (hG30.prr 1 5 rfl) ?_
                  refine mx_J.step (sn_130 86) (fun _ _ => rfl) ?_
                  refine mx_J.step (sn_130 87) (fun _ _ => rfl) ?_
                  have eq51 : Z30 9 (x1 * 18 + w29_4) = Z 9 (x1 * 18 + w29_4) := (hf30 9 (x1 * 18 + w29_4) rfl)
                  have b52 : 0 ≤ Z 9 (x1 * 18 + w29_4) ∧ Z 9 (x1 * 18 + w29_4) ≤ 18 := hG.pr 9 (x1 * 18 + w29_4)
                  have eq53 : Z30 10 x1 = Z 10 x1 := (hf30 10 x1 rfl)
                  have eq54 : Z30 7 5 = Z 7 5 := (hf30 7 5 rfl)
                  obtain ⟨z50, hc50, b50⟩ := ct_6_7 (d := d + 0) (l := l) (D := D) (b0 := b0) (ad := ad) (Hb := Hb) (tau := tau) hx30 hG30 (show (-2147483648) ≤ x1 ∧ x1 ≤ 2147483647 by omega) (show (-2147483648) ≤ w29_4 ∧ w29_4 ≤ 2147483647 by omega)
                  try rw [eq51] at b50
                  try rw [eq53] at b50
                  try rw [eq54] at b50
                  refine Jcv hx30 (show mx_Sn _ _ 89 (mx_callv 6 3 0 92) from sn_130 89) a7 s7 hc50 rfl rfl rfl ?_
                  refine Ji2l (show mx_Sn _ _ 92 (mx_i2l 93) from sn_130 92) (by omega) ?_
                  have eq56 : Z30 46 1 = Z 46 1 := (hf30 46 1 rfl)
                  have b57 : 0 ≤ Z 46 1 ∧ Z 46 1 ≤ 3 := hG.pr 46 1
                  obtain ⟨Z55, h55, hc55, hx55, hG55, hf55, b55⟩ := ct_84_46 (d := d + 1) (l := l) (D := D) (b0 := b0) (ad := ad) (Hb := Hb) (tau := tau) hx30 hG30 (show (-2147483648) ≤ w29_4 ∧ w29_4 ≤ 2147483647 by omega) (show (-9223372036854775808) ≤ z50 ∧ z50 ≤ 9223372036854775807 by omega)
                  try rw [eq56] at b55
                  obtain ⟨bs55_0, b55⟩ := b55
                  have b58 : (-9223372036854775808) ≤ Z55 47 w29_4 ∧ Z55 47 w29_4 ≤ 9223372036854775807 := hG55.pr 47 w29_4
                  refine Jcv0 hx30 (show mx_Sn _ _ 93 (mx_callv 84 3 10 96) from sn_130 93) a46 s46 hc55 rfl rfl rfl ?_
                  have cs9 := CTB_s k0 (t := x1) (p := w29_4) (by omega) (by have := k0.2.1; omega) (by omega) (by have := CTB_h k0 (t := x1) (by omega) (by have := k0.2.1; omega); omega)
                  have li1 : LI (hpk (Z 7 4) x1) (Z 47) (Z55 47) (w29_4 + 1) := li_s (by assumption) ((ct_sz (b55 (by omega) (by omega)) (by omega)).trans (by omega)) bs55_0
                  refine Jiinc (z := w29_4) (cz := 1) (ls2 := [some (.ref 1), some (xI 1), some (xI x1), some (xI y28), some (xI (w29_4 + 1))]) (show mx_Sn _ _ 96 (mx_iinc 4 1 99) from sn_130 96) rfl rfl rfl rfl ?_
                  refine mx_J.step (sn_130 99) (fun _ _ => rfl) ?_
                  exact ih29 (w29_4 + 1) Z55 h55 (by omega) (by omega) (by omega) (by first | exact li_0 | assumption) hx55 hG55 (fr_tr (M := [(47, (-1))]) (fr_tr (M := [(47, (-1))]) fr_rf (hf30) (M1 := []) rfl rfl) (hf55) rfl rfl)
            exact c68 (Int.toNat (18 - 0) + 1) 0 Z h (by omega) (by omega) (by omega) (by first | exact li_0 | assumption) hx hG fr_rf
          · skip
            exact c41 (by omega)
      · skip
        refine JcI (z := (-6)) (show mx_Sn _ _ 23 (mx_const (.int (-6)) 25) from sn_130 23) rfl ?_
        have b59 : 0 ≤ Z 7 5 ∧ Z 7 5 ≤ 385 := hG.pr 7 5
        have b60 : 0 ≤ Z 10 x1 ∧ Z 10 x1 ≤ 18 := hG.pr 10 x1
        have b61 : 0 ≤ Z 44 2 ∧ Z 44 2 ≤ 40 := hG.pr 44 2
        have b62 : 0 ≤ Z 44 3 ∧ Z 44 3 ≤ 1 := hG.pr 44 3
        have b63 : 0 ≤ Z 46 2 ∧ Z 46 2 ≤ 40 := hG.pr 46 2
        have b64 : 0 ≤ Z 48 2 ∧ Z 48 2 ≤ 40 := hG.pr 48 2
        have b65 : 0 ≤ Z 48 3 ∧ Z 48 3 ≤ 1 := hG.pr 48 3
        have b66 : 0 ≤ Z 50 2 ∧ Z 50 2 ≤ 40 := hG.pr 50 2
        have b67 : 0 ≤ Z 50 3 ∧ Z 50 3 ≤ 1 := hG.pr 50 3
        exact mx_J.ret (sn_130 25) (fun _ _ => rfl) (hP (-6) Z h hx hG fr_rf ⟨(fun _ => (fun i => rfl)), (fun _ q => absurd q (by decide)), (fun _ => (fun i => rfl)), (fun _ q => absurd q (by decide)), (fun _ => (fun i => rfl)), (fun _ q => absurd q (by decide)), (fun _ => (fun i => rfl)), (fun _ q => absurd q (by decide)), by omega⟩)
    · skip
      exfalso; omega
theorem ct_130_1_i1 {l : Launch} {D : va_G} {b0 : Nat} {ad : Nat → Nat} {Hb : Heap} {tau : Nat → Int64} {d n s : Nat} {S : Nat → xS} {Z : xZ} {h : mx_H} (hx : XH n s S Z h) (hG : GI n S Z)  {x1 : Int} (p1 : (-2147483648) ≤ x1 ∧ x1 ≤ 2147483647) (k0 : CTB Z (Z 7 4)) (k1 : 1 ≤ Z 7 4) : ∃ (z : Int) (Z' : xZ) (h' : mx_H), mx_Ca (tB l D b0 ad Hb tau) (d + 3) 130 [.ref 1, xI 1, xI x1] h (some (xI z), h') ∧ XH n s S Z' h' ∧ GI n S Z' ∧ fr' [(47, (-1))] Z Z' ∧ (((¬ (1 : Int) = 0 ∨ z < 0) → ∀ i, Z' 45 i = Z 45 i) ∧ ((1 : Int) = 0 → 0 ≤ z → LI (hpk (Z 7 4) x1) (Z 45) (Z' 45) z) ∧ ((¬ (1 : Int) = 1 ∨ z < 0) → ∀ i, Z' 47 i = Z 47 i) ∧ ((1 : Int) = 1 → 0 ≤ z → LI (hpk (Z 7 4) x1) (Z 47) (Z' 47) z) ∧ ((¬ (1 : Int) = 2 ∨ z < 0) → ∀ i, Z' 49 i = Z 49 i) ∧ ((1 : Int) = 2 → 0 ≤ z → LI (hpk (Z 7 4) x1) (Z 49) (Z' 49) z) ∧ ((¬ (1 : Int) = 3 ∨ z < 0) → ∀ i, Z' 51 i = Z 51 i) ∧ ((1 : Int) = 3 → 0 ≤ z → LI (hpk (Z 7 4) x1) (Z 51) (Z' 51) z) ∧ (-6) ≤ z ∧ z ≤ 18 ∧ ((((1 : Int) < 0 ∨ 3 < (1 : Int)) → z = -2) ∧ ((1 : Int) = 0 → ((Z 44 3 = 1 → z = -6) ∧ (Z 44 3 = 0 → ((x1 < 0 ∨ Z 7 5 ≤ x1) → z = -3) ∧ (¬ (x1 < 0 ∨ Z 7 5 ≤ x1) → ((Z 10 x1 ≤ Z 44 2 → z = Z 10 x1) ∧ (Z 44 2 < Z 10 x1 → z = Z 44 2)))))) ∧ ((1 : Int) = 1 → ((Z 46 3 = 1 → z = -6) ∧ (Z 46 3 = 0 → ((x1 < 0 ∨ Z 7 5 ≤ x1) → z = -3) ∧ (¬ (x1 < 0 ∨ Z 7 5 ≤ x1) → ((Z 10 x1 ≤ Z 46 2 → z = Z 10 x1) ∧ (Z 46 2 < Z 10 x1 → z = Z 46 2)))))) ∧ ((1 : Int) = 2 → ((Z 48 3 = 1 → z = -6) ∧ (Z 48 3 = 0 → ((x1 < 0 ∨ Z 7 5 ≤ x1) → z = -3) ∧ (¬ (x1 < 0 ∨ Z 7 5 ≤ x1) → ((Z 10 x1 ≤ Z 48 2 → z = Z 10 x1) ∧ (Z 48 2 < Z 10 x1 → z = Z 48 2)))))) ∧ ((1 : Int) = 3 → ((Z 50 3 = 1 → z = -6) ∧ (Z 50 3 = 0 → ((x1 < 0 ∨ Z 7 5 ≤ x1) → z = -3) ∧ (¬ (x1 < 0 ∨ Z 7 5 ≤ x1) → ((Z 10 x1 ≤ Z 50 2 → z = Z 10 x1) ∧ (Z 50 2 < Z 10 x1 → z = Z 50 2)))))))) := by
  obtain ⟨r, hca, z, Z', h', e, q⟩ := Jmt (B := tB l D b0 ad Hb tau) (M := mt_130) (mi := 130) (as := [.ref 1, xI 1, xI x1]) (d := d + 2) (ls := [some (.ref 1), some (xI 1), some (xI x1), none, none]) rfl rfl rfl rfl rfl rfl (cw_130_1_i1 (l := l) (D := D) (b0 := b0) (ad := ad) (Hb := Hb) (tau := tau) (d := d) (Post := fun r => ∃ (z : Int) (Z' : xZ) (h' : mx_H), r = (some (xI z), h') ∧ XH n s S Z' h' ∧ GI n S Z' ∧ fr' [(47, (-1))] Z Z' ∧ (((¬ (1 : Int) = 0 ∨ z < 0) → ∀ i, Z' 45 i = Z 45 i) ∧ ((1 : Int) = 0 → 0 ≤ z → LI (hpk (Z 7 4) x1) (Z 45) (Z' 45) z) ∧ ((¬ (1 : Int) = 1 ∨ z < 0) → ∀ i, Z' 47 i = Z 47 i) ∧ ((1 : Int) = 1 → 0 ≤ z → LI (hpk (Z 7 4) x1) (Z 47) (Z' 47) z) ∧ ((¬ (1 : Int) = 2 ∨ z < 0) → ∀ i, Z' 49 i = Z 49 i) ∧ ((1 : Int) = 2 → 0 ≤ z → LI (hpk (Z 7 4) x1) (Z 49) (Z' 49) z) ∧ ((¬ (1 : Int) = 3 ∨ z < 0) → ∀ i, Z' 51 i = Z 51 i) ∧ ((1 : Int) = 3 → 0 ≤ z → LI (hpk (Z 7 4) x1) (Z 51) (Z' 51) z) ∧ (-6) ≤ z ∧ z ≤ 18 ∧ ((((1 : Int) < 0 ∨ 3 < (1 : Int)) → z = -2) ∧ ((1 : Int) = 0 → ((Z 44 3 = 1 → z = -6) ∧ (Z 44 3 = 0 → ((x1 < 0 ∨ Z 7 5 ≤ x1) → z = -3) ∧ (¬ (x1 < 0 ∨ Z 7 5 ≤ x1) → ((Z 10 x1 ≤ Z 44 2 → z = Z 10 x1) ∧ (Z 44 2 < Z 10 x1 → z = Z 44 2)))))) ∧ ((1 : Int) = 1 → ((Z 46 3 = 1 → z = -6) ∧ (Z 46 3 = 0 → ((x1 < 0 ∨ Z 7 5 ≤ x1) → z = -3) ∧ (¬ (x1 < 0 ∨ Z 7 5 ≤ x1) → ((Z 10 x1 ≤ Z 46 2 → z = Z 10 x1) ∧ (Z 46 2 < Z 10 x1 → z = Z 46 2)))))) ∧ ((1 : Int) = 2 → ((Z 48 3 = 1 → z = -6) ∧ (Z 48 3 = 0 → ((x1 < 0 ∨ Z 7 5 ≤ x1) → z = -3) ∧ (¬ (x1 < 0 ∨ Z 7 5 ≤ x1) → ((Z 10 x1 ≤ Z 48 2 → z = Z 10 x1) ∧ (Z 48 2 < Z 10 x1 → z = Z 48 2)))))) ∧ ((1 : Int) = 3 → ((Z 50 3 = 1 → z = -6) ∧ (Z 50 3 = 0 → ((x1 < 0 ∨ Z 7 5 ≤ x1) → z = -3) ∧ (¬ (x1 < 0 ∨ Z 7 5 ≤ x1) → ((Z 10 x1 ≤ Z 50 2 → z = Z 10 x1) ∧ (Z 50 2 < Z 10 x1 → z = Z 50 2))))))))) hx hG p1 k0 k1 (fun z Z' h' q1 q2 q3 q4 => ⟨z, Z', h', rfl, q1, q2, q3, q4⟩))
  subst e; exact ⟨z, Z', h', hca, q⟩
