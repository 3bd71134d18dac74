set_option maxRecDepth 100000 in
theorem cw_194_56_i1 {l : Launch} {D : va_G} {b0 : Nat} {ad : Nat → Nat} {Hb : Heap} {tau : Nat → Int64} {d n s : Nat} {S : Nat → xS} {Z : xZ} {h : mx_H} {Post : mx_R → Prop} (hx : XH n s S Z h) (hG : GI n S Z)   (k0 : Z 57 22 = 1) (hP : ∀ (z : Int) (Z' : xZ) (h' : mx_H), XH n s S Z' h' → GI n S Z' → fr' [(64, (-1))] Z Z' → (-2147483648) ≤ z ∧ z ≤ 2147483647 → Post (some (xI z), h')) : mx_J (tB l D b0 ad Hb tau) mt_194 (d + 1) 0 [some (.ref 56), some (xI 1), none, none, none] [] h Post := by
    have a56 : 56 < n := lt83 (GI_n hG) rfl
    have s56 : S 56 = .inl (12, [0, 2, 2, 2, 2, 0, 0, 0, 0, 0, 0, 0, 0, 0, 0, 2, 2, 2, 0, 2, 2, 2, 0, 0, 2, 2, 2, 2, 2, 2, 0, 0, 2, 2, 2, 2, 2, 2, 2, 2, 2, 2]) := GI_s hG 56 rfl
    have a57 : 57 < n := lt83 (GI_n hG) rfl
    have s57 : S 57 = .inr (.int, 2886, 0) := GI_s hG 57 rfl
    have a64 : 64 < n := lt83 (GI_n hG) rfl
    have s64 : S 64 = .inr (.int, 900, 0) := GI_s hG 64 rfl
    have a65 : 65 < n := lt83 (GI_n hG) rfl
    have s65 : S 65 = .inr (.int, 5, 0) := GI_s hG 65 rfl
    refine JcI (z := 0) (show mx_Sn _ _ 0 (mx_const (.int 0) 1) from sn_194 0) rfl ?_
    refine mx_J.step (ls2 := [some (.ref 56), some (xI 1), some (xI 0), none, none]) (sn_194 1) (fun _ _ => rfl) ?_
    refine JcI (z := 0) (show mx_Sn _ _ 2 (mx_const (.int 0) 3) from sn_194 2) rfl ?_
    refine mx_J.step (ls2 := [some (.ref 56), some (xI 1), some (xI 0), some (xI 0), none]) (sn_194 3) (fun _ _ => rfl) ?_
    have c4 : ∀ (m1 : Nat) (w1_2 : Int) (w1_3 : Int) (u1_4 : Option Value) (Z2 : xZ) (h2 : mx_H), 900 - w1_3 < (m1 : Int) → 0 ≤ w1_2 ∧ w1_2 ≤ 900 → 0 ≤ w1_3 ∧ w1_3 ≤ 900 → (w1_2 = dp Z 1 w1_3 ∧ 0 ≤ w1_2 ∧ w1_2 ≤ w1_3 ∧ 0 ≤ w1_3) → XH n s S Z2 h2 → GI n S Z2 → fr' [(64, (-1))] Z Z2 → mx_J (tB l D b0 ad Hb tau) mt_194 (d + 1) 4 [some (.ref 56), some (xI 1), some (xI w1_2), some (xI w1_3), u1_4] [] h2 Post := by
      intro m1
      induction m1 with
      | zero => intro w1_2 w1_3 u1_4 Z2 h2 q1 f1_0 f1_1 f1_2 hx2 hG2 hf2; exact absurd q1 (by omega)
      | succ m1 ih1 =>
        intro w1_2 w1_3 u1_4 Z2 h2 q1 f1_0 f1_1 f1_2 hx2 hG2 hf2
        have wm := WF_m1 (GI_wf hG) k0
        refine mx_J.step (sn_194 4) (fun _ _ => rfl) ?_
        refine mx_J.step (sn_194 5) (fun _ _ => rfl) ?_
        refine JgetR (g := 1) (b := 57) hx2 (show mx_Sn _ _ 6 (mx_getf 12 1 9) from sn_194 6) a56 s56 rfl rfl (hG2.prr 56 1 rfl) ?_
        refine JcI (z := 25) (show mx_Sn _ _ 9 (mx_const (.int 25) 11) from sn_194 9) rfl ?_
        refine mx_J.step (sn_194 11) (fun _ _ => rfl) ?_
        refine JiaddE (r := 26) (show mx_Sn _ _ 12 (mx_iadd 13) from sn_194 12) (by decide) ?_
        have b4 : 0 ≤ Z 57 26 ∧ Z 57 26 ≤ 900 := by have hq := GI_ex hG 57 26; replace hq : f57 (26 % 962) (Z 57 26) := hq; unfold f57 at hq; omega
        have b5 : (-2147483648) ≤ Z 57 26 ∧ Z 57 26 ≤ 2147483647 := hG.pr 57 26
        refine JialdI (z := Z 57 26) hx2 (show mx_Sn _ _ 13 (mx_iald 14) from sn_194 13) a57 s57 (by omega) (hf2 57 26 rfl) ?_
        refine Jicmp_ge (show mx_Sn _ _ 14 (mx_icmp_ge 198 17) from sn_194 14) (by omega) (by omega) (fun q6 => ?_) (fun q6 => ?_)
        · skip
          refine mx_J.step (sn_194 198) (fun _ _ => rfl) ?_
          refine JgetR (g := 19) (b := 64) hx2 (show mx_Sn _ _ 199 (mx_getf 12 19 202) from sn_194 199) a56 s56 rfl rfl (hG2.prr 56 19 rfl) ?_
          refine JcI (z := 0) (show mx_Sn _ _ 202 (mx_const (.int 0) 203) from sn_194 202) rfl ?_
          have b8 : (-2147483648) ≤ Z2 64 0 ∧ Z2 64 0 ≤ 2147483647 := hG2.pr 64 0
          refine JialdI (z := Z2 64 0) hx2 (show mx_Sn _ _ 203 (mx_iald 204) from sn_194 203) a64 s64 (by omega) rfl ?_
          have eq9 : Z2 57 22 = Z 57 22 := (hf2 57 22 rfl)
          have b10 : 0 ≤ Z 57 22 ∧ Z 57 22 ≤ 1 := by have hq := GI_ex hG 57 22; replace hq : f57 (22 % 962) (Z 57 22) := hq; unfold f57 at hq; omega
          have b11 : (-2147483648) ≤ Z 57 22 ∧ Z 57 22 ≤ 2147483647 := hG.pr 57 22
          exact mx_J.ret (sn_194 204) (fun _ _ => rfl) (hP (Z2 64 0) Z2 h2 hx2 hG2 (fr_tr (M := [(64, (-1))]) fr_rf (hf2) (M1 := []) rfl rfl) (by omega))
        · skip
          refine mx_J.step (sn_194 17) (fun _ _ => rfl) ?_
          refine JgetR (g := 1) (b := 57) hx2 (show mx_Sn _ _ 18 (mx_getf 12 1 21) from sn_194 18) a56 s56 rfl rfl (hG2.prr 56 1 rfl) ?_
          refine JcI (z := 62) (show mx_Sn _ _ 21 (mx_const (.int 62) 23) from sn_194 21) rfl ?_
          refine mx_J.step (sn_194 23) (fun _ _ => rfl) ?_
          refine JgetR (g := 1) (b := 57) hx2 (show mx_Sn _ _ 24 (mx_getf 12 1 27) from sn_194 24) a56 s56 rfl rfl (hG2.prr 56 1 rfl) ?_
          refine JcI (z := 23) (show mx_Sn _ _ 27 (mx_const (.int 23) 29) from sn_194 27) rfl ?_
          refine mx_J.step (sn_194 29) (fun _ _ => rfl) ?_
          refine JiaddE (r := 24) (show mx_Sn _ _ 30 (mx_iadd 31) from sn_194 30) (by decide) ?_
          have b14 : 0 ≤ Z 57 24 ∧ Z 57 24 ≤ 900 := by have hq := GI_ex hG 57 24; replace hq : f57 (24 % 962) (Z 57 24) := hq; unfold f57 at hq; omega
          have b15 : (-2147483648) ≤ Z 57 24 ∧ Z 57 24 ≤ 2147483647 := hG.pr 57 24
          refine JialdI (z := Z 57 24) hx2 (show mx_Sn _ _ 31 (mx_iald 32) from sn_194 31) a57 s57 (by omega) (hf2 57 24 rfl) ?_
          refine Jiadd (show mx_Sn _ _ 32 (mx_iadd 33) from sn_194 32) ?_
          refine mx_J.step (sn_194 33) (fun _ _ => rfl) ?_
          refine Jiadd (show mx_Sn _ _ 34 (mx_iadd 35) from sn_194 34) ?_
          have b16 := GI_st hG ((62 + (Z 57 24)) + w1_3)
          have b17 : 0 ≤ Z 56 18 ∧ Z 56 18 ≤ 385 := hG.pr 56 18
          have b18 : f57 (((62 + (Z 57 24)) + w1_3) % 962) (Z 57 ((62 + (Z 57 24)) + w1_3)) := GI_ex hG 57 ((62 + (Z 57 24)) + w1_3)
          have b19 : (-2147483648) ≤ Z 57 ((62 + (Z 57 24)) + w1_3) ∧ Z 57 ((62 + (Z 57 24)) + w1_3) ≤ 2147483647 := hG.pr 57 ((62 + (Z 57 24)) + w1_3)
          refine JialdI (z := Z 57 ((62 + (Z 57 24)) + w1_3)) hx2 (show mx_Sn _ _ 35 (mx_iald 36) from sn_194 35) a57 s57 (by omega) (hf2 57 ((62 + (Z 57 24)) + w1_3) rfl) ?_
          refine mx_J.step (ls2 := [some (.ref 56), some (xI 1), some (xI w1_2), some (xI w1_3), some (xI (Z 57 ((62 + (Z 57 24)) + w1_3)))]) (sn_194 36) (fun _ _ => rfl) ?_
          have wl := WF_l1 (GI_wf hG) (k := w1_3) k0 (by omega)
          refine mx_J.step (sn_194 38) (fun _ _ => rfl) ?_
          refine JcI (z := 3000) (show mx_Sn _ _ 40 (mx_const (.int 3000) 43) from sn_194 40) rfl ?_
          have c192 : ∀ (w20_2 : Int) (Z21 : xZ) (h21 : mx_H), 0 ≤ w20_2 ∧ w20_2 ≤ 900 → (w20_2 = dp Z 1 (w1_3 + 1) ∧ 0 ≤ w20_2 ∧ w20_2 ≤ w1_3 + 1) → XH n s S Z21 h21 → GI n S Z21 → fr' [(64, (-1))] Z2 Z21 → mx_J (tB l D b0 ad Hb tau) mt_194 (d + 1) 192 [some (.ref 56), some (xI 1), some (xI w20_2), some (xI w1_3), some (xI (Z 57 ((62 + (Z 57 24)) + w1_3)))] [] h21 Post := by
            intro w20_2 Z21 h21 f20_0 f20_1 hx21 hG21 hf21
            refine Jiinc (z := w1_3) (cz := 1) (ls2 := [some (.ref 56), some (xI 1), some (xI w20_2), some (xI (w1_3 + 1)), some (xI (Z 57 ((62 + (Z 57 24)) + w1_3)))]) (show mx_Sn _ _ 192 (mx_iinc 3 1 195) from sn_194 192) rfl rfl rfl rfl ?_
            refine mx_J.step (sn_194 195) (fun _ _ => rfl) ?_
            exact ih1 w20_2 (w1_3 + 1) (some (xI (Z 57 ((62 + (Z 57 24)) + w1_3)))) Z21 h21 (by omega) (by omega) (by omega) (by first | exact ⟨dp_01.symm, by omega, by omega, by omega⟩ | omega) hx21 hG21 (fr_tr (M := [(64, (-1))]) (fr_tr (M := [(64, (-1))]) fr_rf (hf2) (M1 := []) rfl rfl) (hf21) rfl rfl)
          refine Jicmp_ge (show mx_Sn _ _ 43 (mx_icmp_ge 82 46) from sn_194 43) (by omega) (by omega) (fun q22 => ?_) (fun q22 => ?_)
          · skip
            refine mx_J.step (sn_194 82) (fun _ _ => rfl) ?_
            refine JcI (z := 3006) (show mx_Sn _ _ 84 (mx_const (.int 3006) 87) from sn_194 84) rfl ?_
            refine Jicmp_ne (show mx_Sn _ _ 87 (mx_icmp_ne 111 90) from sn_194 87) (by omega) (by omega) (fun q23 => ?_) (fun q23 => ?_)
            · skip
              refine mx_J.step (sn_194 111) (fun _ _ => rfl) ?_
              refine JcI (z := 3009) (show mx_Sn _ _ 113 (mx_const (.int 3009) 116) from sn_194 113) rfl ?_
              refine Jicmp_ne (show mx_Sn _ _ 116 (mx_icmp_ne 162 119) from sn_194 116) (by omega) (by omega) (fun q24 => ?_) (fun q24 => ?_)
              · skip
                refine Jiinc (z := w1_2) (cz := (-1)) (ls2 := [some (.ref 56), some (xI 1), some (xI (w1_2 + (-1))), some (xI w1_3), some (xI (Z 57 ((62 + (Z 57 24)) + w1_3)))]) (show mx_Sn _ _ 162 (mx_iinc 2 (-1) 165) from sn_194 162) rfl rfl rfl rfl ?_
                refine mx_J.step (sn_194 165) (fun _ _ => rfl) ?_
                refine JgetR (g := 19) (b := 64) hx2 (show mx_Sn _ _ 166 (mx_getf 12 19 169) from sn_194 166) a56 s56 rfl rfl (hG2.prr 56 19 rfl) ?_
                refine mx_J.step (sn_194 169) (fun _ _ => rfl) ?_
                refine JcI (z := 1) (show mx_Sn _ _ 170 (mx_const (.int 1) 171) from sn_194 170) rfl ?_
                refine Jisub (show mx_Sn _ _ 171 (mx_isub 172) from sn_194 171) ?_
                refine mx_J.step (sn_194 172) (fun _ _ => rfl) ?_
                refine mx_J.step (sn_194 174) (fun _ _ => rfl) ?_
                refine JgetR (g := 19) (b := 64) hx2 (show mx_Sn _ _ 175 (mx_getf 12 19 178) from sn_194 175) a56 s56 rfl rfl (hG2.prr 56 19 rfl) ?_
                refine mx_J.step (sn_194 178) (fun _ _ => rfl) ?_
                refine JcI (z := 1) (show mx_Sn _ _ 179 (mx_const (.int 1) 180) from sn_194 179) rfl ?_
                refine Jisub (show mx_Sn _ _ 180 (mx_isub 181) from sn_194 180) ?_
                have b27 : (-2147483648) ≤ Z2 64 ((w1_2 + (-1)) - 1) ∧ Z2 64 ((w1_2 + (-1)) - 1) ≤ 2147483647 := hG2.pr 64 ((w1_2 + (-1)) - 1)
                refine JialdI (z := Z2 64 ((w1_2 + (-1)) - 1)) hx2 (show mx_Sn _ _ 181 (mx_iald 182) from sn_194 181) a64 s64 (by omega) rfl ?_
                refine mx_J.step (sn_194 182) (fun _ _ => rfl) ?_
                refine JgetR (g := 19) (b := 64) hx2 (show mx_Sn _ _ 183 (mx_getf 12 19 186) from sn_194 183) a56 s56 rfl rfl (hG2.prr 56 19 rfl) ?_
                refine mx_J.step (sn_194 186) (fun _ _ => rfl) ?_
                have b29 : (-2147483648) ≤ Z2 64 (w1_2 + (-1)) ∧ Z2 64 (w1_2 + (-1)) ≤ 2147483647 := hG2.pr 64 (w1_2 + (-1))
                refine JialdI (z := Z2 64 (w1_2 + (-1))) hx2 (show mx_Sn _ _ 187 (mx_iald 188) from sn_194 187) a64 s64 (by omega) rfl ?_
                obtain ⟨z30, hc30, b30⟩ := ct_193_ (d := d + 0) (l := l) (D := D) (b0 := b0) (ad := ad) (Hb := Hb) (tau := tau) hx2 hG2 (show (-2147483648) ≤ Z 57 ((62 + (Z 57 24)) + w1_3) ∧ Z 57 ((62 + (Z 57 24)) + w1_3) ≤ 2147483647 by omega) (show (-2147483648) ≤ Z2 64 ((w1_2 + (-1)) - 1) ∧ Z2 64 ((w1_2 + (-1)) - 1) ≤ 2147483647 by omega) (show (-2147483648) ≤ Z2 64 (w1_2 + (-1)) ∧ Z2 64 (w1_2 + (-1)) ≤ 2147483647 by omega)
                refine Jcs (show mx_Sn _ _ 188 (mx_calls 193 3 191) from sn_194 188) hc30 rfl rfl rfl ?_
                refine JiastI hx2 (show mx_Sn _ _ 191 (mx_iast 1 192) from sn_194 191) a64 s64 rfl (by omega) (fun Z31 h31 hx31 hE31 => ?_)
                have hG31 := GI_up hG2 hE31 (show (-2147483648) ≤ z30 ∧ z30 ≤ 2147483647 by omega) trivial rfl
                exact c192 (w1_2 + (-1)) Z31 h31 (by omega) (by omega) hx31 hG31 (fr_tr (M := [(64, (-1))]) fr_rf (fr_ua hE31) (M1 := []) rfl rfl)
              · skip
                refine Jiinc (z := w1_2) (cz := (-2)) (ls2 := [some (.ref 56), some (xI 1), some (xI (w1_2 + (-2))), some (xI w1_3), some (xI (Z 57 ((62 + (Z 57 24)) + w1_3)))]) (show mx_Sn _ _ 119 (mx_iinc 2 (-2) 122) from sn_194 119) rfl rfl rfl rfl ?_
                refine mx_J.step (sn_194 122) (fun _ _ => rfl) ?_
                refine JgetR (g := 19) (b := 64) hx2 (show mx_Sn _ _ 123 (mx_getf 12 19 126) from sn_194 123) a56 s56 rfl rfl (hG2.prr 56 19 rfl) ?_
                refine mx_J.step (sn_194 126) (fun _ _ => rfl) ?_
                refine JcI (z := 1) (show mx_Sn _ _ 127 (mx_const (.int 1) 128) from sn_194 127) rfl ?_
                refine Jisub (show mx_Sn _ _ 128 (mx_isub 129) from sn_194 128) ?_
                refine mx_J.step (sn_194 129) (fun _ _ => rfl) ?_
                refine JgetR (g := 19) (b := 64) hx2 (show mx_Sn _ _ 130 (mx_getf 12 19 133) from sn_194 130) a56 s56 rfl rfl (hG2.prr 56 19 rfl) ?_
                refine mx_J.step (sn_194 133) (fun _ _ => rfl) ?_
                refine JcI (z := 1) (show mx_Sn _ _ 134 (mx_const (.int 1) 135) from sn_194 134) rfl ?_
                refine Jisub (show mx_Sn _ _ 135 (mx_isub 136) from sn_194 135) ?_
                have b34 : (-2147483648) ≤ Z2 64 ((w1_2 + (-2)) - 1) ∧ Z2 64 ((w1_2 + (-2)) - 1) ≤ 2147483647 := hG2.pr 64 ((w1_2 + (-2)) - 1)
                refine JialdI (z := Z2 64 ((w1_2 + (-2)) - 1)) hx2 (show mx_Sn _ _ 136 (mx_iald 137) from sn_194 136) a64 s64 (by omega) rfl ?_
                refine JcI (z := 1) (show mx_Sn _ _ 137 (mx_const (.int 1) 138) from sn_194 137) rfl ?_
                have c158 : ∀ (k35_2 : Int), (-2147483648) ≤ k35_2 ∧ k35_2 ≤ 2147483647 → mx_J (tB l D b0 ad Hb tau) mt_194 (d + 1) 158 [some (.ref 56), some (xI 1), some (xI (w1_2 + (-2))), some (xI w1_3), some (xI (Z 57 ((62 + (Z 57 24)) + w1_3)))] [xI k35_2, xI ((w1_2 + (-2)) - 1), .ref 64] h2 Post := by
                  intro k35_2 f35_0
                  refine JiastI hx2 (show mx_Sn _ _ 158 (mx_iast 1 159) from sn_194 158) a64 s64 rfl (by omega) (fun Z36 h36 hx36 hE36 => ?_)
                  have hG36 := GI_up hG2 hE36 (show (-2147483648) ≤ k35_2 ∧ k35_2 ≤ 2147483647 by omega) trivial rfl
                  refine mx_J.step (sn_194 159) (fun _ _ => rfl) ?_
                  exact c192 (w1_2 + (-2)) Z36 h36 (by omega) (by omega) hx36 hG36 (fr_tr (M := [(64, (-1))]) fr_rf (fr_ua hE36) (M1 := []) rfl rfl)
                refine Jicmp_ne (show mx_Sn _ _ 138 (mx_icmp_ne 150 141) from sn_194 138) (by omega) (by omega) (fun q37 => ?_) (fun q37 => ?_)
                · skip
                  refine mx_J.step (sn_194 150) (fun _ _ => rfl) ?_
                  refine JgetR (g := 19) (b := 64) hx2 (show mx_Sn _ _ 151 (mx_getf 12 19 154) from sn_194 151) a56 s56 rfl rfl (hG2.prr 56 19 rfl) ?_
                  refine mx_J.step (sn_194 154) (fun _ _ => rfl) ?_
                  refine JcI (z := 1) (show mx_Sn _ _ 155 (mx_const (.int 1) 156) from sn_194 155) rfl ?_
                  refine Jiadd (show mx_Sn _ _ 156 (mx_iadd 157) from sn_194 156) ?_
                  have b39 : (-2147483648) ≤ Z2 64 ((w1_2 + (-2)) + 1) ∧ Z2 64 ((w1_2 + (-2)) + 1) ≤ 2147483647 := hG2.pr 64 ((w1_2 + (-2)) + 1)
                  refine JialdI (z := Z2 64 ((w1_2 + (-2)) + 1)) hx2 (show mx_Sn _ _ 157 (mx_iald 158) from sn_194 157) a64 s64 (by omega) rfl ?_
                  exact c158 (Z2 64 ((w1_2 + (-2)) + 1)) (by omega)
                · skip
                  refine mx_J.step (sn_194 141) (fun _ _ => rfl) ?_
                  refine JgetR (g := 19) (b := 64) hx2 (show mx_Sn _ _ 142 (mx_getf 12 19 145) from sn_194 142) a56 s56 rfl rfl (hG2.prr 56 19 rfl) ?_
                  refine mx_J.step (sn_194 145) (fun _ _ => rfl) ?_
                  have b41 : (-2147483648) ≤ Z2 64 (w1_2 + (-2)) ∧ Z2 64 (w1_2 + (-2)) ≤ 2147483647 := hG2.pr 64 (w1_2 + (-2))
                  refine JialdI (z := Z2 64 (w1_2 + (-2))) hx2 (show mx_Sn _ _ 146 (mx_iald 147) from sn_194 146) a64 s64 (by omega) rfl ?_
                  refine mx_J.step (sn_194 147) (fun _ _ => rfl) ?_
                  exact c158 (Z2 64 (w1_2 + (-2))) (by omega)
            · skip
              refine mx_J.step (sn_194 90) (fun _ _ => rfl) ?_
              refine JgetR (g := 19) (b := 64) hx2 (show mx_Sn _ _ 91 (mx_getf 12 19 94) from sn_194 91) a56 s56 rfl rfl (hG2.prr 56 19 rfl) ?_
              refine mx_J.step (sn_194 94) (fun _ _ => rfl) ?_
              refine JcI (z := 1) (show mx_Sn _ _ 95 (mx_const (.int 1) 96) from sn_194 95) rfl ?_
              refine Jisub (show mx_Sn _ _ 96 (mx_isub 97) from sn_194 96) ?_
              refine JcI (z := 1) (show mx_Sn _ _ 97 (mx_const (.int 1) 98) from sn_194 97) rfl ?_
              refine mx_J.step (sn_194 98) (fun _ _ => rfl) ?_
              refine JgetR (g := 19) (b := 64) hx2 (show mx_Sn _ _ 99 (mx_getf 12 19 102) from sn_194 99) a56 s56 rfl rfl (hG2.prr 56 19 rfl) ?_
              refine mx_J.step (sn_194 102) (fun _ _ => rfl) ?_
              refine JcI (z := 1) (show mx_Sn _ _ 103 (mx_const (.int 1) 104) from sn_194 103) rfl ?_
              refine Jisub (show mx_Sn _ _ 104 (mx_isub 105) from sn_194 104) ?_
              have b44 : (-2147483648) ≤ Z2 64 (w1_2 - 1) ∧ Z2 64 (w1_2 - 1) ≤ 2147483647 := hG2.pr 64 (w1_2 - 1)
              refine JialdI (z := Z2 64 (w1_2 - 1)) hx2 (show mx_Sn _ _ 105 (mx_iald 106) from sn_194 105) a64 s64 (by omega) rfl ?_
              refine JisubN (show mx_Sn _ _ 106 (mx_isub 107) from sn_194 106) (fun y45 hy45 hq45 => ?_)
              refine JiastI hx2 (show mx_Sn _ _ 107 (mx_iast 1 108) from sn_194 107) a64 s64 rfl (by omega) (fun Z46 h46 hx46 hE46 => ?_)
              have hG46 := GI_up hG2 hE46 (show (-2147483648) ≤ y45 ∧ y45 ≤ 2147483647 by omega) trivial rfl
              refine mx_J.step (sn_194 108) (fun _ _ => rfl) ?_
              exact c192 w1_2 Z46 h46 (by omega) (by omega) hx46 hG46 (fr_tr (M := [(64, (-1))]) fr_rf (fr_ua hE46) (M1 := []) rfl rfl)
          · skip
            refine mx_J.step (sn_194 46) (fun _ _ => rfl) ?_
            refine JgetR (g := 19) (b := 64) hx2 (show mx_Sn _ _ 47 (mx_getf 12 19 50) from sn_194 47) a56 s56 rfl rfl (hG2.prr 56 19 rfl) ?_
            refine mx_J.step (sn_194 50) (fun _ _ => rfl) ?_
            refine mx_J.step (sn_194 51) (fun _ _ => rfl) ?_
            refine JcI (z := 1000) (show mx_Sn _ _ 53 (mx_const (.int 1000) 56) from sn_194 53) rfl ?_
            have c75 : ∀ (k48_2 : Int), (-2147483648) ≤ k48_2 ∧ k48_2 ≤ 2147483647 → mx_J (tB l D b0 ad Hb tau) mt_194 (d + 1) 75 [some (.ref 56), some (xI 1), some (xI w1_2), some (xI w1_3), some (xI (Z 57 ((62 + (Z 57 24)) + w1_3)))] [xI k48_2, xI w1_2, .ref 64] h2 Post := by
              intro k48_2 f48_0
              refine JiastI hx2 (show mx_Sn _ _ 75 (mx_iast 1 76) from sn_194 75) a64 s64 rfl (by omega) (fun Z49 h49 hx49 hE49 => ?_)
              have hG49 := GI_up hG2 hE49 (show (-2147483648) ≤ k48_2 ∧ k48_2 ≤ 2147483647 by omega) trivial rfl
              refine Jiinc (z := w1_2) (cz := 1) (ls2 := [some (.ref 56), some (xI 1), some (xI (w1_2 + 1)), some (xI w1_3), some (xI (Z 57 ((62 + (Z 57 24)) + w1_3)))]) (show mx_Sn _ _ 76 (mx_iinc 2 1 79) from sn_194 76) rfl rfl rfl rfl ?_
              refine mx_J.step (sn_194 79) (fun _ _ => rfl) ?_
              exact c192 (w1_2 + 1) Z49 h49 (by omega) (by omega) hx49 hG49 (fr_tr (M := [(64, (-1))]) fr_rf (fr_ua hE49) (M1 := []) rfl rfl)
            refine Jicmp_ge (show mx_Sn _ _ 56 (mx_icmp_ge 64 59) from sn_194 56) (by omega) (by omega) (fun q50 => ?_) (fun q50 => ?_)
            · skip
              refine mx_J.step (sn_194 64) (fun _ _ => rfl) ?_
              refine JgetR (g := 20) (b := 65) hx2 (show mx_Sn _ _ 65 (mx_getf 12 20 68) from sn_194 65) a56 s56 rfl rfl (hG2.prr 56 20 rfl) ?_
              refine mx_J.step (sn_194 68) (fun _ _ => rfl) ?_
              refine JcI (z := 1000) (show mx_Sn _ _ 70 (mx_const (.int 1000) 73) from sn_194 70) rfl ?_
              refine Jisub (show mx_Sn _ _ 73 (mx_isub 74) from sn_194 73) ?_
              have b52 : (-2147483648) ≤ Z 65 ((Z 57 ((62 + (Z 57 24)) + w1_3)) - 1000) ∧ Z 65 ((Z 57 ((62 + (Z 57 24)) + w1_3)) - 1000) ≤ 2147483647 := hG.pr 65 ((Z 57 ((62 + (Z 57 24)) + w1_3)) - 1000)
              refine JialdI (z := Z 65 ((Z 57 ((62 + (Z 57 24)) + w1_3)) - 1000)) hx2 (show mx_Sn _ _ 74 (mx_iald 75) from sn_194 74) a65 s65 (by omega) (hf2 65 ((Z 57 ((62 + (Z 57 24)) + w1_3)) - 1000) rfl) ?_
              exact c75 (Z 65 ((Z 57 ((62 + (Z 57 24)) + w1_3)) - 1000)) (by omega)
            · skip
              refine mx_J.step (sn_194 59) (fun _ _ => rfl) ?_
              refine mx_J.step (sn_194 61) (fun _ _ => rfl) ?_
              exact c75 (Z 57 ((62 + (Z 57 24)) + w1_3)) (by omega)
    exact c4 (Int.toNat (900 - 0) + 1) 0 0 none Z h (by omega) (by omega) (by omega) (by first | exact ⟨dp_01.symm, by omega, by omega, by omega⟩ | omega) hx hG fr_rf
theorem ct_194_56_i1 {l : Launch} {D : va_G} {b0 : Nat} {ad : Nat → Nat} {Hb : Heap} {tau : Nat → Int64} {d n s : Nat} {S : Nat → xS} {Z : xZ} {h : mx_H} (hx : XH n s S Z h) (hG : GI n S Z)   (k0 : Z 57 22 = 1) : ∃ (z : Int) (Z' : xZ) (h' : mx_H), mx_Ca (tB l D b0 ad Hb tau) (d + 2) 194 [.ref 56, xI 1] h (some (xI z), h') ∧ XH n s S Z' h' ∧ GI n S Z' ∧ fr' [(64, (-1))] Z Z' ∧ ((-2147483648) ≤ z ∧ z ≤ 2147483647) := by
  obtain ⟨r, hca, z, Z', h', e, q⟩ := Jmt (B := tB l D b0 ad Hb tau) (M := mt_194) (mi := 194) (as := [.ref 56, xI 1]) (d := d + 1) (ls := [some (.ref 56), some (xI 1), none, none, none]) rfl rfl rfl rfl rfl rfl (cw_194_56_i1 (l := l) (D := D) (b0 := b0) (ad := ad) (Hb := Hb) (tau := tau) (d := d) (Post := fun r => ∃ (z : Int) (Z' : xZ) (h' : mx_H), r = (some (xI z), h') ∧ XH n s S Z' h' ∧ GI n S Z' ∧ fr' [(64, (-1))] Z Z' ∧ ((-2147483648) ≤ z ∧ z ≤ 2147483647)) hx hG k0 (fun z Z' h' q1 q2 q3 q4 => ⟨z, Z', h', rfl, q1, q2, q3, q4⟩))
  subst e; exact ⟨z, Z', h', hca, q⟩
set_option maxRecDepth 100000 in
theorem cw_195_56 {l : Launch} {D : va_G} {b0 : Nat} {ad : Nat → Nat} {Hb : Heap} {tau : Nat → Int64} {d n s : Nat} {S : Nat → xS} {Z : xZ} {h : mx_H} {Post : mx_R → Prop} (hx : XH n s S Z h) (hG : GI n S Z)  {x0 x1 x2 : Int} (p0 : 0 ≤ x0 ∧ x0 ≤ 384) (p1 : 0 ≤ x1 ∧ x1 ≤ 17) (p2 : 0 ≤ x2 ∧ x2 ≤ 9) (hP : ∀ (z : Int) (Z' : xZ) (h' : mx_H), XH n s S Z' h' → GI n S Z' → fr' [(64, (-1)), (65, (-1))] Z Z' → 0 ≤ z ∧ z ≤ 18 → Post (some (xI z), h')) : mx_J (tB l D b0 ad Hb tau) mt_195 (d + 2) 0 [some (.ref 56), some (xI x0), some (xI x1), some (xI x2), none] [] h Post := by
    have a56 : 56 < n := lt83 (GI_n hG) rfl
    have s56 : S 56 = .inl (12, [0, 2, 2, 2, 2, 0, 0, 0, 0, 0, 0, 0, 0, 0, 0, 2, 2, 2, 0, 2, 2, 2, 0, 0, 2, 2, 2, 2, 2, 2, 0, 0, 2, 2, 2, 2, 2, 2, 2, 2, 2, 2]) := GI_s hG 56 rfl
    have a57 : 57 < n := lt83 (GI_n hG) rfl
    have s57 : S 57 = .inr (.int, 2886, 0) := GI_s hG 57 rfl
    have a65 : 65 < n := lt83 (GI_n hG) rfl
    have s65 : S 65 = .inr (.int, 5, 0) := GI_s hG 65 rfl
    refine mx_J.step (sn_195 0) (fun _ _ => rfl) ?_
    refine JgetR (g := 20) (b := 65) hx (show mx_Sn _ _ 1 (mx_getf 12 20 4) from sn_195 1) a56 s56 rfl rfl (hG.prr 56 20 rfl) ?_
    refine JcI (z := 0) (show mx_Sn _ _ 4 (mx_const (.int 0) 5) from sn_195 4) rfl ?_
    refine mx_J.step (sn_195 5) (fun _ _ => rfl) ?_
    refine mx_J.step (sn_195 6) (fun _ _ => rfl) ?_
    refine mx_J.step (sn_195 7) (fun _ _ => rfl) ?_
    have b3 : 0 ≤ Z 61 (18 * x0 + x1) ∧ Z 61 (18 * x0 + x1) ≤ 18 := hG.pr 61 (18 * x0 + x1)
    obtain ⟨z2, hc2, b2⟩ := ct_190_56 (d := d + 1) (l := l) (D := D) (b0 := b0) (ad := ad) (Hb := Hb) (tau := tau) hx hG (show 0 ≤ x0 ∧ x0 ≤ 384 by omega) (show 0 ≤ x1 ∧ x1 ≤ 17 by omega)
    refine Jcv hx (show mx_Sn _ _ 8 (mx_callv 190 3 12 11) from sn_195 8) a56 s56 hc2 rfl rfl rfl ?_
    refine JiastI hx (show mx_Sn _ _ 11 (mx_iast 1 12) from sn_195 11) a65 s65 rfl (by omega) (fun Z4 h4 hx4 hE4 => ?_)
    have hG4 := GI_up hG hE4 (show (-2147483648) ≤ z2 ∧ z2 ≤ 2147483647 by omega) trivial rfl
    refine mx_J.step (sn_195 12) (fun _ _ => rfl) ?_
    refine JgetR (g := 20) (b := 65) hx4 (show mx_Sn _ _ 13 (mx_getf 12 20 16) from sn_195 13) a56 s56 rfl rfl (hG4.prr 56 20 rfl) ?_
    refine JcI (z := 1) (show mx_Sn _ _ 16 (mx_const (.int 1) 17) from sn_195 16) rfl ?_
    refine mx_J.step (sn_195 17) (fun _ _ => rfl) ?_
    refine JiastI hx4 (show mx_Sn _ _ 18 (mx_iast 1 19) from sn_195 18) a65 s65 rfl (by omega) (fun Z6 h6 hx6 hE6 => ?_)
    have hG6 := GI_up hG4 hE6 (show (-2147483648) ≤ x1 ∧ x1 ≤ 2147483647 by omega) trivial rfl
    refine mx_J.step (sn_195 19) (fun _ _ => rfl) ?_
    refine JgetR (g := 20) (b := 65) hx6 (show mx_Sn _ _ 20 (mx_getf 12 20 23) from sn_195 20) a56 s56 rfl rfl (hG6.prr 56 20 rfl) ?_
    refine JcI (z := 2) (show mx_Sn _ _ 23 (mx_const (.int 2) 24) from sn_195 23) rfl ?_
    refine mx_J.step (sn_195 24) (fun _ _ => rfl) ?_
    refine mx_J.step (sn_195 25) (fun _ _ => rfl) ?_
    have eq9 : mn Z6 x0 = mn Z x0 := ((mn_c (fun i => up_nk hE6 rfl)).trans (mn_c (fun i => up_nk hE4 rfl)))
    obtain ⟨z8, hc8, b8⟩ := ct_191_56 (d := d + 0) (l := l) (D := D) (b0 := b0) (ad := ad) (Hb := Hb) (tau := tau) hx6 hG6 (show 0 ≤ x0 ∧ x0 ≤ 384 by omega)
    refine Jcv hx6 (show mx_Sn _ _ 26 (mx_callv 191 2 12 29) from sn_195 26) a56 s56 hc8 rfl rfl rfl ?_
    refine JiastI hx6 (show mx_Sn _ _ 29 (mx_iast 1 30) from sn_195 29) a65 s65 rfl (by omega) (fun Z10 h10 hx10 hE10 => ?_)
    have hG10 := GI_up hG6 hE10 (show (-2147483648) ≤ z8 ∧ z8 ≤ 2147483647 by omega) trivial rfl
    refine mx_J.step (sn_195 30) (fun _ _ => rfl) ?_
    refine JgetR (g := 20) (b := 65) hx10 (show mx_Sn _ _ 31 (mx_getf 12 20 34) from sn_195 31) a56 s56 rfl rfl (hG10.prr 56 20 rfl) ?_
    refine JcI (z := 3) (show mx_Sn _ _ 34 (mx_const (.int 3) 35) from sn_195 34) rfl ?_
    refine mx_J.step (sn_195 35) (fun _ _ => rfl) ?_
    refine JgetR (g := 1) (b := 57) hx10 (show mx_Sn _ _ 36 (mx_getf 12 1 39) from sn_195 36) a56 s56 rfl rfl (hG10.prr 56 1 rfl) ?_
    refine JcI (z := 1) (show mx_Sn _ _ 39 (mx_const (.int 1) 40) from sn_195 39) rfl ?_
    have b13 : 0 ≤ Z 57 1 ∧ Z 57 1 ≤ 18 := by have hq := GI_ex hG 57 1; replace hq : f57 (1 % 962) (Z 57 1) := hq; unfold f57 at hq; omega
    have b14 : (-2147483648) ≤ Z 57 1 ∧ Z 57 1 ≤ 2147483647 := hG.pr 57 1
    refine JialdI (z := Z 57 1) hx10 (show mx_Sn _ _ 40 (mx_iald 41) from sn_195 40) a57 s57 (by omega) ((up_nk hE10 rfl).trans ((up_nk hE6 rfl).trans (up_nk hE4 rfl))) ?_
    refine JiastI hx10 (show mx_Sn _ _ 41 (mx_iast 1 42) from sn_195 41) a65 s65 rfl (by omega) (fun Z15 h15 hx15 hE15 => ?_)
    have hG15 := GI_up hG10 hE15 (show (-2147483648) ≤ Z 57 1 ∧ Z 57 1 ≤ 2147483647 by omega) trivial rfl
    refine mx_J.step (sn_195 42) (fun _ _ => rfl) ?_
    refine JgetR (g := 20) (b := 65) hx15 (show mx_Sn _ _ 43 (mx_getf 12 20 46) from sn_195 43) a56 s56 rfl rfl (hG15.prr 56 20 rfl) ?_
    refine JcI (z := 4) (show mx_Sn _ _ 46 (mx_const (.int 4) 47) from sn_195 46) rfl ?_
    refine mx_J.step (sn_195 47) (fun _ _ => rfl) ?_
    refine JiastI hx15 (show mx_Sn _ _ 48 (mx_iast 1 49) from sn_195 48) a65 s65 rfl (by omega) (fun Z17 h17 hx17 hE17 => ?_)
    have hG17 := GI_up hG15 hE17 (show (-2147483648) ≤ x2 ∧ x2 ≤ 2147483647 by omega) trivial rfl
    refine mx_J.step (sn_195 49) (fun _ _ => rfl) ?_
    refine JgetR (g := 1) (b := 57) hx17 (show mx_Sn _ _ 50 (mx_getf 12 1 53) from sn_195 50) a56 s56 rfl rfl (hG17.prr 56 1 rfl) ?_
    refine JcI (z := 22) (show mx_Sn _ _ 53 (mx_const (.int 22) 55) from sn_195 53) rfl ?_
    have b19 : 0 ≤ Z 57 22 ∧ Z 57 22 ≤ 1 := by have hq := GI_ex hG 57 22; replace hq : f57 (22 % 962) (Z 57 22) := hq; unfold f57 at hq; omega
    have b20 : (-2147483648) ≤ Z 57 22 ∧ Z 57 22 ≤ 2147483647 := hG.pr 57 22
    refine JialdI (z := Z 57 22) hx17 (show mx_Sn _ _ 55 (mx_iald 56) from sn_195 55) a57 s57 (by omega) ((up_nk hE17 rfl).trans ((up_nk hE15 rfl).trans ((up_nk hE10 rfl).trans ((up_nk hE6 rfl).trans (up_nk hE4 rfl))))) ?_
    refine JcI (z := 1) (show mx_Sn _ _ 56 (mx_const (.int 1) 57) from sn_195 56) rfl ?_
    have c70 : ∀  (Z22 : xZ) (h22 : mx_H), XH n s S Z22 h22 → GI n S Z22 → fr' [(64, (-1))] Z17 Z22 → mx_J (tB l D b0 ad Hb tau) mt_195 (d + 2) 70 [some (.ref 56), some (xI x0), some (xI x1), some (xI x2), none] [] h22 Post := by
      intro Z22 h22 hx22 hG22 hf22
      refine mx_J.step (sn_195 70) (fun _ _ => rfl) ?_
      refine JgetR (g := 1) (b := 57) hx22 (show mx_Sn _ _ 71 (mx_getf 12 1 74) from sn_195 71) a56 s56 rfl rfl (hG22.prr 56 1 rfl) ?_
      refine JcI (z := 21) (show mx_Sn _ _ 74 (mx_const (.int 21) 76) from sn_195 74) rfl ?_
      have b24 : 0 ≤ Z 57 21 ∧ Z 57 21 ≤ 1 := by have hq := GI_ex hG 57 21; replace hq : f57 (21 % 962) (Z 57 21) := hq; unfold f57 at hq; omega
      have b25 : (-2147483648) ≤ Z 57 21 ∧ Z 57 21 ≤ 2147483647 := hG.pr 57 21
      refine JialdI (z := Z 57 21) hx22 (show mx_Sn _ _ 76 (mx_iald 77) from sn_195 76) a57 s57 (by omega) ((hf22 57 21 rfl).trans ((up_nk hE17 rfl).trans ((up_nk hE15 rfl).trans ((up_nk hE10 rfl).trans ((up_nk hE6 rfl).trans (up_nk hE4 rfl)))))) ?_
      refine JcI (z := 1) (show mx_Sn _ _ 77 (mx_const (.int 1) 78) from sn_195 77) rfl ?_
      have c90 : ∀ (k26_0 : Int) (Z27 : xZ) (h27 : mx_H), (-2147483648) ≤ k26_0 ∧ k26_0 ≤ 2147483647 → XH n s S Z27 h27 → GI n S Z27 → fr' [(64, (-1))] Z22 Z27 → mx_J (tB l D b0 ad Hb tau) mt_195 (d + 2) 90 [some (.ref 56), some (xI x0), some (xI x1), some (xI x2), none] [xI k26_0] h27 Post := by
        intro k26_0 Z27 h27 f26_0 hx27 hG27 hf27
        refine mx_J.step (ls2 := [some (.ref 56), some (xI x0), some (xI x1), some (xI x2), some (xI k26_0)]) (sn_195 90) (fun _ _ => rfl) ?_
        refine mx_J.step (sn_195 92) (fun _ _ => rfl) ?_
        have c123 : ∀ (k28_0 : Int), 0 ≤ k28_0 ∧ k28_0 ≤ 18 → mx_J (tB l D b0 ad Hb tau) mt_195 (d + 2) 123 [some (.ref 56), some (xI x0), some (xI x1), some (xI x2), some (xI k26_0)] [xI k28_0] h27 Post := by
          intro k28_0 f28_0
          exact mx_J.ret (sn_195 123) (fun _ _ => rfl) (hP k28_0 Z27 h27 hx27 hG27 (fr_tr (M := [(64, (-1)), (65, (-1))]) (fr_tr (M := [(64, (-1)), (65, (-1))]) (fr_tr (M := [(64, (-1)), (65, (-1))]) (fr_tr (M := [(64, (-1)), (65, (-1))]) (fr_tr (M := [(64, (-1)), (65, (-1))]) (fr_tr (M := [(64, (-1)), (65, (-1))]) (fr_tr (M := [(64, (-1)), (65, (-1))]) fr_rf (fr_ua hE4) (M1 := []) rfl rfl) (fr_ua hE6) rfl rfl) (fr_ua hE10) rfl rfl) (fr_ua hE15) rfl rfl) (fr_ua hE17) rfl rfl) (hf22) rfl rfl) (hf27) rfl rfl) (by omega))
        refine Jif_ge (show mx_Sn _ _ 94 (mx_if_ge 101 97) from sn_195 94) (by omega) (fun q29 => ?_) (fun q29 => ?_)
        · skip
          refine mx_J.step (sn_195 101) (fun _ _ => rfl) ?_
          refine mx_J.step (sn_195 103) (fun _ _ => rfl) ?_
          refine JgetR (g := 20) (b := 65) hx27 (show mx_Sn _ _ 104 (mx_getf 12 20 107) from sn_195 104) a56 s56 rfl rfl (hG27.prr 56 20 rfl) ?_
          refine JcI (z := 0) (show mx_Sn _ _ 107 (mx_const (.int 0) 108) from sn_195 107) rfl ?_
          refine JialdI (z := z2) hx27 (show mx_Sn _ _ 108 (mx_iald 109) from sn_195 108) a65 s65 (by omega) ((hf27 65 0 rfl).trans ((hf22 65 0 rfl).trans ((up_ni hE17 (by decide)).trans ((up_ni hE15 (by decide)).trans ((up_ni hE10 (by decide)).trans ((up_ni hE6 (by decide)).trans (up_at hE4))))))) ?_
          refine Jicmp_le (show mx_Sn _ _ 109 (mx_icmp_le 121 112) from sn_195 109) (by omega) (by omega) (fun q31 => ?_) (fun q31 => ?_)
          · skip
            refine mx_J.step (sn_195 121) (fun _ _ => rfl) ?_
            exact c123 k26_0 (by omega)
          · skip
            refine mx_J.step (sn_195 112) (fun _ _ => rfl) ?_
            refine JgetR (g := 20) (b := 65) hx27 (show mx_Sn _ _ 113 (mx_getf 12 20 116) from sn_195 113) a56 s56 rfl rfl (hG27.prr 56 20 rfl) ?_
            refine JcI (z := 0) (show mx_Sn _ _ 116 (mx_const (.int 0) 117) from sn_195 116) rfl ?_
            refine JialdI (z := z2) hx27 (show mx_Sn _ _ 117 (mx_iald 118) from sn_195 117) a65 s65 (by omega) ((hf27 65 0 rfl).trans ((hf22 65 0 rfl).trans ((up_ni hE17 (by decide)).trans ((up_ni hE15 (by decide)).trans ((up_ni hE10 (by decide)).trans ((up_ni hE6 (by decide)).trans (up_at hE4))))))) ?_
            refine mx_J.step (sn_195 118) (fun _ _ => rfl) ?_
            exact c123 z2 (by omega)
        · skip
          refine JcI (z := 0) (show mx_Sn _ _ 97 (mx_const (.int 0) 98) from sn_195 97) rfl ?_
          refine mx_J.step (sn_195 98) (fun _ _ => rfl) ?_
          exact c123 0 (by omega)
      refine Jicmp_ne (show mx_Sn _ _ 78 (mx_icmp_ne 89 81) from sn_195 78) (by omega) (by omega) (fun q33 => ?_) (fun q33 => ?_)
      · skip
        refine JcI (z := 1) (show mx_Sn _ _ 89 (mx_const (.int 1) 90) from sn_195 89) rfl ?_
        exact c90 1 Z22 h22 (by omega) hx22 hG22 fr_rf
      · skip
        refine mx_J.step (sn_195 81) (fun _ _ => rfl) ?_
        refine JcI (z := 0) (show mx_Sn _ _ 82 (mx_const (.int 0) 83) from sn_195 82) rfl ?_
        have eq35 : Z22 57 21 = Z 57 21 := ((hf22 57 21 rfl).trans ((up_nk hE17 rfl).trans ((up_nk hE15 rfl).trans ((up_nk hE10 rfl).trans ((up_nk hE6 rfl).trans (up_nk hE4 rfl))))))
        obtain ⟨z34, Z34, h34, hc34, hx34, hG34, hf34, b34⟩ := ct_194_56_i0 (d := d + 0) (l := l) (D := D) (b0 := b0) (ad := ad) (Hb := Hb) (tau := tau) hx22 hG22  (show Z22 57 21 = 1 by first | omega | (simp only [eq35]; omega))
        try rw [eq35] at b34
        refine Jcv hx22 (show mx_Sn _ _ 83 (mx_callv 194 2 12 86) from sn_195 83) a56 s56 hc34 rfl rfl rfl ?_
        refine mx_J.step (sn_195 86) (fun _ _ => rfl) ?_
        exact c90 z34 Z34 h34 (by omega) hx34 hG34 (fr_tr (M := [(64, (-1))]) fr_rf (hf34) (M1 := []) rfl rfl)
    refine Jicmp_ne (show mx_Sn _ _ 57 (mx_icmp_ne 70 60) from sn_195 57) (by omega) (by omega) (fun q36 => ?_) (fun q36 => ?_)
    · skip
      exact c70 Z17 h17 hx17 hG17 fr_rf
    · skip
      refine mx_J.step (sn_195 60) (fun _ _ => rfl) ?_
      refine JcI (z := 1) (show mx_Sn _ _ 61 (mx_const (.int 1) 62) from sn_195 61) rfl ?_
      have eq38 : Z17 57 22 = Z 57 22 := ((up_nk hE17 rfl).trans ((up_nk hE15 rfl).trans ((up_nk hE10 rfl).trans ((up_nk hE6 rfl).trans (up_nk hE4 rfl)))))
      obtain ⟨z37, Z37, h37, hc37, hx37, hG37, hf37, b37⟩ := ct_194_56_i1 (d := d + 0) (l := l) (D := D) (b0 := b0) (ad := ad) (Hb := Hb) (tau := tau) hx17 hG17  (show Z17 57 22 = 1 by first | omega | (simp only [eq38]; omega))
      try rw [eq38] at b37
      refine Jcv hx17 (show mx_Sn _ _ 62 (mx_callv 194 2 12 65) from sn_195 62) a56 s56 hc37 rfl rfl rfl ?_
      refine Jif_ne (show mx_Sn _ _ 65 (mx_if_ne 70 68) from sn_195 65) (by omega) (fun q39 => ?_) (fun q39 => ?_)
      · skip
        exact c70 Z37 h37 hx37 hG37 (fr_tr (M := [(64, (-1))]) fr_rf (hf37) (M1 := []) rfl rfl)
      · skip
        refine JcI (z := 0) (show mx_Sn _ _ 68 (mx_const (.int 0) 69) from sn_195 68) rfl ?_
        exact mx_J.ret (sn_195 69) (fun _ _ => rfl) (hP 0 Z37 h37 hx37 hG37 (fr_tr (M := [(64, (-1)), (65, (-1))]) (fr_tr (M := [(64, (-1)), (65, (-1))]) (fr_tr (M := [(64, (-1)), (65, (-1))]) (fr_tr (M := [(64, (-1)), (65, (-1))]) (fr_tr (M := [(64, (-1)), (65, (-1))]) (fr_tr (M := [(64, (-1)), (65, (-1))]) fr_rf (fr_ua hE4) (M1 := []) rfl rfl) (fr_ua hE6) rfl rfl) (fr_ua hE10) rfl rfl) (fr_ua hE15) rfl rfl) (fr_ua hE17) rfl rfl) (hf37) rfl rfl) (by omega))
theorem ct_195_56 {l : Launch} {D : va_G} {b0 : Nat} {ad : Nat → Nat} {Hb : Heap} {tau : Nat → Int64} {d n s : Nat} {S : Nat → xS} {Z : xZ} {h : mx_H} (hx : XH n s S Z h) (hG : GI n S Z)  {x0 x1 x2 : Int} (p0 : 0 ≤ x0 ∧ x0 ≤ 384) (p1 : 0 ≤ x1 ∧ x1 ≤ 17) (p2 : 0 ≤ x2 ∧ x2 ≤ 9) : ∃ (z : Int) (Z' : xZ) (h' : mx_H), mx_Ca (tB l D b0 ad Hb tau) (d + 3) 195 [.ref 56, xI x0, xI x1, xI x2] h (some (xI z), h') ∧ XH n s S Z' h' ∧ GI n S Z' ∧ fr' [(64, (-1)), (65, (-1))] Z Z' ∧ (0 ≤ z ∧ z ≤ 18) := by
  obtain ⟨r, hca, z, Z', h', e, q⟩ := Jmt (B := tB l D b0 ad Hb tau) (M := mt_195) (mi := 195) (as := [.ref 56, xI x0, xI x1, xI x2]) (d := d + 2) (ls := [some (.ref 56), some (xI x0), some (xI x1), some (xI x2), none]) rfl rfl rfl rfl rfl rfl (cw_195_56 (l := l) (D := D) (b0 := b0) (ad := ad) (Hb := Hb) (tau := tau) (d := d) (Post := fun r => ∃ (z : Int) (Z' : xZ) (h' : mx_H), r = (some (xI z), h') ∧ XH n s S Z' h' ∧ GI n S Z' ∧ fr' [(64, (-1)), (65, (-1))] Z Z' ∧ (0 ≤ z ∧ z ≤ 18)) hx hG p0 p1 p2 (fun z Z' h' q1 q2 q3 q4 => ⟨z, Z', h', rfl, q1, q2, q3, q4⟩))
  subst e; exact ⟨z, Z', h', hca, q⟩
set_option maxRecDepth 100000 in
theorem cw_196_56 {l : Launch} {D : va_G} {b0 : Nat} {ad : Nat → Nat} {Hb : Heap} {tau : Nat → Int64} {d n s : Nat} {S : Nat → xS} {Z : xZ} {h : mx_H} {Post : mx_R → Prop} (hx : XH n s S Z h) (hG : GI n S Z)  {x0 x1 x2 : Int} (p0 : 0 ≤ x0 ∧ x0 ≤ 384) (p1 : (-2147483648) ≤ x1 ∧ x1 ≤ 2147483647) (p2 : 0 ≤ x2 ∧ x2 ≤ 9) (hP : ∀ (z : Int) (Z' : xZ) (h' : mx_H), XH n s S Z' h' → GI n S Z' → fr' [(62, (-1)), (64, (-1)), (65, (-1))] Z Z' → 0 ≤ z ∧ z ≤ 384 ∧ z < Z 56 18 → Post (some (xI z), h')) : mx_J (tB l D b0 ad Hb tau) mt_196 (d + 3) 0 [some (.ref 56), some (xI x0), some (xI x1), some (xI x2), none, none, none] [] h Post := by
    have a56 : 56 < n := lt83 (GI_n hG) rfl
    have s56 : S 56 = .inl (12, [0, 2, 2, 2, 2, 0, 0, 0, 0, 0, 0, 0, 0, 0, 0, 2, 2, 2, 0, 2, 2, 2, 0, 0, 2, 2, 2, 2, 2, 2, 0, 0, 2, 2, 2, 2, 2, 2, 2, 2, 2, 2]) := GI_s hG 56 rfl
    have a62 : 62 < n := lt83 (GI_n hG) rfl
    have s62 : S 62 = .inr (.int, 20, 0) := GI_s hG 62 rfl
    refine mx_J.step (sn_196 0) (fun _ _ => rfl) ?_
    obtain ⟨Z1, h1, hc1, hx1, hG1, hf1, b1⟩ := ct_186_56 (d := d + 2) (l := l) (D := D) (b0 := b0) (ad := ad) (Hb := Hb) (tau := tau) hx hG 
    have bs1_0 := b1
    clear b1
    refine Jcv0 hx (show mx_Sn _ _ 1 (mx_callv 186 1 12 4) from sn_196 1) a56 s56 hc1 rfl rfl rfl ?_
    refine JcI (z := 0) (show mx_Sn _ _ 4 (mx_const (.int 0) 5) from sn_196 4) rfl ?_
    refine mx_J.step (ls2 := [some (.ref 56), some (xI x0), some (xI x1), some (xI x2), some (xI 0), none, none]) (sn_196 5) (fun _ _ => rfl) ?_
    refine JcI (z := 0) (show mx_Sn _ _ 7 (mx_const (.int 0) 8) from sn_196 7) rfl ?_
    refine mx_J.step (ls2 := [some (.ref 56), some (xI x0), some (xI x1), some (xI x2), some (xI 0), some (xI 0), none]) (sn_196 8) (fun _ _ => rfl) ?_
    have c10 : ∀ (m2 : Nat) (w2_4 : Int) (w2_5 : Int) (u2_6 : Option Value) (Z3 : xZ) (h3 : mx_H), 18 - w2_5 < (m2 : Int) → (-2147483648) ≤ w2_4 ∧ w2_4 ≤ 2147483647 → 0 ≤ w2_5 ∧ w2_5 ≤ 18 → XH n s S Z3 h3 → GI n S Z3 → fr' [(62, (-1)), (64, (-1)), (65, (-1))] Z1 Z3 → mx_J (tB l D b0 ad Hb tau) mt_196 (d + 3) 10 [some (.ref 56), some (xI x0), some (xI x1), some (xI x2), some (xI w2_4), some (xI w2_5), u2_6] [] h3 Post := by
      intro m2
      induction m2 with
      | zero => intro w2_4 w2_5 u2_6 Z3 h3 q2 f2_0 f2_1 hx3 hG3 hf3; exact absurd q2 (by omega)
      | succ m2 ih2 =>
        intro w2_4 w2_5 u2_6 Z3 h3 q2 f2_0 f2_1 hx3 hG3 hf3
        refine mx_J.step (sn_196 10) (fun _ _ => rfl) ?_
        refine JcI (z := 18) (show mx_Sn _ _ 12 (mx_const (.int 18) 14) from sn_196 12) rfl ?_
        refine Jicmp_ge (show mx_Sn _ _ 14 (mx_icmp_ge 80 17) from sn_196 14) (by omega) (by omega) (fun q4 => ?_) (fun q4 => ?_)
        · skip
          refine mx_J.step (sn_196 80) (fun _ _ => rfl) ?_
          refine JgetR (g := 16) (b := 62) hx3 (show mx_Sn _ _ 81 (mx_getf 12 16 84) from sn_196 81) a56 s56 rfl rfl (hG3.prr 56 16 rfl) ?_
          refine JcI (z := 18) (show mx_Sn _ _ 84 (mx_const (.int 18) 86) from sn_196 84) rfl ?_
          refine mx_J.step (sn_196 86) (fun _ _ => rfl) ?_
          refine JiastI hx3 (show mx_Sn _ _ 88 (mx_iast 1 89) from sn_196 88) a62 s62 rfl (by omega) (fun Z6 h6 hx6 hE6 => ?_)
          have hG6 := GI_up hG3 hE6 (show (-2147483648) ≤ w2_4 ∧ w2_4 ≤ 2147483647 by omega) trivial rfl
          refine mx_J.step (sn_196 89) (fun _ _ => rfl) ?_
          have eq8 : Z6 56 18 = Z 56 18 := ((up_nk hE6 rfl).trans ((hf3 56 18 rfl).trans (hf1 56 18 rfl)))
          have b9 : 0 ≤ Z 56 18 ∧ Z 56 18 ≤ 385 := hG.pr 56 18
          obtain ⟨z7, Z7, h7, hc7, hx7, hG7, hf7, b7⟩ := ct_188_56 (d := d + 1) (l := l) (D := D) (b0 := b0) (ad := ad) (Hb := Hb) (tau := tau) hx6 hG6 
          try rw [eq8] at b7
          refine Jcv hx6 (show mx_Sn _ _ 90 (mx_callv 188 1 12 93) from sn_196 90) a56 s56 hc7 rfl rfl rfl ?_
          have eq10 : Z7 56 18 = Z 56 18 := ((hf7 56 18 rfl).trans ((up_nk hE6 rfl).trans ((hf3 56 18 rfl).trans (hf1 56 18 rfl))))
          exact mx_J.ret (sn_196 93) (fun _ _ => rfl) (hP z7 Z7 h7 hx7 hG7 (fr_tr (M := [(62, (-1)), (64, (-1)), (65, (-1))]) (fr_tr (M := [(62, (-1)), (64, (-1)), (65, (-1))]) (fr_tr (M := [(62, (-1)), (64, (-1)), (65, (-1))]) (fr_tr (M := [(62, (-1)), (64, (-1)), (65, (-1))]) fr_rf (hf1) (M1 := []) rfl rfl) (hf3) rfl rfl) (fr_ua hE6) rfl rfl) (hf7) rfl rfl) (by omega))
        · skip
          refine mx_J.step (sn_196 17) (fun _ _ => rfl) ?_
          refine mx_J.step (sn_196 18) (fun _ _ => rfl) ?_
          refine mx_J.step (sn_196 19) (fun _ _ => rfl) ?_
          have eq12 : Z3 61 (18 * x0 + w2_5) = Z 61 (18 * x0 + w2_5) := ((hf3 61 (18 * x0 + w2_5) rfl).trans (hf1 61 (18 * x0 + w2_5) rfl))
          have b13 : 0 ≤ Z 61 (18 * x0 + w2_5) ∧ Z 61 (18 * x0 + w2_5) ≤ 18 := hG.pr 61 (18 * x0 + w2_5)
          obtain ⟨z11, hc11, b11⟩ := ct_190_56 (d := d + 2) (l := l) (D := D) (b0 := b0) (ad := ad) (Hb := Hb) (tau := tau) hx3 hG3 (show 0 ≤ x0 ∧ x0 ≤ 384 by omega) (show 0 ≤ w2_5 ∧ w2_5 ≤ 17 by omega)
          try rw [eq12] at b11
          refine Jcv hx3 (show mx_Sn _ _ 21 (mx_callv 190 3 12 24) from sn_196 21) a56 s56 hc11 rfl rfl rfl ?_
          have c74 : ∀ (w14_4 : Int) (u14_6 : Option Value) (Z15 : xZ) (h15 : mx_H), (-2147483648) ≤ w14_4 ∧ w14_4 ≤ 2147483647 → XH n s S Z15 h15 → GI n S Z15 → fr' [(62, (-1)), (64, (-1)), (65, (-1))] Z3 Z15 → mx_J (tB l D b0 ad Hb tau) mt_196 (d + 3) 74 [some (.ref 56), some (xI x0), some (xI x1), some (xI x2), some (xI w14_4), some (xI w2_5), u14_6] [] h15 Post := by
            intro w14_4 u14_6 Z15 h15 f14_0 hx15 hG15 hf15
            refine Jiinc (z := w2_5) (cz := 1) (ls2 := [some (.ref 56), some (xI x0), some (xI x1), some (xI x2), some (xI w14_4), some (xI (w2_5 + 1)), u14_6]) (show mx_Sn _ _ 74 (mx_iinc 5 1 77) from sn_196 74) rfl rfl rfl rfl ?_
            refine mx_J.step (sn_196 77) (fun _ _ => rfl) ?_
            exact ih2 w14_4 (w2_5 + 1) u14_6 Z15 h15 (by omega) (by omega) (by omega) hx15 hG15 (fr_tr (M := [(62, (-1)), (64, (-1)), (65, (-1))]) (fr_tr (M := [(62, (-1)), (64, (-1)), (65, (-1))]) fr_rf (hf3) (M1 := []) rfl rfl) (hf15) rfl rfl)
          refine Jif_ne (show mx_Sn _ _ 24 (mx_if_ne 30 27) from sn_196 24) (by omega) (fun q16 => ?_) (fun q16 => ?_)
          · skip
            refine mx_J.step (sn_196 30) (fun _ _ => rfl) ?_
            refine mx_J.step (sn_196 32) (fun _ _ => rfl) ?_
            have c48 : ∀ (k17_0 : Int) (Z18 : xZ) (h18 : mx_H), 0 ≤ k17_0 ∧ k17_0 ≤ 18 → XH n s S Z18 h18 → GI n S Z18 → fr' [(64, (-1)), (65, (-1))] Z3 Z18 → mx_J (tB l D b0 ad Hb tau) mt_196 (d + 3) 48 [some (.ref 56), some (xI x0), some (xI x1), some (xI x2), some (xI w2_4), some (xI w2_5), u2_6] [xI k17_0] h18 Post := by
              intro k17_0 Z18 h18 f17_0 hx18 hG18 hf18
              refine mx_J.step (ls2 := [some (.ref 56), some (xI x0), some (xI x1), some (xI x2), some (xI w2_4), some (xI w2_5), some (xI k17_0)]) (sn_196 48) (fun _ _ => rfl) ?_
              refine mx_J.step (sn_196 50) (fun _ _ => rfl) ?_
              refine JgetR (g := 16) (b := 62) hx18 (show mx_Sn _ _ 51 (mx_getf 12 16 54) from sn_196 51) a56 s56 rfl rfl (hG18.prr 56 16 rfl) ?_
              refine mx_J.step (sn_196 54) (fun _ _ => rfl) ?_
              refine mx_J.step (sn_196 56) (fun _ _ => rfl) ?_
              refine mx_J.step (sn_196 57) (fun _ _ => rfl) ?_
              refine mx_J.step (sn_196 58) (fun _ _ => rfl) ?_
              have eq21 : Z18 61 (18 * x0 + w2_5) = Z 61 (18 * x0 + w2_5) := ((hf18 61 (18 * x0 + w2_5) rfl).trans ((hf3 61 (18 * x0 + w2_5) rfl).trans (hf1 61 (18 * x0 + w2_5) rfl)))
              obtain ⟨z20, hc20, b20⟩ := ct_190_56 (d := d + 2) (l := l) (D := D) (b0 := b0) (ad := ad) (Hb := Hb) (tau := tau) hx18 hG18 (show 0 ≤ x0 ∧ x0 ≤ 384 by omega) (show 0 ≤ w2_5 ∧ w2_5 ≤ 17 by omega)
              try rw [eq21] at b20
              refine Jcv hx18 (show mx_Sn _ _ 60 (mx_callv 190 3 12 63) from sn_196 60) a56 s56 hc20 rfl rfl rfl ?_
              refine mx_J.step (sn_196 63) (fun _ _ => rfl) ?_
              refine Jisub (show mx_Sn _ _ 65 (mx_isub 66) from sn_196 65) ?_
              refine JiastI hx18 (show mx_Sn _ _ 66 (mx_iast 1 67) from sn_196 66) a62 s62 rfl (by omega) (fun Z22 h22 hx22 hE22 => ?_)
              have hG22 := GI_up hG18 hE22 (show (-2147483648) ≤ z20 - k17_0 ∧ z20 - k17_0 ≤ 2147483647 by omega) trivial rfl
              refine mx_J.step (sn_196 67) (fun _ _ => rfl) ?_
              refine mx_J.step (sn_196 69) (fun _ _ => rfl) ?_
              refine JiaddN (show mx_Sn _ _ 71 (mx_iadd 72) from sn_196 71) (fun y23 hy23 hq23 => ?_)
              refine mx_J.step (ls2 := [some (.ref 56), some (xI x0), some (xI x1), some (xI x2), some (xI y23), some (xI w2_5), some (xI k17_0)]) (sn_196 72) (fun _ _ => rfl) ?_
              exact c74 y23 (some (xI k17_0)) Z22 h22 (by omega) hx22 hG22 (fr_tr (M := [(62, (-1)), (64, (-1)), (65, (-1))]) (fr_tr (M := [(62, (-1)), (64, (-1)), (65, (-1))]) fr_rf (hf18) (M1 := []) rfl rfl) (fr_ua hE22) rfl rfl)
            refine Jicmp_ne (show mx_Sn _ _ 33 (mx_icmp_ne 40 36) from sn_196 33) (by omega) (by omega) (fun q24 => ?_) (fun q24 => ?_)
            · skip
              refine mx_J.step (sn_196 40) (fun _ _ => rfl) ?_
              refine mx_J.step (sn_196 41) (fun _ _ => rfl) ?_
              refine mx_J.step (sn_196 42) (fun _ _ => rfl) ?_
              refine mx_J.step (sn_196 44) (fun _ _ => rfl) ?_
              obtain ⟨z25, Z25, h25, hc25, hx25, hG25, hf25, b25⟩ := ct_195_56 (d := d + 0) (l := l) (D := D) (b0 := b0) (ad := ad) (Hb := Hb) (tau := tau) hx3 hG3 (show 0 ≤ x0 ∧ x0 ≤ 384 by omega) (show 0 ≤ w2_5 ∧ w2_5 ≤ 17 by omega) (show 0 ≤ x2 ∧ x2 ≤ 9 by omega)
              refine Jcv hx3 (show mx_Sn _ _ 45 (mx_callv 195 4 12 48) from sn_196 45) a56 s56 hc25 rfl rfl rfl ?_
              exact c48 z25 Z25 h25 (by omega) hx25 hG25 (fr_tr (M := [(64, (-1)), (65, (-1))]) fr_rf (hf25) (M1 := []) rfl rfl)
            · skip
              refine JcI (z := 0) (show mx_Sn _ _ 36 (mx_const (.int 0) 37) from sn_196 36) rfl ?_
              refine mx_J.step (sn_196 37) (fun _ _ => rfl) ?_
              exact c48 0 Z3 h3 (by omega) hx3 hG3 fr_rf
          · skip
            refine mx_J.step (sn_196 27) (fun _ _ => rfl) ?_
            exact c74 w2_4 u2_6 Z3 h3 (by omega) hx3 hG3 fr_rf
    exact c10 (Int.toNat (18 - 0) + 1) 0 0 none Z1 h1 (by omega) (by omega) (by omega) hx1 hG1 fr_rf
theorem ct_196_56 {l : Launch} {D : va_G} {b0 : Nat} {ad : Nat → Nat} {Hb : Heap} {tau : Nat → Int64} {d n s : Nat} {S : Nat → xS} {Z : xZ} {h : mx_H} (hx : XH n s S Z h) (hG : GI n S Z)  {x0 x1 x2 : Int} (p0 : 0 ≤ x0 ∧ x0 ≤ 384) (p1 : (-2147483648) ≤ x1 ∧ x1 ≤ 2147483647) (p2 : 0 ≤ x2 ∧ x2 ≤ 9) : ∃ (z : Int) (Z' : xZ) (h' : mx_H), mx_Ca (tB l D b0 ad Hb tau) (d + 4) 196 [.ref 56, xI x0, xI x1, xI x2] h (some (xI z), h') ∧ XH n s S Z' h' ∧ GI n S Z' ∧ fr' [(62, (-1)), (64, (-1)), (65, (-1))] Z Z' ∧ (0 ≤ z ∧ z ≤ 384 ∧ z < Z 56 18) := by
  obtain ⟨r, hca, z, Z', h', e, q⟩ := Jmt (B := tB l D b0 ad Hb tau) (M := mt_196) (mi := 196) (as := [.ref 56, xI x0, xI x1, xI x2]) (d := d + 3) (ls := [some (.ref 56), some (xI x0), some (xI x1), some (xI x2), none, none, none]) rfl rfl rfl rfl rfl rfl (cw_196_56 (l := l) (D := D) (b0 := b0) (ad := ad) (Hb := Hb) (tau := tau) (d := d) (Post := fun r => ∃ (z : Int) (Z' : xZ) (h' : mx_H), r = (some (xI z), h') ∧ XH n s S Z' h' ∧ GI n S Z' ∧ fr' [(62, (-1)), (64, (-1)), (65, (-1))] Z Z' ∧ (0 ≤ z ∧ z ≤ 384 ∧ z < Z 56 18)) hx hG p0 p1 p2 (fun z Z' h' q1 q2 q3 q4 => ⟨z, Z', h', rfl, q1, q2, q3, q4⟩))
  subst e; exact ⟨z, Z', h', hca, q⟩
set_option maxRecDepth 100000 in
theorem cw_198_56 {l : Launch} {D : va_G} {b0 : Nat} {ad : Nat → Nat} {Hb : Heap} {tau : Nat → Int64} {d n s : Nat} {S : Nat → xS} {Z : xZ} {h : mx_H} {Post : mx_R → Prop} (hx : XH n s S Z h) (hG : GI n S Z)  {x0 x1 x2 : Int} (p0 : 0 ≤ x0 ∧ x0 ≤ 384) (p1 : (-2147483648) ≤ x1 ∧ x1 ≤ 2147483647) (p2 : 0 ≤ x2 ∧ x2 ≤ 9) (hP : ∀ (z : Int) (Z' : xZ) (h' : mx_H), XH n s S Z' h' → GI n S Z' → fr' [(62, (-1)), (64, (-1)), (65, (-1))] Z Z' → 0 ≤ z ∧ z ≤ 384 ∧ z < Z 56 18 → Post (some (xI z), h')) : mx_J (tB l D b0 ad Hb tau) mt_198 (d + 4) 0 [some (.ref 56), some (xI x0), some (xI x1), some (xI x2)] [] h Post := by
    have a56 : 56 < n := lt83 (GI_n hG) rfl
    have s56 : S 56 = .inl (12, [0, 2, 2, 2, 2, 0, 0, 0, 0, 0, 0, 0, 0, 0, 0, 2, 2, 2, 0, 2, 2, 2, 0, 0, 2, 2, 2, 2, 2, 2, 0, 0, 2, 2, 2, 2, 2, 2, 2, 2, 2, 2]) := GI_s hG 56 rfl
    refine mx_J.step (sn_198 0) (fun _ _ => rfl) ?_
    refine mx_J.step (sn_198 1) (fun _ _ => rfl) ?_
    refine mx_J.step (sn_198 2) (fun _ _ => rfl) ?_
    have c16 : ∀ (k1_2 : Int), (-1) ≤ k1_2 ∧ k1_2 ≤ 17 → mx_J (tB l D b0 ad Hb tau) mt_198 (d + 4) 16 [some (.ref 56), some (xI x0), some (xI x1), some (xI x2)] [xI k1_2, xI x0, .ref 56] h Post := by
      intro k1_2 f1_0
      refine mx_J.step (sn_198 16) (fun _ _ => rfl) ?_
      have b3 : 0 ≤ Z 56 18 ∧ Z 56 18 ≤ 385 := hG.pr 56 18
      obtain ⟨z2, Z2, h2, hc2, hx2, hG2, hf2, b2⟩ := ct_196_56 (d := d + 0) (l := l) (D := D) (b0 := b0) (ad := ad) (Hb := Hb) (tau := tau) hx hG (show 0 ≤ x0 ∧ x0 ≤ 384 by omega) (show (-2147483648) ≤ k1_2 ∧ k1_2 ≤ 2147483647 by omega) (show 0 ≤ x2 ∧ x2 ≤ 9 by omega)
      refine Jcv hx (show mx_Sn _ _ 17 (mx_callv 196 4 12 20) from sn_198 17) a56 s56 hc2 rfl rfl rfl ?_
      have eq4 : Z2 56 18 = Z 56 18 := (hf2 56 18 rfl)
      exact mx_J.ret (sn_198 20) (fun _ _ => rfl) (hP z2 Z2 h2 hx2 hG2 (fr_tr (M := [(62, (-1)), (64, (-1)), (65, (-1))]) fr_rf (hf2) (M1 := []) rfl rfl) (by omega))
    refine Jif_ne (show mx_Sn _ _ 3 (mx_if_ne 10 6) from sn_198 3) (by omega) (fun q5 => ?_) (fun q5 => ?_)
    · skip
      refine mx_J.step (sn_198 10) (fun _ _ => rfl) ?_
      refine mx_J.step (sn_198 11) (fun _ _ => rfl) ?_
      refine mx_J.step (sn_198 12) (fun _ _ => rfl) ?_
      obtain ⟨z6, hc6, b6⟩ := ct_192_56 (d := d + 2) (l := l) (D := D) (b0 := b0) (ad := ad) (Hb := Hb) (tau := tau) hx hG (show 0 ≤ x0 ∧ x0 ≤ 384 by omega) (show (-2147483648) ≤ x1 ∧ x1 ≤ 2147483647 by omega)
      refine Jcv hx (show mx_Sn _ _ 13 (mx_callv 192 3 12 16) from sn_198 13) a56 s56 hc6 rfl rfl rfl ?_
      exact c16 z6 (by omega)
    · skip
      refine JcI (z := (-1)) (show mx_Sn _ _ 6 (mx_const (.int (-1)) 7) from sn_198 6) rfl ?_
      refine mx_J.step (sn_198 7) (fun _ _ => rfl) ?_
      exact c16 (-1) (by omega)
theorem ct_198_56 {l : Launch} {D : va_G} {b0 : Nat} {ad : Nat → Nat} {Hb : Heap} {tau : Nat → Int64} {d n s : Nat} {S : Nat → xS} {Z : xZ} {h : mx_H} (hx : XH n s S Z h) (hG : GI n S Z)  {x0 x1 x2 : Int} (p0 : 0 ≤ x0 ∧ x0 ≤ 384) (p1 : (-2147483648) ≤ x1 ∧ x1 ≤ 2147483647) (p2 : 0 ≤ x2 ∧ x2 ≤ 9) : ∃ (z : Int) (Z' : xZ) (h' : mx_H), mx_Ca (tB l D b0 ad Hb tau) (d + 5) 198 [.ref 56, xI x0, xI x1, xI x2] h (some (xI z), h') ∧ XH n s S Z' h' ∧ GI n S Z' ∧ fr' [(62, (-1)), (64, (-1)), (65, (-1))] Z Z' ∧ (0 ≤ z ∧ z ≤ 384 ∧ z < Z 56 18) := by
  obtain ⟨r, hca, z, Z', h', e, q⟩ := Jmt (B := tB l D b0 ad Hb tau) (M := mt_198) (mi := 198) (as := [.ref 56, xI x0, xI x1, xI x2]) (d := d + 4) (ls := [some (.ref 56), some (xI x0), some (xI x1), some (xI x2)]) rfl rfl rfl rfl rfl rfl (cw_198_56 (l := l) (D := D) (b0 := b0) (ad := ad) (Hb := Hb) (tau := tau) (d := d) (Post := fun r => ∃ (z : Int) (Z' : xZ) (h' : mx_H), r = (some (xI z), h') ∧ XH n s S Z' h' ∧ GI n S Z' ∧ fr' [(62, (-1)), (64, (-1)), (65, (-1))] Z Z' ∧ (0 ≤ z ∧ z ≤ 384 ∧ z < Z 56 18)) hx hG p0 p1 p2 (fun z Z' h' q1 q2 q3 q4 => ⟨z, Z', h', rfl, q1, q2, q3, q4⟩))
  subst e; exact ⟨z, Z', h', hca, q⟩
set_option maxRecDepth 100000 in
theorem cw_200_56 {l : Launch} {D : va_G} {b0 : Nat} {ad : Nat → Nat} {Hb : Heap} {tau : Nat → Int64} {d n s : Nat} {S : Nat → xS} {Z : xZ} {h : mx_H} {Post : mx_R → Prop} (hx : XH n s S Z h) (hG : GI n S Z)  {x0 : Int} (p0 : (-2147483648) ≤ x0 ∧ x0 ≤ 2147483647) (hP : ∀ (z : Int) (Z' : xZ) (h' : mx_H), XH n s S Z' h' → GI n S Z' → fr' [(56, 0), (64, (-1)), (65, (-1))] Z Z' → (-2) ≤ z ∧ z ≤ 18 → Post (some (xI z), h')) : mx_J (tB l D b0 ad Hb tau) mt_200 (d + 3) 0 [some (.ref 56), some (xI x0)] [] h Post := by
    have a56 : 56 < n := lt83 (GI_n hG) rfl
    have s56 : S 56 = .inl (12, [0, 2, 2, 2, 2, 0, 0, 0, 0, 0, 0, 0, 0, 0, 0, 2, 2, 2, 0, 2, 2, 2, 0, 0, 2, 2, 2, 2, 2, 2, 0, 0, 2, 2, 2, 2, 2, 2, 2, 2, 2, 2]) := GI_s hG 56 rfl
    have a57 : 57 < n := lt83 (GI_n hG) rfl
    have s57 : S 57 = .inr (.int, 2886, 0) := GI_s hG 57 rfl
    refine mx_J.step (sn_200 0) (fun _ _ => rfl) ?_
    refine JcI (z := 0) (show mx_Sn _ _ 1 (mx_const (.int 0) 2) from sn_200 1) rfl ?_
    refine JputI (g := 0) hx (show mx_Sn _ _ 2 (mx_putf 1 12 0 (.int) 5) from sn_200 2) a56 s56 rfl rfl rfl rfl (fun Z1 h1 hx1 hE1 => ?_)
    have hG1 := GI_up hG hE1 (show (-2147483648) ≤ 0 ∧ 0 ≤ 2147483647 by omega) trivial rfl
    refine mx_J.step (sn_200 5) (fun _ _ => rfl) ?_
    refine Ji2l (show mx_Sn _ _ 6 (mx_i2l 7) from sn_200 6) (by omega) ?_
    refine JcL (z := 0) (show mx_Sn _ _ 7 (mx_const (.long 0) 8) from sn_200 7) rfl ?_
    refine mx_J.step (sn_200 8) (fun _ _ => rfl) ?_
    refine mx_J.step (sn_200 9) (fun _ _ => rfl) ?_
    refine JgetR (g := 1) (b := 57) hx1 (show mx_Sn _ _ 10 (mx_getf 12 1 13) from sn_200 10) a56 s56 rfl rfl (hG1.prr 56 1 rfl) ?_
    refine JcI (z := 27) (show mx_Sn _ _ 13 (mx_const (.int 27) 15) from sn_200 13) rfl ?_
    have b3 := GI_st hG 27
    have b4 : 0 ≤ Z 56 18 ∧ Z 56 18 ≤ 385 := hG.pr 56 18
    have b5 : 0 ≤ Z 57 27 ∧ Z 57 27 ≤ 384 := by have hq := GI_ex hG 57 27; replace hq : f57 (27 % 962) (Z 57 27) := hq; unfold f57 at hq; omega
    have b6 : (-2147483648) ≤ Z 57 27 ∧ Z 57 27 ≤ 2147483647 := hG.pr 57 27
    refine JialdI (z := Z 57 27) hx1 (show mx_Sn _ _ 15 (mx_iald 16) from sn_200 15) a57 s57 (by omega) (up_nk hE1 rfl) ?_
    have eq8 : mn Z1 (Z 57 27) = mn Z (Z 57 27) := (mn_c (fun i => up_nk hE1 rfl))
    obtain ⟨z7, hc7, b7⟩ := ct_191_56 (d := d + 1) (l := l) (D := D) (b0 := b0) (ad := ad) (Hb := Hb) (tau := tau) hx1 hG1 (show 0 ≤ Z 57 27 ∧ Z 57 27 ≤ 384 by omega)
    refine Jcv hx1 (show mx_Sn _ _ 16 (mx_callv 191 2 12 19) from sn_200 16) a56 s56 hc7 rfl rfl rfl ?_
    refine JcI (z := 1) (show mx_Sn _ _ 19 (mx_const (.int 1) 20) from sn_200 19) rfl ?_
    refine Jisub (show mx_Sn _ _ 20 (mx_isub 21) from sn_200 20) ?_
    refine Ji2l (show mx_Sn _ _ 21 (mx_i2l 22) from sn_200 21) (by omega) ?_
    obtain ⟨z9, hc9, b9⟩ := ct_154_ (d := d + 2) (l := l) (D := D) (b0 := b0) (ad := ad) (Hb := Hb) (tau := tau) hx1 hG1 (show (-9223372036854775808) ≤ x0 ∧ x0 ≤ 9223372036854775807 by omega) (show (-9223372036854775808) ≤ 0 ∧ 0 ≤ 9223372036854775807 by omega) (show (-9223372036854775808) ≤ z7 - 1 ∧ z7 - 1 ≤ 9223372036854775807 by omega)
    refine Jcs (show mx_Sn _ _ 22 (mx_calls 154 3 25) from sn_200 22) hc9 rfl rfl rfl ?_
    have c52 : ∀ (k10_0 : Int) (Z11 : xZ) (h11 : mx_H), (-2) ≤ k10_0 ∧ k10_0 ≤ 18 → XH n s S Z11 h11 → GI n S Z11 → fr' [(64, (-1)), (65, (-1))] Z1 Z11 → mx_J (tB l D b0 ad Hb tau) mt_200 (d + 3) 52 [some (.ref 56), some (xI x0)] [xI k10_0] h11 Post := by
      intro k10_0 Z11 h11 f10_0 hx11 hG11 hf11
      exact mx_J.ret (sn_200 52) (fun _ _ => rfl) (hP k10_0 Z11 h11 hx11 hG11 (fr_tr (M := [(56, 0), (64, (-1)), (65, (-1))]) (fr_tr (M := [(56, 0), (64, (-1)), (65, (-1))]) fr_rf (fr_up hE1) (M1 := []) rfl rfl) (hf11) rfl rfl) (by omega))
    refine Jif_eq (show mx_Sn _ _ 25 (mx_if_eq 50 28) from sn_200 25) (by omega) (fun q12 => ?_) (fun q12 => ?_)
    · skip
      refine JcI (z := (-2)) (show mx_Sn _ _ 50 (mx_const (.int (-2)) 52) from sn_200 50) rfl ?_
      exact c52 (-2) Z1 h1 (by omega) hx1 hG1 fr_rf
    · skip
      refine mx_J.step (sn_200 28) (fun _ _ => rfl) ?_
      refine mx_J.step (sn_200 29) (fun _ _ => rfl) ?_
      refine JgetR (g := 1) (b := 57) hx1 (show mx_Sn _ _ 30 (mx_getf 12 1 33) from sn_200 30) a56 s56 rfl rfl (hG1.prr 56 1 rfl) ?_
      refine JcI (z := 27) (show mx_Sn _ _ 33 (mx_const (.int 27) 35) from sn_200 33) rfl ?_
      refine JialdI (z := Z 57 27) hx1 (show mx_Sn _ _ 35 (mx_iald 36) from sn_200 35) a57 s57 (by omega) (up_nk hE1 rfl) ?_
      refine mx_J.step (sn_200 36) (fun _ _ => rfl) ?_
      refine mx_J.step (sn_200 37) (fun _ _ => rfl) ?_
      refine JgetR (g := 1) (b := 57) hx1 (show mx_Sn _ _ 38 (mx_getf 12 1 41) from sn_200 38) a56 s56 rfl rfl (hG1.prr 56 1 rfl) ?_
      refine JcI (z := 28) (show mx_Sn _ _ 41 (mx_const (.int 28) 43) from sn_200 41) rfl ?_
      have b15 : 0 ≤ Z 57 28 ∧ Z 57 28 ≤ 9 := by have hq := GI_ex hG 57 28; replace hq : f57 (28 % 962) (Z 57 28) := hq; unfold f57 at hq; omega
      have b16 : (-2147483648) ≤ Z 57 28 ∧ Z 57 28 ≤ 2147483647 := hG.pr 57 28
      refine JialdI (z := Z 57 28) hx1 (show mx_Sn _ _ 43 (mx_iald 44) from sn_200 43) a57 s57 (by omega) (up_nk hE1 rfl) ?_
      obtain ⟨z17, Z17, h17, hc17, hx17, hG17, hf17, b17⟩ := ct_195_56 (d := d + 0) (l := l) (D := D) (b0 := b0) (ad := ad) (Hb := Hb) (tau := tau) hx1 hG1 (show 0 ≤ Z 57 27 ∧ Z 57 27 ≤ 384 by omega) (show 0 ≤ x0 ∧ x0 ≤ 17 by omega) (show 0 ≤ Z 57 28 ∧ Z 57 28 ≤ 9 by omega)
      refine Jcv hx1 (show mx_Sn _ _ 44 (mx_callv 195 4 12 47) from sn_200 44) a56 s56 hc17 rfl rfl rfl ?_
      refine mx_J.step (sn_200 47) (fun _ _ => rfl) ?_
      exact c52 z17 Z17 h17 (by omega) hx17 hG17 (fr_tr (M := [(64, (-1)), (65, (-1))]) fr_rf (hf17) (M1 := []) rfl rfl)
theorem ct_200_56 {l : Launch} {D : va_G} {b0 : Nat} {ad : Nat → Nat} {Hb : Heap} {tau : Nat → Int64} {d n s : Nat} {S : Nat → xS} {Z : xZ} {h : mx_H} (hx : XH n s S Z h) (hG : GI n S Z)  {x0 : Int} (p0 : (-2147483648) ≤ x0 ∧ x0 ≤ 2147483647) : ∃ (z : Int) (Z' : xZ) (h' : mx_H), mx_Ca (tB l D b0 ad Hb tau) (d + 4) 200 [.ref 56, xI x0] h (some (xI z), h') ∧ XH n s S Z' h' ∧ GI n S Z' ∧ fr' [(56, 0), (64, (-1)), (65, (-1))] Z Z' ∧ ((-2) ≤ z ∧ z ≤ 18) := by
  obtain ⟨r, hca, z, Z', h', e, q⟩ := Jmt (B := tB l D b0 ad Hb tau) (M := mt_200) (mi := 200) (as := [.ref 56, xI x0]) (d := d + 3) (ls := [some (.ref 56), some (xI x0)]) rfl rfl rfl rfl rfl rfl (cw_200_56 (l := l) (D := D) (b0 := b0) (ad := ad) (Hb := Hb) (tau := tau) (d := d) (Post := fun r => ∃ (z : Int) (Z' : xZ) (h' : mx_H), r = (some (xI z), h') ∧ XH n s S Z' h' ∧ GI n S Z' ∧ fr' [(56, 0), (64, (-1)), (65, (-1))] Z Z' ∧ ((-2) ≤ z ∧ z ≤ 18)) hx hG p0 (fun z Z' h' q1 q2 q3 q4 => ⟨z, Z', h', rfl, q1, q2, q3, q4⟩))
  subst e; exact ⟨z, Z', h', hca, q⟩
set_option maxRecDepth 100000 in
theorem cw_201_56 {l : Launch} {D : va_G} {b0 : Nat} {ad : Nat → Nat} {Hb : Heap} {tau : Nat → Int64} {d n s : Nat} {S : Nat → xS} {Z : xZ} {h : mx_H} {Post : mx_R → Prop} (hx : XH n s S Z h) (hG : GI n S Z)  {x0 x1 : Int} (p0 : (-2147483648) ≤ x0 ∧ x0 ≤ 2147483647) (p1 : (-2147483648) ≤ x1 ∧ x1 ≤ 2147483647) (hP : ∀ (z : Int) (Z' : xZ) (h' : mx_H), XH n s S Z' h' → GI n S Z' → fr' [(56, 0), (62, (-1)), (64, (-1)), (65, (-1))] Z Z' → (-5) ≤ z ∧ z ≤ 384 → Post (some (xI z), h')) : mx_J (tB l D b0 ad Hb tau) mt_201 (d + 5) 0 [some (.ref 56), some (xI x0), some (xI x1), none] [] h Post := by
    have a56 : 56 < n := lt83 (GI_n hG) rfl
    have s56 : S 56 = .inl (12, [0, 2, 2, 2, 2, 0, 0, 0, 0, 0, 0, 0, 0, 0, 0, 2, 2, 2, 0, 2, 2, 2, 0, 0, 2, 2, 2, 2, 2, 2, 0, 0, 2, 2, 2, 2, 2, 2, 2, 2, 2, 2]) := GI_s hG 56 rfl
    have a57 : 57 < n := lt83 (GI_n hG) rfl
    have s57 : S 57 = .inr (.int, 2886, 0) := GI_s hG 57 rfl
    refine mx_J.step (sn_201 0) (fun _ _ => rfl) ?_
    refine JcI (z := 0) (show mx_Sn _ _ 1 (mx_const (.int 0) 2) from sn_201 1) rfl ?_
    refine JputI (g := 0) hx (show mx_Sn _ _ 2 (mx_putf 1 12 0 (.int) 5) from sn_201 2) a56 s56 rfl rfl rfl rfl (fun Z1 h1 hx1 hE1 => ?_)
    have hG1 := GI_up hG hE1 (show (-2147483648) ≤ 0 ∧ 0 ≤ 2147483647 by omega) trivial rfl
    refine mx_J.step (sn_201 5) (fun _ _ => rfl) ?_
    refine Ji2l (show mx_Sn _ _ 6 (mx_i2l 7) from sn_201 6) (by omega) ?_
    refine JcL (z := 0) (show mx_Sn _ _ 7 (mx_const (.long 0) 8) from sn_201 7) rfl ?_
    refine JcL (z := 2) (show mx_Sn _ _ 8 (mx_const (.long 2) 11) from sn_201 8) rfl ?_
    obtain ⟨z2, hc2, b2⟩ := ct_154_ (d := d + 4) (l := l) (D := D) (b0 := b0) (ad := ad) (Hb := Hb) (tau := tau) hx1 hG1 (show (-9223372036854775808) ≤ x1 ∧ x1 ≤ 9223372036854775807 by omega) (show (-9223372036854775808) ≤ 0 ∧ 0 ≤ 9223372036854775807 by omega) (show (-9223372036854775808) ≤ 2 ∧ 2 ≤ 9223372036854775807 by omega)
    refine Jcs (show mx_Sn _ _ 11 (mx_calls 154 3 14) from sn_201 11) hc2 rfl rfl rfl ?_
    refine Jif_ne (show mx_Sn _ _ 14 (mx_if_ne 20 17) from sn_201 14) (by omega) (fun q3 => ?_) (fun q3 => ?_)
    · skip
      refine mx_J.step (sn_201 20) (fun _ _ => rfl) ?_
      refine mx_J.step (sn_201 21) (fun _ _ => rfl) ?_
      refine JgetR (g := 1) (b := 57) hx1 (show mx_Sn _ _ 22 (mx_getf 12 1 25) from sn_201 22) a56 s56 rfl rfl (hG1.prr 56 1 rfl) ?_
      refine JcI (z := 27) (show mx_Sn _ _ 25 (mx_const (.int 27) 27) from sn_201 25) rfl ?_
      have b5 := GI_st hG 27
      have b6 : 0 ≤ Z 56 18 ∧ Z 56 18 ≤ 385 := hG.pr 56 18
      have b7 : 0 ≤ Z 57 27 ∧ Z 57 27 ≤ 384 := by have hq := GI_ex hG 57 27; replace hq : f57 (27 % 962) (Z 57 27) := hq; unfold f57 at hq; omega
      have b8 : (-2147483648) ≤ Z 57 27 ∧ Z 57 27 ≤ 2147483647 := hG.pr 57 27
      refine JialdI (z := Z 57 27) hx1 (show mx_Sn _ _ 27 (mx_iald 28) from sn_201 27) a57 s57 (by omega) (up_nk hE1 rfl) ?_
      refine mx_J.step (sn_201 28) (fun _ _ => rfl) ?_
      have eq10 : hv Z1 (Z 57 27) x0 = hv Z (Z 57 27) x0 := (hv_c (fun i => up_nk hE1 rfl))
      obtain ⟨z9, hc9, b9⟩ := ct_197_56 (d := d + 2) (l := l) (D := D) (b0 := b0) (ad := ad) (Hb := Hb) (tau := tau) hx1 hG1 (show 0 ≤ Z 57 27 ∧ Z 57 27 ≤ 384 by omega) (show (-2147483648) ≤ x0 ∧ x0 ≤ 2147483647 by omega)
      refine Jcv hx1 (show mx_Sn _ _ 29 (mx_callv 197 3 12 32) from sn_201 29) a56 s56 hc9 rfl rfl rfl ?_
      refine Jif_ne (show mx_Sn _ _ 32 (mx_if_ne 38 35) from sn_201 32) (by omega) (fun q11 => ?_) (fun q11 => ?_)
      · skip
        refine mx_J.step (sn_201 38) (fun _ _ => rfl) ?_
        refine mx_J.step (sn_201 39) (fun _ _ => rfl) ?_
        refine JgetR (g := 1) (b := 57) hx1 (show mx_Sn _ _ 40 (mx_getf 12 1 43) from sn_201 40) a56 s56 rfl rfl (hG1.prr 56 1 rfl) ?_
        refine JcI (z := 27) (show mx_Sn _ _ 43 (mx_const (.int 27) 45) from sn_201 43) rfl ?_
        refine JialdI (z := Z 57 27) hx1 (show mx_Sn _ _ 45 (mx_iald 46) from sn_201 45) a57 s57 (by omega) (up_nk hE1 rfl) ?_
        refine mx_J.step (sn_201 46) (fun _ _ => rfl) ?_
        refine mx_J.step (sn_201 47) (fun _ _ => rfl) ?_
        refine JgetR (g := 1) (b := 57) hx1 (show mx_Sn _ _ 48 (mx_getf 12 1 51) from sn_201 48) a56 s56 rfl rfl (hG1.prr 56 1 rfl) ?_
        refine JcI (z := 28) (show mx_Sn _ _ 51 (mx_const (.int 28) 53) from sn_201 51) rfl ?_
        have b14 : 0 ≤ Z 57 28 ∧ Z 57 28 ≤ 9 := by have hq := GI_ex hG 57 28; replace hq : f57 (28 % 962) (Z 57 28) := hq; unfold f57 at hq; omega
        have b15 : (-2147483648) ≤ Z 57 28 ∧ Z 57 28 ≤ 2147483647 := hG.pr 57 28
        refine JialdI (z := Z 57 28) hx1 (show mx_Sn _ _ 53 (mx_iald 54) from sn_201 53) a57 s57 (by omega) (up_nk hE1 rfl) ?_
        have eq17 : Z1 56 18 = Z 56 18 := (up_ni hE1 (by decide))
        obtain ⟨z16, Z16, h16, hc16, hx16, hG16, hf16, b16⟩ := ct_198_56 (d := d + 0) (l := l) (D := D) (b0 := b0) (ad := ad) (Hb := Hb) (tau := tau) hx1 hG1 (show 0 ≤ Z 57 27 ∧ Z 57 27 ≤ 384 by omega) (show (-2147483648) ≤ x0 ∧ x0 ≤ 2147483647 by omega) (show 0 ≤ Z 57 28 ∧ Z 57 28 ≤ 9 by omega)
        try rw [eq17] at b16
        refine Jcv hx1 (show mx_Sn _ _ 54 (mx_callv 198 4 12 57) from sn_201 54) a56 s56 hc16 rfl rfl rfl ?_
        refine mx_J.step (ls2 := [some (.ref 56), some (xI x0), some (xI x1), some (xI z16)]) (sn_201 57) (fun _ _ => rfl) ?_
        refine mx_J.step (sn_201 58) (fun _ _ => rfl) ?_
        have c85 : ∀ (k18_0 : Int), 0 ≤ k18_0 ∧ k18_0 ≤ 384 → mx_J (tB l D b0 ad Hb tau) mt_201 (d + 5) 85 [some (.ref 56), some (xI x0), some (xI x1), some (xI z16)] [xI k18_0] h16 Post := by
          intro k18_0 f18_0
          exact mx_J.ret (sn_201 85) (fun _ _ => rfl) (hP k18_0 Z16 h16 hx16 hG16 (fr_tr (M := [(56, 0), (62, (-1)), (64, (-1)), (65, (-1))]) (fr_tr (M := [(56, 0), (62, (-1)), (64, (-1)), (65, (-1))]) fr_rf (fr_up hE1) (M1 := []) rfl rfl) (hf16) rfl rfl) (by omega))
        refine Jif_ne (show mx_Sn _ _ 59 (mx_if_ne 66 62) from sn_201 59) (by omega) (fun q19 => ?_) (fun q19 => ?_)
        · skip
          refine mx_J.step (sn_201 66) (fun _ _ => rfl) ?_
          refine JcI (z := 1) (show mx_Sn _ _ 67 (mx_const (.int 1) 68) from sn_201 67) rfl ?_
          refine Jicmp_ne (show mx_Sn _ _ 68 (mx_icmp_ne 79 71) from sn_201 68) (by omega) (by omega) (fun q20 => ?_) (fun q20 => ?_)
          · skip
            refine mx_J.step (sn_201 79) (fun _ _ => rfl) ?_
            refine mx_J.step (sn_201 80) (fun _ _ => rfl) ?_
            refine JcI (z := 0) (show mx_Sn _ _ 81 (mx_const (.int 0) 82) from sn_201 81) rfl ?_
            have eq22 : Z16 61 (18 * z16 + 0) = Z 61 (18 * z16 + 0) := ((hf16 61 (18 * z16 + 0) rfl).trans (up_nk hE1 rfl))
            have b23 : 0 ≤ Z 61 (18 * z16 + 0) ∧ Z 61 (18 * z16 + 0) ≤ 18 := hG.pr 61 (18 * z16 + 0)
            obtain ⟨z21, hc21, b21⟩ := ct_190_56 (d := d + 4) (l := l) (D := D) (b0 := b0) (ad := ad) (Hb := Hb) (tau := tau) hx16 hG16 (show 0 ≤ z16 ∧ z16 ≤ 384 by omega) (show 0 ≤ 0 ∧ 0 ≤ 17 by omega)
            try rw [eq22] at b21
            refine Jcv hx16 (show mx_Sn _ _ 82 (mx_callv 190 3 12 85) from sn_201 82) a56 s56 hc21 rfl rfl rfl ?_
            exact c85 z21 (by omega)
          · skip
            refine mx_J.step (sn_201 71) (fun _ _ => rfl) ?_
            refine mx_J.step (sn_201 72) (fun _ _ => rfl) ?_
            have eq25 : mn Z16 z16 = mn Z z16 := ((mn_c (fun i => hf16 61 i rfl)).trans (mn_c (fun i => up_nk hE1 rfl)))
            obtain ⟨z24, hc24, b24⟩ := ct_191_56 (d := d + 3) (l := l) (D := D) (b0 := b0) (ad := ad) (Hb := Hb) (tau := tau) hx16 hG16 (show 0 ≤ z16 ∧ z16 ≤ 384 by omega)
            refine Jcv hx16 (show mx_Sn _ _ 73 (mx_callv 191 2 12 76) from sn_201 73) a56 s56 hc24 rfl rfl rfl ?_
            refine mx_J.step (sn_201 76) (fun _ _ => rfl) ?_
            exact c85 z24 (by omega)
        · skip
          refine mx_J.step (sn_201 62) (fun _ _ => rfl) ?_
          refine mx_J.step (sn_201 63) (fun _ _ => rfl) ?_
          exact c85 z16 (by omega)
      · skip
        refine JcI (z := (-5)) (show mx_Sn _ _ 35 (mx_const (.int (-5)) 37) from sn_201 35) rfl ?_
        exact mx_J.ret (sn_201 37) (fun _ _ => rfl) (hP (-5) Z1 h1 hx1 hG1 (fr_tr (M := [(56, 0), (62, (-1)), (64, (-1)), (65, (-1))]) fr_rf (fr_up hE1) (M1 := []) rfl rfl) (by omega))
    · skip
      refine JcI (z := (-2)) (show mx_Sn _ _ 17 (mx_const (.int (-2)) 19) from sn_201 17) rfl ?_
      exact mx_J.ret (sn_201 19) (fun _ _ => rfl) (hP (-2) Z1 h1 hx1 hG1 (fr_tr (M := [(56, 0), (62, (-1)), (64, (-1)), (65, (-1))]) fr_rf (fr_up hE1) (M1 := []) rfl rfl) (by omega))
theorem ct_201_56 {l : Launch} {D : va_G} {b0 : Nat} {ad : Nat → Nat} {Hb : Heap} {tau : Nat → Int64} {d n s : Nat} {S : Nat → xS} {Z : xZ} {h : mx_H} (hx : XH n s S Z h) (hG : GI n S Z)  {x0 x1 : Int} (p0 : (-2147483648) ≤ x0 ∧ x0 ≤ 2147483647) (p1 : (-2147483648) ≤ x1 ∧ x1 ≤ 2147483647) : ∃ (z : Int) (Z' : xZ) (h' : mx_H), mx_Ca (tB l D b0 ad Hb tau) (d + 6) 201 [.ref 56, xI x0, xI x1] h (some (xI z), h') ∧ XH n s S Z' h' ∧ GI n S Z' ∧ fr' [(56, 0), (62, (-1)), (64, (-1)), (65, (-1))] Z Z' ∧ ((-5) ≤ z ∧ z ≤ 384) := by
  obtain ⟨r, hca, z, Z', h', e, q⟩ := Jmt (B := tB l D b0 ad Hb tau) (M := mt_201) (mi := 201) (as := [.ref 56, xI x0, xI x1]) (d := d + 5) (ls := [some (.ref 56), some (xI x0), some (xI x1), none]) rfl rfl rfl rfl rfl rfl (cw_201_56 (l := l) (D := D) (b0 := b0) (ad := ad) (Hb := Hb) (tau := tau) (d := d) (Post := fun r => ∃ (z : Int) (Z' : xZ) (h' : mx_H), r = (some (xI z), h') ∧ XH n s S Z' h' ∧ GI n S Z' ∧ fr' [(56, 0), (62, (-1)), (64, (-1)), (65, (-1))] Z Z' ∧ ((-5) ≤ z ∧ z ≤ 384)) hx hG p0 p1 (fun z Z' h' q1 q2 q3 q4 => ⟨z, Z', h', rfl, q1, q2, q3, q4⟩))
  subst e; exact ⟨z, Z', h', hca, q⟩
set_option maxRecDepth 100000 in
theorem cw_202_56 {l : Launch} {D : va_G} {b0 : Nat} {ad : Nat → Nat} {Hb : Heap} {tau : Nat → Int64} {d n s : Nat} {S : Nat → xS} {Z : xZ} {h : mx_H} {Post : mx_R → Prop} (hx : XH n s S Z h) (hG : GI n S Z)   (hP : ∀ (Z' : xZ) (h' : mx_H), XH n s S Z' h' → GI n S Z' → fr' [(66, (-1))] Z Z' → (Z' 66 0 = Z 57 27) → Post (none, h')) : mx_J (tB l D b0 ad Hb tau) mt_202 (d + 0) 0 [some (.ref 56), none] [] h Post := by
    have a56 : 56 < n := lt83 (GI_n hG) rfl
    have s56 : S 56 = .inl (12, [0, 2, 2, 2, 2, 0, 0, 0, 0, 0, 0, 0, 0, 0, 0, 2, 2, 2, 0, 2, 2, 2, 0, 0, 2, 2, 2, 2, 2, 2, 0, 0, 2, 2, 2, 2, 2, 2, 2, 2, 2, 2]) := GI_s hG 56 rfl
    have a57 : 57 < n := lt83 (GI_n hG) rfl
    have s57 : S 57 = .inr (.int, 2886, 0) := GI_s hG 57 rfl
    have a66 : 66 < n := lt83 (GI_n hG) rfl
    have s66 : S 66 = .inr (.int, 3, 0) := GI_s hG 66 rfl
    refine JcI (z := 0) (show mx_Sn _ _ 0 (mx_const (.int 0) 1) from sn_202 0) rfl ?_
    refine mx_J.step (ls2 := [some (.ref 56), some (xI 0)]) (sn_202 1) (fun _ _ => rfl) ?_
    refine mx_J.step (sn_202 2) (fun _ _ => rfl) ?_
    refine JcI (z := 3) (show mx_Sn _ _ 3 (mx_const (.int 3) 4) from sn_202 3) rfl ?_
    refine Jicmp_ge (show mx_Sn _ _ 4 (mx_icmp_ge 28 7) from sn_202 4) (by omega) (by omega) (fun q1 => absurd q1 (by omega)) (fun q1 => ?_)
    refine mx_J.step (sn_202 7) (fun _ _ => rfl) ?_
    refine JgetR (g := 21) (b := 66) hx (show mx_Sn _ _ 8 (mx_getf 12 21 11) from sn_202 8) a56 s56 rfl rfl (hG.prr 56 21 rfl) ?_
    refine mx_J.step (sn_202 11) (fun _ _ => rfl) ?_
    refine mx_J.step (sn_202 12) (fun _ _ => rfl) ?_
    refine JgetR (g := 1) (b := 57) hx (show mx_Sn _ _ 13 (mx_getf 12 1 16) from sn_202 13) a56 s56 rfl rfl (hG.prr 56 1 rfl) ?_
    refine JcI (z := 27) (show mx_Sn _ _ 16 (mx_const (.int 27) 18) from sn_202 16) rfl ?_
    refine mx_J.step (sn_202 18) (fun _ _ => rfl) ?_
    refine JiaddE (r := 27) (show mx_Sn _ _ 19 (mx_iadd 20) from sn_202 19) (by decide) ?_
    have b4 := GI_st hG 27
    have b5 : 0 ≤ Z 56 18 ∧ Z 56 18 ≤ 385 := hG.pr 56 18
    have b6 : 0 ≤ Z 57 27 ∧ Z 57 27 ≤ 384 := by have hq := GI_ex hG 57 27; replace hq : f57 (27 % 962) (Z 57 27) := hq; unfold f57 at hq; omega
    have b7 : (-2147483648) ≤ Z 57 27 ∧ Z 57 27 ≤ 2147483647 := hG.pr 57 27
    refine JialdI (z := Z 57 27) hx (show mx_Sn _ _ 20 (mx_iald 21) from sn_202 20) a57 s57 (by omega) rfl ?_
    refine JiastI hx (show mx_Sn _ _ 21 (mx_iast 1 22) from sn_202 21) a66 s66 rfl (by omega) (fun Z8 h8 hx8 hE8 => ?_)
    have hG8 := GI_up hG hE8 (show (-2147483648) ≤ Z 57 27 ∧ Z 57 27 ≤ 2147483647 by omega) (show (((0 : Int) = 0 → 0 ≤ (Z 57 27) ∧ (Z 57 27) ≤ 384) ∧ ((0 : Int) = 1 → 0 ≤ (Z 57 27) ∧ (Z 57 27) ≤ 9)) by first | omega | (unfold f57 at *; omega)) rfl
    refine Jiinc (z := 0) (cz := 1) (ls2 := [some (.ref 56), some (xI 1)]) (show mx_Sn _ _ 22 (mx_iinc 1 1 25) from sn_202 22) rfl rfl rfl rfl ?_
    refine mx_J.step (sn_202 25) (fun _ _ => rfl) ?_
    refine mx_J.step (sn_202 2) (fun _ _ => rfl) ?_
    refine JcI (z := 3) (show mx_Sn _ _ 3 (mx_const (.int 3) 4) from sn_202 3) rfl ?_
    refine Jicmp_ge (show mx_Sn _ _ 4 (mx_icmp_ge 28 7) from sn_202 4) (by omega) (by omega) (fun q9 => absurd q9 (by omega)) (fun q9 => ?_)
    refine mx_J.step (sn_202 7) (fun _ _ => rfl) ?_
    refine JgetR (g := 21) (b := 66) hx8 (show mx_Sn _ _ 8 (mx_getf 12 21 11) from sn_202 8) a56 s56 rfl rfl (hG8.prr 56 21 rfl) ?_
    refine mx_J.step (sn_202 11) (fun _ _ => rfl) ?_
    refine mx_J.step (sn_202 12) (fun _ _ => rfl) ?_
    refine JgetR (g := 1) (b := 57) hx8 (show mx_Sn _ _ 13 (mx_getf 12 1 16) from sn_202 13) a56 s56 rfl rfl (hG8.prr 56 1 rfl) ?_
    refine JcI (z := 27) (show mx_Sn _ _ 16 (mx_const (.int 27) 18) from sn_202 16) rfl ?_
    refine mx_J.step (sn_202 18) (fun _ _ => rfl) ?_
    refine JiaddE (r := 28) (show mx_Sn _ _ 19 (mx_iadd 20) from sn_202 19) (by decide) ?_
    have b12 : 0 ≤ Z 57 28 ∧ Z 57 28 ≤ 9 := by have hq := GI_ex hG 57 28; replace hq : f57 (28 % 962) (Z 57 28) := hq; unfold f57 at hq; omega
    have b13 : (-2147483648) ≤ Z 57 28 ∧ Z 57 28 ≤ 2147483647 := hG.pr 57 28
    refine JialdI (z := Z 57 28) hx8 (show mx_Sn _ _ 20 (mx_iald 21) from sn_202 20) a57 s57 (by omega) (up_nk hE8 rfl) ?_
    refine JiastI hx8 (show mx_Sn _ _ 21 (mx_iast 1 22) from sn_202 21) a66 s66 rfl (by omega) (fun Z14 h14 hx14 hE14 => ?_)
    have hG14 := GI_up hG8 hE14 (show (-2147483648) ≤ Z 57 28 ∧ Z 57 28 ≤ 2147483647 by omega) (show (((1 : Int) = 0 → 0 ≤ (Z 57 28) ∧ (Z 57 28) ≤ 384) ∧ ((1 : Int) = 1 → 0 ≤ (Z 57 28) ∧ (Z 57 28) ≤ 9)) by first | omega | (unfold f57 at *; omega)) rfl
    refine Jiinc (z := 1) (cz := 1) (ls2 := [some (.ref 56), some (xI 2)]) (show mx_Sn _ _ 22 (mx_iinc 1 1 25) from sn_202 22) rfl rfl rfl rfl ?_
    refine mx_J.step (sn_202 25) (fun _ _ => rfl) ?_
    refine mx_J.step (sn_202 2) (fun _ _ => rfl) ?_
    refine JcI (z := 3) (show mx_Sn _ _ 3 (mx_const (.int 3) 4) from sn_202 3) rfl ?_
    refine Jicmp_ge (show mx_Sn _ _ 4 (mx_icmp_ge 28 7) from sn_202 4) (by omega) (by omega) (fun q15 => absurd q15 (by omega)) (fun q15 => ?_)
    refine mx_J.step (sn_202 7) (fun _ _ => rfl) ?_
    refine JgetR (g := 21) (b := 66) hx14 (show mx_Sn _ _ 8 (mx_getf 12 21 11) from sn_202 8) a56 s56 rfl rfl (hG14.prr 56 21 rfl) ?_
    refine mx_J.step (sn_202 11) (fun _ _ => rfl) ?_
    refine mx_J.step (sn_202 12) (fun _ _ => rfl) ?_
    refine JgetR (g := 1) (b := 57) hx14 (show mx_Sn _ _ 13 (mx_getf 12 1 16) from sn_202 13) a56 s56 rfl rfl (hG14.prr 56 1 rfl) ?_
    refine JcI (z := 27) (show mx_Sn _ _ 16 (mx_const (.int 27) 18) from sn_202 16) rfl ?_
    refine mx_J.step (sn_202 18) (fun _ _ => rfl) ?_
    refine JiaddE (r := 29) (show mx_Sn _ _ 19 (mx_iadd 20) from sn_202 19) (by decide) ?_
    have b18 : (-2147483648) ≤ Z 57 29 ∧ Z 57 29 ≤ 2147483647 := hG.pr 57 29
    refine JialdI (z := Z 57 29) hx14 (show mx_Sn _ _ 20 (mx_iald 21) from sn_202 20) a57 s57 (by omega) ((up_nk hE14 rfl).trans (up_nk hE8 rfl)) ?_
    refine JiastI hx14 (show mx_Sn _ _ 21 (mx_iast 1 22) from sn_202 21) a66 s66 rfl (by omega) (fun Z19 h19 hx19 hE19 => ?_)
    have hG19 := GI_up hG14 hE19 (show (-2147483648) ≤ Z 57 29 ∧ Z 57 29 ≤ 2147483647 by omega) (show (((2 : Int) = 0 → 0 ≤ (Z 57 29) ∧ (Z 57 29) ≤ 384) ∧ ((2 : Int) = 1 → 0 ≤ (Z 57 29) ∧ (Z 57 29) ≤ 9)) by first | omega | (unfold f57 at *; omega)) rfl
    refine Jiinc (z := 2) (cz := 1) (ls2 := [some (.ref 56), some (xI 3)]) (show mx_Sn _ _ 22 (mx_iinc 1 1 25) from sn_202 22) rfl rfl rfl rfl ?_
    refine mx_J.step (sn_202 25) (fun _ _ => rfl) ?_
    refine mx_J.step (sn_202 2) (fun _ _ => rfl) ?_
    refine JcI (z := 3) (show mx_Sn _ _ 3 (mx_const (.int 3) 4) from sn_202 3) rfl ?_
    refine Jicmp_ge (show mx_Sn _ _ 4 (mx_icmp_ge 28 7) from sn_202 4) (by omega) (by omega) (fun q20 => ?_) (fun q20 => absurd q20 (by omega))
    have eq21 : Z19 66 0 = Z 57 27 := ((up_ni hE19 (by decide)).trans ((up_ni hE14 (by decide)).trans (up_at hE8)))
    have eq22 : Z19 57 27 = Z 57 27 := ((up_nk hE19 rfl).trans ((up_nk hE14 rfl).trans (up_nk hE8 rfl)))
    exact mx_J.ret (sn_202 28) (fun _ _ => rfl) (hP Z19 h19 hx19 hG19 (fr_tr (M := [(66, (-1))]) (fr_tr (M := [(66, (-1))]) (fr_tr (M := [(66, (-1))]) fr_rf (fr_ua hE8) (M1 := []) rfl rfl) (fr_ua hE14) rfl rfl) (fr_ua hE19) rfl rfl) (by omega))
theorem ct_202_56 {l : Launch} {D : va_G} {b0 : Nat} {ad : Nat → Nat} {Hb : Heap} {tau : Nat → Int64} {d n s : Nat} {S : Nat → xS} {Z : xZ} {h : mx_H} (hx : XH n s S Z h) (hG : GI n S Z)   : ∃ (Z' : xZ) (h' : mx_H), mx_Ca (tB l D b0 ad Hb tau) (d + 1) 202 [.ref 56] h (none, h') ∧ XH n s S Z' h' ∧ GI n S Z' ∧ fr' [(66, (-1))] Z Z' ∧ ((Z' 66 0 = Z 57 27)) := by
  obtain ⟨r, hca, Z', h', e, q⟩ := Jmt (B := tB l D b0 ad Hb tau) (M := mt_202) (mi := 202) (as := [.ref 56]) (d := d + 0) (ls := [some (.ref 56), none]) rfl rfl rfl rfl rfl rfl (cw_202_56 (l := l) (D := D) (b0 := b0) (ad := ad) (Hb := Hb) (tau := tau) (d := d) (Post := fun r => ∃ (Z' : xZ) (h' : mx_H), r = (none, h') ∧ XH n s S Z' h' ∧ GI n S Z' ∧ fr' [(66, (-1))] Z Z' ∧ ((Z' 66 0 = Z 57 27))) hx hG  (fun Z' h' q1 q2 q3 q4 => ⟨Z', h', rfl, q1, q2, q3, q4⟩))
  subst e; exact ⟨Z', h', hca, q⟩
set_option maxRecDepth 100000 in
theorem cw_203_56 {l : Launch} {D : va_G} {b0 : Nat} {ad : Nat → Nat} {Hb : Heap} {tau : Nat → Int64} {d n s : Nat} {S : Nat → xS} {Z : xZ} {h : mx_H} {Post : mx_R → Prop} (hx : XH n s S Z h) (hG : GI n S Z)   (k0 : Z 66 0 < Z 56 18) (hP : ∀ (Z' : xZ) (h' : mx_H), XH n s S Z' h' → GI n S Z' → fr' [(57, (-1))] Z Z' → (Z' 57 1 = Z 57 1 ∧ Z' 57 963 = Z 57 963 ∧ Z' 57 1925 = Z 57 1925) → Post (none, h')) : mx_J (tB l D b0 ad Hb tau) mt_203 (d + 0) 0 [some (.ref 56), none] [] h Post := by
    have a56 : 56 < n := lt83 (GI_n hG) rfl
    have s56 : S 56 = .inl (12, [0, 2, 2, 2, 2, 0, 0, 0, 0, 0, 0, 0, 0, 0, 0, 2, 2, 2, 0, 2, 2, 2, 0, 0, 2, 2, 2, 2, 2, 2, 0, 0, 2, 2, 2, 2, 2, 2, 2, 2, 2, 2]) := GI_s hG 56 rfl
    have a57 : 57 < n := lt83 (GI_n hG) rfl
    have s57 : S 57 = .inr (.int, 2886, 0) := GI_s hG 57 rfl
    have a66 : 66 < n := lt83 (GI_n hG) rfl
    have s66 : S 66 = .inr (.int, 3, 0) := GI_s hG 66 rfl
    refine JcI (z := 0) (show mx_Sn _ _ 0 (mx_const (.int 0) 1) from sn_203 0) rfl ?_
    refine mx_J.step (ls2 := [some (.ref 56), some (xI 0)]) (sn_203 1) (fun _ _ => rfl) ?_
    refine mx_J.step (sn_203 2) (fun _ _ => rfl) ?_
    refine JcI (z := 3) (show mx_Sn _ _ 3 (mx_const (.int 3) 4) from sn_203 3) rfl ?_
    refine Jicmp_ge (show mx_Sn _ _ 4 (mx_icmp_ge 28 7) from sn_203 4) (by omega) (by omega) (fun q1 => absurd q1 (by omega)) (fun q1 => ?_)
    refine mx_J.step (sn_203 7) (fun _ _ => rfl) ?_
    refine JgetR (g := 1) (b := 57) hx (show mx_Sn _ _ 8 (mx_getf 12 1 11) from sn_203 8) a56 s56 rfl rfl (hG.prr 56 1 rfl) ?_
    refine JcI (z := 27) (show mx_Sn _ _ 11 (mx_const (.int 27) 13) from sn_203 11) rfl ?_
    refine mx_J.step (sn_203 13) (fun _ _ => rfl) ?_
    refine JiaddE (r := 27) (show mx_Sn _ _ 14 (mx_iadd 15) from sn_203 14) (by decide) ?_
    refine mx_J.step (sn_203 15) (fun _ _ => rfl) ?_
    refine JgetR (g := 21) (b := 66) hx (show mx_Sn _ _ 16 (mx_getf 12 21 19) from sn_203 16) a56 s56 rfl rfl (hG.prr 56 21 rfl) ?_
    refine mx_J.step (sn_203 19) (fun _ _ => rfl) ?_
    have b4 : (-2147483648) ≤ Z 66 0 ∧ Z 66 0 ≤ 2147483647 := hG.pr 66 0
    have b5 : (((0 : Int) = 0 → 0 ≤ (Z 66 0) ∧ (Z 66 0) ≤ 384) ∧ ((0 : Int) = 1 → 0 ≤ (Z 66 0) ∧ (Z 66 0) ≤ 9)) := GI_ex hG 66 0
    refine JialdI (z := Z 66 0) hx (show mx_Sn _ _ 20 (mx_iald 21) from sn_203 20) a66 s66 (by omega) rfl ?_
    refine JiastI hx (show mx_Sn _ _ 21 (mx_iast 1 22) from sn_203 21) a57 s57 rfl (by omega) (fun Z6 h6 hx6 hE6 => ?_)
    have b7 : 0 ≤ Z 56 18 ∧ Z 56 18 ≤ 385 := hG.pr 56 18
    have hG6 := GI_up57 hG hE6 (show (-2147483648) ≤ Z 66 0 ∧ Z 66 0 ≤ 2147483647 by omega) (show f57 ((27) % 962) (Z 66 0) by first | assumption | (unfold f57; omega) | (unfold f57 at *; omega)) (by omega) (by omega)
    refine Jiinc (z := 0) (cz := 1) (ls2 := [some (.ref 56), some (xI 1)]) (show mx_Sn _ _ 22 (mx_iinc 1 1 25) from sn_203 22) rfl rfl rfl rfl ?_
    refine mx_J.step (sn_203 25) (fun _ _ => rfl) ?_
    refine mx_J.step (sn_203 2) (fun _ _ => rfl) ?_
    refine JcI (z := 3) (show mx_Sn _ _ 3 (mx_const (.int 3) 4) from sn_203 3) rfl ?_
    refine Jicmp_ge (show mx_Sn _ _ 4 (mx_icmp_ge 28 7) from sn_203 4) (by omega) (by omega) (fun q8 => absurd q8 (by omega)) (fun q8 => ?_)
    refine mx_J.step (sn_203 7) (fun _ _ => rfl) ?_
    refine JgetR (g := 1) (b := 57) hx6 (show mx_Sn _ _ 8 (mx_getf 12 1 11) from sn_203 8) a56 s56 rfl rfl (hG6.prr 56 1 rfl) ?_
    refine JcI (z := 27) (show mx_Sn _ _ 11 (mx_const (.int 27) 13) from sn_203 11) rfl ?_
    refine mx_J.step (sn_203 13) (fun _ _ => rfl) ?_
    refine JiaddE (r := 28) (show mx_Sn _ _ 14 (mx_iadd 15) from sn_203 14) (by decide) ?_
    refine mx_J.step (sn_203 15) (fun _ _ => rfl) ?_
    refine JgetR (g := 21) (b := 66) hx6 (show mx_Sn _ _ 16 (mx_getf 12 21 19) from sn_203 16) a56 s56 rfl rfl (hG6.prr 56 21 rfl) ?_
    refine mx_J.step (sn_203 19) (fun _ _ => rfl) ?_
    have b11 : (-2147483648) ≤ Z 66 1 ∧ Z 66 1 ≤ 2147483647 := hG.pr 66 1
    have b12 : (((1 : Int) = 0 → 0 ≤ (Z 66 1) ∧ (Z 66 1) ≤ 384) ∧ ((1 : Int) = 1 → 0 ≤ (Z 66 1) ∧ (Z 66 1) ≤ 9)) := GI_ex hG 66 1
    refine JialdI (z := Z 66 1) hx6 (show mx_Sn _ _ 20 (mx_iald 21) from sn_203 20) a66 s66 (by omega) (up_nk hE6 rfl) ?_
    refine JiastI hx6 (show mx_Sn _ _ 21 (mx_iast 1 22) from sn_203 21) a57 s57 rfl (by omega) (fun Z13 h13 hx13 hE13 => ?_)
    have eq14 : Z6 56 18 = Z 56 18 := (up_nk hE6 rfl)
    have hG13 := GI_up57 hG6 hE13 (show (-2147483648) ≤ Z 66 1 ∧ Z 66 1 ≤ 2147483647 by omega) (show f57 ((28) % 962) (Z 66 1) by first | assumption | (unfold f57; omega) | (unfold f57 at *; omega)) (by omega) (by omega)
    refine Jiinc (z := 1) (cz := 1) (ls2 := [some (.ref 56), some (xI 2)]) (show mx_Sn _ _ 22 (mx_iinc 1 1 25) from sn_203 22) rfl rfl rfl rfl ?_
    refine mx_J.step (sn_203 25) (fun _ _ => rfl) ?_
    refine mx_J.step (sn_203 2) (fun _ _ => rfl) ?_
    refine JcI (z := 3) (show mx_Sn _ _ 3 (mx_const (.int 3) 4) from sn_203 3) rfl ?_
    refine Jicmp_ge (show mx_Sn _ _ 4 (mx_icmp_ge 28 7) from sn_203 4) (by omega) (by omega) (fun q15 => absurd q15 (by omega)) (fun q15 => ?_)
    refine mx_J.step (sn_203 7) (fun _ _ => rfl) ?_
    refine JgetR (g := 1) (b := 57) hx13 (show mx_Sn _ _ 8 (mx_getf 12 1 11) from sn_203 8) a56 s56 rfl rfl (hG13.prr 56 1 rfl) ?_
    refine JcI (z := 27) (show mx_Sn _ _ 11 (mx_const (.int 27) 13) from sn_203 11) rfl ?_
    refine mx_J.step (sn_203 13) (fun _ _ => rfl) ?_
    refine JiaddE (r := 29) (show mx_Sn _ _ 14 (mx_iadd 15) from sn_203 14) (by decide) ?_
    refine mx_J.step (sn_203 15) (fun _ _ => rfl) ?_
    refine JgetR (g := 21) (b := 66) hx13 (show mx_Sn _ _ 16 (mx_getf 12 21 19) from sn_203 16) a56 s56 rfl rfl (hG13.prr 56 21 rfl) ?_
    refine mx_J.step (sn_203 19) (fun _ _ => rfl) ?_
    have b18 : (-2147483648) ≤ Z 66 2 ∧ Z 66 2 ≤ 2147483647 := hG.pr 66 2
    have b19 : (((2 : Int) = 0 → 0 ≤ (Z 66 2) ∧ (Z 66 2) ≤ 384) ∧ ((2 : Int) = 1 → 0 ≤ (Z 66 2) ∧ (Z 66 2) ≤ 9)) := GI_ex hG 66 2
    refine JialdI (z := Z 66 2) hx13 (show mx_Sn _ _ 20 (mx_iald 21) from sn_203 20) a66 s66 (by omega) ((up_nk hE13 rfl).trans (up_nk hE6 rfl)) ?_
    refine JiastI hx13 (show mx_Sn _ _ 21 (mx_iast 1 22) from sn_203 21) a57 s57 rfl (by omega) (fun Z20 h20 hx20 hE20 => ?_)
    have eq21 : Z13 56 18 = Z 56 18 := ((up_nk hE13 rfl).trans (up_nk hE6 rfl))
    have hG20 := GI_up57 hG13 hE20 (show (-2147483648) ≤ Z 66 2 ∧ Z 66 2 ≤ 2147483647 by omega) (show f57 ((29) % 962) (Z 66 2) by first | assumption | (unfold f57; omega) | (unfold f57 at *; omega)) (by omega) (by omega)
    refine Jiinc (z := 2) (cz := 1) (ls2 := [some (.ref 56), some (xI 3)]) (show mx_Sn _ _ 22 (mx_iinc 1 1 25) from sn_203 22) rfl rfl rfl rfl ?_
    refine mx_J.step (sn_203 25) (fun _ _ => rfl) ?_
    refine mx_J.step (sn_203 2) (fun _ _ => rfl) ?_
    refine JcI (z := 3) (show mx_Sn _ _ 3 (mx_const (.int 3) 4) from sn_203 3) rfl ?_
    refine Jicmp_ge (show mx_Sn _ _ 4 (mx_icmp_ge 28 7) from sn_203 4) (by omega) (by omega) (fun q22 => ?_) (fun q22 => absurd q22 (by omega))
    have eq23 : Z20 57 1 = Z 57 1 := ((up_ni hE20 (by decide)).trans ((up_ni hE13 (by decide)).trans (up_ni hE6 (by decide))))
    have b24 : 0 ≤ Z 57 1 ∧ Z 57 1 ≤ 18 := by have hq := GI_ex hG 57 1; replace hq : f57 (1 % 962) (Z 57 1) := hq; unfold f57 at hq; omega
    have b25 : (-2147483648) ≤ Z 57 1 ∧ Z 57 1 ≤ 2147483647 := hG.pr 57 1
    have eq26 : Z20 57 963 = Z 57 963 := ((up_ni hE20 (by decide)).trans ((up_ni hE13 (by decide)).trans (up_ni hE6 (by decide))))
    have b27 : 0 ≤ Z 57 963 ∧ Z 57 963 ≤ 18 := by have hq := GI_ex hG 57 963; replace hq : f57 (963 % 962) (Z 57 963) := hq; unfold f57 at hq; omega
    have b28 : (-2147483648) ≤ Z 57 963 ∧ Z 57 963 ≤ 2147483647 := hG.pr 57 963
    have eq29 : Z20 57 1925 = Z 57 1925 := ((up_ni hE20 (by decide)).trans ((up_ni hE13 (by decide)).trans (up_ni hE6 (by decide))))
    have b30 : 0 ≤ Z 57 1925 ∧ Z 57 1925 ≤ 18 := by have hq := GI_ex hG 57 1925; replace hq : f57 (1925 % 962) (Z 57 1925) := hq; unfold f57 at hq; omega
    have b31 : (-2147483648) ≤ Z 57 1925 ∧ Z 57 1925 ≤ 2147483647 := hG.pr 57 1925
    have eq32 : Z20 66 0 = Z 66 0 := ((up_nk hE20 rfl).trans ((up_nk hE13 rfl).trans (up_nk hE6 rfl)))
    have eq33 : Z20 56 18 = Z 56 18 := ((up_nk hE20 rfl).trans ((up_nk hE13 rfl).trans (up_nk hE6 rfl)))
    have eq34 : Z20 57 1 = Z 57 1 := ((up_ni hE20 (by decide)).trans ((up_ni hE13 (by decide)).trans (up_ni hE6 (by decide))))
    have eq35 : Z20 57 963 = Z 57 963 := ((up_ni hE20 (by decide)).trans ((up_ni hE13 (by decide)).trans (up_ni hE6 (by decide))))
    have eq36 : Z20 57 1925 = Z 57 1925 := ((up_ni hE20 (by decide)).trans ((up_ni hE13 (by decide)).trans (up_ni hE6 (by decide))))
    exact mx_J.ret (sn_203 28) (fun _ _ => rfl) (hP Z20 h20 hx20 hG20 (fr_tr (M := [(57, (-1))]) (fr_tr (M := [(57, (-1))]) (fr_tr (M := [(57, (-1))]) fr_rf (fr_ua hE6) (M1 := []) rfl rfl) (fr_ua hE13) rfl rfl) (fr_ua hE20) rfl rfl) (by omega))
theorem ct_203_56 {l : Launch} {D : va_G} {b0 : Nat} {ad : Nat → Nat} {Hb : Heap} {tau : Nat → Int64} {d n s : Nat} {S : Nat → xS} {Z : xZ} {h : mx_H} (hx : XH n s S Z h) (hG : GI n S Z)   (k0 : Z 66 0 < Z 56 18) : ∃ (Z' : xZ) (h' : mx_H), mx_Ca (tB l D b0 ad Hb tau) (d + 1) 203 [.ref 56] h (none, h') ∧ XH n s S Z' h' ∧ GI n S Z' ∧ fr' [(57, (-1))] Z Z' ∧ ((Z' 57 1 = Z 57 1 ∧ Z' 57 963 = Z 57 963 ∧ Z' 57 1925 = Z 57 1925)) := by
  obtain ⟨r, hca, Z', h', e, q⟩ := Jmt (B := tB l D b0 ad Hb tau) (M := mt_203) (mi := 203) (as := [.ref 56]) (d := d + 0) (ls := [some (.ref 56), none]) rfl rfl rfl rfl rfl rfl (cw_203_56 (l := l) (D := D) (b0 := b0) (ad := ad) (Hb := Hb) (tau := tau) (d := d) (Post := fun r => ∃ (Z' : xZ) (h' : mx_H), r = (none, h') ∧ XH n s S Z' h' ∧ GI n S Z' ∧ fr' [(57, (-1))] Z Z' ∧ ((Z' 57 1 = Z 57 1 ∧ Z' 57 963 = Z 57 963 ∧ Z' 57 1925 = Z 57 1925))) hx hG k0 (fun Z' h' q1 q2 q3 q4 => ⟨Z', h', rfl, q1, q2, q3, q4⟩))
  subst e; exact ⟨Z', h', hca, q⟩
set_option maxRecDepth 100000 in
theorem cw_204_56 {l : Launch} {D : va_G} {b0 : Nat} {ad : Nat → Nat} {Hb : Heap} {tau : Nat → Int64} {d n s : Nat} {S : Nat → xS} {Z : xZ} {h : mx_H} {Post : mx_R → Prop} (hx : XH n s S Z h) (hG : GI n S Z)   (k0 : Z 66 0 < Z 56 18) (hP : ∀ (Z' : xZ) (h' : mx_H), XH n s S Z' h' → GI n S Z' → fr' [(57, (-1))] Z Z' → (Z' 57 1 = Z 57 1 ∧ Z' 57 963 = Z 57 963 ∧ Z' 57 1925 = Z 57 1925) → Post (none, h')) : mx_J (tB l D b0 ad Hb tau) mt_204 (d + 0) 0 [some (.ref 56), none] [] h Post := by
    have a56 : 56 < n := lt83 (GI_n hG) rfl
    have s56 : S 56 = .inl (12, [0, 2, 2, 2, 2, 0, 0, 0, 0, 0, 0, 0, 0, 0, 0, 2, 2, 2, 0, 2, 2, 2, 0, 0, 2, 2, 2, 2, 2, 2, 0, 0, 2, 2, 2, 2, 2, 2, 2, 2, 2, 2]) := GI_s hG 56 rfl
    have a57 : 57 < n := lt83 (GI_n hG) rfl
    have s57 : S 57 = .inr (.int, 2886, 0) := GI_s hG 57 rfl
    have a66 : 66 < n := lt83 (GI_n hG) rfl
    have s66 : S 66 = .inr (.int, 3, 0) := GI_s hG 66 rfl
    refine mx_J.step (sn_204 0) (fun _ _ => rfl) ?_
    refine JgetR (g := 1) (b := 57) hx (show mx_Sn _ _ 1 (mx_getf 12 1 4) from sn_204 1) a56 s56 rfl rfl (hG.prr 56 1 rfl) ?_
    refine JcI (z := 30) (show mx_Sn _ _ 4 (mx_const (.int 30) 6) from sn_204 4) rfl ?_
    have b2 : 0 ≤ Z 57 30 ∧ Z 57 30 ≤ 10 := by have hq := GI_ex hG 57 30; replace hq : f57 (30 % 962) (Z 57 30) := hq; unfold f57 at hq; omega
    have b3 : (-2147483648) ≤ Z 57 30 ∧ Z 57 30 ≤ 2147483647 := hG.pr 57 30
    refine JialdI (z := Z 57 30) hx (show mx_Sn _ _ 6 (mx_iald 7) from sn_204 6) a57 s57 (by omega) rfl ?_
    refine JcI (z := 10) (show mx_Sn _ _ 7 (mx_const (.int 10) 9) from sn_204 7) rfl ?_
    have c55 : ∀ (u4_1 : Option Value) (Z5 : xZ) (h5 : mx_H), (Z5 57 30 ≤ 9) → (Z5 57 1 = Z 57 1 ∧ Z5 57 963 = Z 57 963 ∧ Z5 57 1925 = Z 57 1925) → XH n s S Z5 h5 → GI n S Z5 → fr' [(57, (-1))] Z Z5 → mx_J (tB l D b0 ad Hb tau) mt_204 (d + 0) 55 [some (.ref 56), u4_1] [] h5 Post := by
      intro u4_1 Z5 h5 f4_0 f4_1 hx5 hG5 hf5
      have b6 : 0 ≤ Z5 57 30 ∧ Z5 57 30 ≤ 10 := by have hq := GI_ex hG5 57 30; replace hq : f57 (30 % 962) (Z5 57 30) := hq; unfold f57 at hq; omega
      have b7 : (-2147483648) ≤ Z5 57 30 ∧ Z5 57 30 ≤ 2147483647 := hG5.pr 57 30
      have b8 : 0 ≤ Z5 57 1 ∧ Z5 57 1 ≤ 18 := by have hq := GI_ex hG5 57 1; replace hq : f57 (1 % 962) (Z5 57 1) := hq; unfold f57 at hq; omega
      have b9 : (-2147483648) ≤ Z5 57 1 ∧ Z5 57 1 ≤ 2147483647 := hG5.pr 57 1
      have b10 : 0 ≤ Z5 57 963 ∧ Z5 57 963 ≤ 18 := by have hq := GI_ex hG5 57 963; replace hq : f57 (963 % 962) (Z5 57 963) := hq; unfold f57 at hq; omega
      have b11 : (-2147483648) ≤ Z5 57 963 ∧ Z5 57 963 ≤ 2147483647 := hG5.pr 57 963
      have b12 : 0 ≤ Z5 57 1925 ∧ Z5 57 1925 ≤ 18 := by have hq := GI_ex hG5 57 1925; replace hq : f57 (1925 % 962) (Z5 57 1925) := hq; unfold f57 at hq; omega
      have b13 : (-2147483648) ≤ Z5 57 1925 ∧ Z5 57 1925 ≤ 2147483647 := hG5.pr 57 1925
      refine JcI (z := 0) (show mx_Sn _ _ 55 (mx_const (.int 0) 56) from sn_204 55) rfl ?_
      refine mx_J.step (ls2 := [some (.ref 56), some (xI 0)]) (sn_204 56) (fun _ _ => rfl) ?_
      refine mx_J.step (sn_204 57) (fun _ _ => rfl) ?_
      refine JcI (z := 3) (show mx_Sn _ _ 58 (mx_const (.int 3) 59) from sn_204 58) rfl ?_
      refine Jicmp_ge (show mx_Sn _ _ 59 (mx_icmp_ge 93 62) from sn_204 59) (by omega) (by omega) (fun q14 => absurd q14 (by omega)) (fun q14 => ?_)
      refine mx_J.step (sn_204 62) (fun _ _ => rfl) ?_
      refine JgetR (g := 1) (b := 57) hx5 (show mx_Sn _ _ 63 (mx_getf 12 1 66) from sn_204 63) a56 s56 rfl rfl (hG5.prr 56 1 rfl) ?_
      refine JcI (z := 31) (show mx_Sn _ _ 66 (mx_const (.int 31) 68) from sn_204 66) rfl ?_
      refine JcI (z := 3) (show mx_Sn _ _ 68 (mx_const (.int 3) 69) from sn_204 68) rfl ?_
      refine mx_J.step (sn_204 69) (fun _ _ => rfl) ?_
      refine JgetR (g := 1) (b := 57) hx5 (show mx_Sn _ _ 70 (mx_getf 12 1 73) from sn_204 70) a56 s56 rfl rfl (hG5.prr 56 1 rfl) ?_
      refine JcI (z := 30) (show mx_Sn _ _ 73 (mx_const (.int 30) 75) from sn_204 73) rfl ?_
      refine JialdI (z := Z5 57 30) hx5 (show mx_Sn _ _ 75 (mx_iald 76) from sn_204 75) a57 s57 (by omega) rfl ?_
      refine Jimul (show mx_Sn _ _ 76 (mx_imul 77) from sn_204 76) ?_
      refine Jiadd (show mx_Sn _ _ 77 (mx_iadd 78) from sn_204 77) ?_
      refine mx_J.step (sn_204 78) (fun _ _ => rfl) ?_
      refine Jiadd (show mx_Sn _ _ 79 (mx_iadd 80) from sn_204 79) ?_
      refine mx_J.step (sn_204 80) (fun _ _ => rfl) ?_
      refine JgetR (g := 21) (b := 66) hx5 (show mx_Sn _ _ 81 (mx_getf 12 21 84) from sn_204 81) a56 s56 rfl rfl (hG5.prr 56 21 rfl) ?_
      refine mx_J.step (sn_204 84) (fun _ _ => rfl) ?_
      have b18 : (-2147483648) ≤ Z 66 0 ∧ Z 66 0 ≤ 2147483647 := hG.pr 66 0
      have b19 : (((0 : Int) = 0 → 0 ≤ (Z 66 0) ∧ (Z 66 0) ≤ 384) ∧ ((0 : Int) = 1 → 0 ≤ (Z 66 0) ∧ (Z 66 0) ≤ 9)) := GI_ex hG 66 0
      refine JialdI (z := Z 66 0) hx5 (show mx_Sn _ _ 85 (mx_iald 86) from sn_204 85) a66 s66 (by omega) (hf5 66 0 rfl) ?_
      refine JiastI hx5 (show mx_Sn _ _ 86 (mx_iast 1 87) from sn_204 86) a57 s57 rfl (by omega) (fun Z20 h20 hx20 hE20 => ?_)
      have eq21 : Z5 56 18 = Z 56 18 := (hf5 56 18 rfl)
      have b22 : 0 ≤ Z 56 18 ∧ Z 56 18 ≤ 385 := hG.pr 56 18
      have hG20 := GI_up57 hG5 hE20 (show (-2147483648) ≤ Z 66 0 ∧ Z 66 0 ≤ 2147483647 by omega) (show f57 (((31 + (3 * (Z5 57 30))) + 0) % 962) (Z 66 0) by first | (rw [Int.emod_eq_of_lt (by omega) (by omega)]; unfold f57; omega) | assumption | (unfold f57; omega) | (unfold f57 at *; omega)) (by omega) (by omega)
      refine Jiinc (z := 0) (cz := 1) (ls2 := [some (.ref 56), some (xI 1)]) (show mx_Sn _ _ 87 (mx_iinc 1 1 90) from sn_204 87) rfl rfl rfl rfl ?_
      refine mx_J.step (sn_204 90) (fun _ _ => rfl) ?_
      refine mx_J.step (sn_204 57) (fun _ _ => rfl) ?_
      refine JcI (z := 3) (show mx_Sn _ _ 58 (mx_const (.int 3) 59) from sn_204 58) rfl ?_
      refine Jicmp_ge (show mx_Sn _ _ 59 (mx_icmp_ge 93 62) from sn_204 59) (by omega) (by omega) (fun q23 => absurd q23 (by omega)) (fun q23 => ?_)
      refine mx_J.step (sn_204 62) (fun _ _ => rfl) ?_
      refine JgetR (g := 1) (b := 57) hx20 (show mx_Sn _ _ 63 (mx_getf 12 1 66) from sn_204 63) a56 s56 rfl rfl (hG20.prr 56 1 rfl) ?_
      refine JcI (z := 31) (show mx_Sn _ _ 66 (mx_const (.int 31) 68) from sn_204 66) rfl ?_
      refine JcI (z := 3) (show mx_Sn _ _ 68 (mx_const (.int 3) 69) from sn_204 68) rfl ?_
      refine mx_J.step (sn_204 69) (fun _ _ => rfl) ?_
      refine JgetR (g := 1) (b := 57) hx20 (show mx_Sn _ _ 70 (mx_getf 12 1 73) from sn_204 70) a56 s56 rfl rfl (hG20.prr 56 1 rfl) ?_
      refine JcI (z := 30) (show mx_Sn _ _ 73 (mx_const (.int 30) 75) from sn_204 73) rfl ?_
      refine JialdI (z := Z5 57 30) hx20 (show mx_Sn _ _ 75 (mx_iald 76) from sn_204 75) a57 s57 (by omega) (up_ni hE20 (by omega)) ?_
      refine Jimul (show mx_Sn _ _ 76 (mx_imul 77) from sn_204 76) ?_
      refine Jiadd (show mx_Sn _ _ 77 (mx_iadd 78) from sn_204 77) ?_
      refine mx_J.step (sn_204 78) (fun _ _ => rfl) ?_
      refine Jiadd (show mx_Sn _ _ 79 (mx_iadd 80) from sn_204 79) ?_
      refine mx_J.step (sn_204 80) (fun _ _ => rfl) ?_
      refine JgetR (g := 21) (b := 66) hx20 (show mx_Sn _ _ 81 (mx_getf 12 21 84) from sn_204 81) a56 s56 rfl rfl (hG20.prr 56 21 rfl) ?_
      refine mx_J.step (sn_204 84) (fun _ _ => rfl) ?_
      have b27 : (-2147483648) ≤ Z 66 1 ∧ Z 66 1 ≤ 2147483647 := hG.pr 66 1
      have b28 : (((1 : Int) = 0 → 0 ≤ (Z 66 1) ∧ (Z 66 1) ≤ 384) ∧ ((1 : Int) = 1 → 0 ≤ (Z 66 1) ∧ (Z 66 1) ≤ 9)) := GI_ex hG 66 1
      refine JialdI (z := Z 66 1) hx20 (show mx_Sn _ _ 85 (mx_iald 86) from sn_204 85) a66 s66 (by omega) ((up_nk hE20 rfl).trans (hf5 66 1 rfl)) ?_
      refine JiastI hx20 (show mx_Sn _ _ 86 (mx_iast 1 87) from sn_204 86) a57 s57 rfl (by omega) (fun Z29 h29 hx29 hE29 => ?_)
      have eq30 : Z20 56 18 = Z 56 18 := ((up_nk hE20 rfl).trans (hf5 56 18 rfl))
      have hG29 := GI_up57 hG20 hE29 (show (-2147483648) ≤ Z 66 1 ∧ Z 66 1 ≤ 2147483647 by omega) (show f57 (((31 + (3 * (Z5 57 30))) + 1) % 962) (Z 66 1) by first | (rw [Int.emod_eq_of_lt (by omega) (by omega)]; unfold f57; omega) | assumption | (unfold f57; omega) | (unfold f57 at *; omega)) (by omega) (by omega)
      refine Jiinc (z := 1) (cz := 1) (ls2 := [some (.ref 56), some (xI 2)]) (show mx_Sn _ _ 87 (mx_iinc 1 1 90) from sn_204 87) rfl rfl rfl rfl ?_
      refine mx_J.step (sn_204 90) (fun _ _ => rfl) ?_
      refine mx_J.step (sn_204 57) (fun _ _ => rfl) ?_
      refine JcI (z := 3) (show mx_Sn _ _ 58 (mx_const (.int 3) 59) from sn_204 58) rfl ?_
      refine Jicmp_ge (show mx_Sn _ _ 59 (mx_icmp_ge 93 62) from sn_204 59) (by omega) (by omega) (fun q31 => absurd q31 (by omega)) (fun q31 => ?_)
      refine mx_J.step (sn_204 62) (fun _ _ => rfl) ?_
      refine JgetR (g := 1) (b := 57) hx29 (show mx_Sn _ _ 63 (mx_getf 12 1 66) from sn_204 63) a56 s56 rfl rfl (hG29.prr 56 1 rfl) ?_
      refine JcI (z := 31) (show mx_Sn _ _ 66 (mx_const (.int 31) 68) from sn_204 66) rfl ?_
      refine JcI (z := 3) (show mx_Sn _ _ 68 (mx_const (.int 3) 69) from sn_204 68) rfl ?_
      refine mx_J.step (sn_204 69) (fun _ _ => rfl) ?_
      refine JgetR (g := 1) (b := 57) hx29 (show mx_Sn _ _ 70 (mx_getf 12 1 73) from sn_204 70) a56 s56 rfl rfl (hG29.prr 56 1 rfl) ?_
      refine JcI (z := 30) (show mx_Sn _ _ 73 (mx_const (.int 30) 75) from sn_204 73) rfl ?_
      refine JialdI (z := Z5 57 30) hx29 (show mx_Sn _ _ 75 (mx_iald 76) from sn_204 75) a57 s57 (by omega) ((up_ni hE29 (by omega)).trans (up_ni hE20 (by omega))) ?_
      refine Jimul (show mx_Sn _ _ 76 (mx_imul 77) from sn_204 76) ?_
      refine Jiadd (show mx_Sn _ _ 77 (mx_iadd 78) from sn_204 77) ?_
      refine mx_J.step (sn_204 78) (fun _ _ => rfl) ?_
      refine Jiadd (show mx_Sn _ _ 79 (mx_iadd 80) from sn_204 79) ?_
      refine mx_J.step (sn_204 80) (fun _ _ => rfl) ?_
      refine JgetR (g := 21) (b := 66) hx29 (show mx_Sn _ _ 81 (mx_getf 12 21 84) from sn_204 81) a56 s56 rfl rfl (hG29.prr 56 21 rfl) ?_
      refine mx_J.step (sn_204 84) (fun _ _ => rfl) ?_
      have b35 : (-2147483648) ≤ Z 66 2 ∧ Z 66 2 ≤ 2147483647 := hG.pr 66 2
      have b36 : (((2 : Int) = 0 → 0 ≤ (Z 66 2) ∧ (Z 66 2) ≤ 384) ∧ ((2 : Int) = 1 → 0 ≤ (Z 66 2) ∧ (Z 66 2) ≤ 9)) := GI_ex hG 66 2
      refine JialdI (z := Z 66 2) hx29 (show mx_Sn _ _ 85 (mx_iald 86) from sn_204 85) a66 s66 (by omega) ((up_nk hE29 rfl).trans ((up_nk hE20 rfl).trans (hf5 66 2 rfl))) ?_
      refine JiastI hx29 (show mx_Sn _ _ 86 (mx_iast 1 87) from sn_204 86) a57 s57 rfl (by omega) (fun Z37 h37 hx37 hE37 => ?_)
      have eq38 : Z29 56 18 = Z 56 18 := ((up_nk hE29 rfl).trans ((up_nk hE20 rfl).trans (hf5 56 18 rfl)))
      have hG37 := GI_up57 hG29 hE37 (show (-2147483648) ≤ Z 66 2 ∧ Z 66 2 ≤ 2147483647 by omega) (show f57 (((31 + (3 * (Z5 57 30))) + 2) % 962) (Z 66 2) by first | (rw [Int.emod_eq_of_lt (by omega) (by omega)]; unfold f57; omega) | assumption | (unfold f57; omega) | (unfold f57 at *; omega)) (by omega) (by omega)
      refine Jiinc (z := 2) (cz := 1) (ls2 := [some (.ref 56), some (xI 3)]) (show mx_Sn _ _ 87 (mx_iinc 1 1 90) from sn_204 87) rfl rfl rfl rfl ?_
      refine mx_J.step (sn_204 90) (fun _ _ => rfl) ?_
      refine mx_J.step (sn_204 57) (fun _ _ => rfl) ?_
      refine JcI (z := 3) (show mx_Sn _ _ 58 (mx_const (.int 3) 59) from sn_204 58) rfl ?_
      refine Jicmp_ge (show mx_Sn _ _ 59 (mx_icmp_ge 93 62) from sn_204 59) (by omega) (by omega) (fun q39 => ?_) (fun q39 => absurd q39 (by omega))
      refine mx_J.step (sn_204 93) (fun _ _ => rfl) ?_
      refine JgetR (g := 1) (b := 57) hx37 (show mx_Sn _ _ 94 (mx_getf 12 1 97) from sn_204 94) a56 s56 rfl rfl (hG37.prr 56 1 rfl) ?_
      refine JcI (z := 30) (show mx_Sn _ _ 97 (mx_const (.int 30) 99) from sn_204 97) rfl ?_
      refine mx_J.step (sn_204 99) (fun _ _ => rfl) ?_
      refine JialdI (z := Z5 57 30) hx37 (show mx_Sn _ _ 100 (mx_iald 101) from sn_204 100) a57 s57 (by omega) ((up_ni hE37 (by omega)).trans ((up_ni hE29 (by omega)).trans (up_ni hE20 (by omega)))) ?_
      refine JcI (z := 1) (show mx_Sn _ _ 101 (mx_const (.int 1) 102) from sn_204 101) rfl ?_
      refine Jiadd (show mx_Sn _ _ 102 (mx_iadd 103) from sn_204 102) ?_
      refine JiastI hx37 (show mx_Sn _ _ 103 (mx_iast 1 104) from sn_204 103) a57 s57 rfl (by omega) (fun Z41 h41 hx41 hE41 => ?_)
      have eq42 : Z37 56 18 = Z 56 18 := ((up_nk hE37 rfl).trans ((up_nk hE29 rfl).trans ((up_nk hE20 rfl).trans (hf5 56 18 rfl))))
      have hG41 := GI_up57 hG37 hE41 (show (-2147483648) ≤ (Z5 57 30) + 1 ∧ (Z5 57 30) + 1 ≤ 2147483647 by omega) (show f57 ((30) % 962) ((Z5 57 30) + 1) by first | assumption | (unfold f57; omega) | (unfold f57 at *; omega)) (by omega) (by omega)
      have eq43 : Z41 57 1 = Z5 57 1 := ((up_ni hE41 (by decide)).trans ((up_ni hE37 (by omega)).trans ((up_ni hE29 (by omega)).trans (up_ni hE20 (by omega)))))
      have eq44 : Z41 57 963 = Z5 57 963 := ((up_ni hE41 (by decide)).trans ((up_ni hE37 (by omega)).trans ((up_ni hE29 (by omega)).trans (up_ni hE20 (by omega)))))
      have eq45 : Z41 57 1925 = Z5 57 1925 := ((up_ni hE41 (by decide)).trans ((up_ni hE37 (by omega)).trans ((up_ni hE29 (by omega)).trans (up_ni hE20 (by omega)))))
      have eq46 : Z41 66 0 = Z 66 0 := ((up_nk hE41 rfl).trans ((up_nk hE37 rfl).trans ((up_nk hE29 rfl).trans ((up_nk hE20 rfl).trans (hf5 66 0 rfl)))))
      have eq47 : Z41 56 18 = Z 56 18 := ((up_nk hE41 rfl).trans ((up_nk hE37 rfl).trans ((up_nk hE29 rfl).trans ((up_nk hE20 rfl).trans (hf5 56 18 rfl)))))
      have eq48 : Z41 57 1 = Z5 57 1 := ((up_ni hE41 (by decide)).trans ((up_ni hE37 (by omega)).trans ((up_ni hE29 (by omega)).trans (up_ni hE20 (by omega)))))
      have eq49 : Z41 57 963 = Z5 57 963 := ((up_ni hE41 (by decide)).trans ((up_ni hE37 (by omega)).trans ((up_ni hE29 (by omega)).trans (up_ni hE20 (by omega)))))
      have eq50 : Z41 57 1925 = Z5 57 1925 := ((up_ni hE41 (by decide)).trans ((up_ni hE37 (by omega)).trans ((up_ni hE29 (by omega)).trans (up_ni hE20 (by omega)))))
      exact mx_J.ret (sn_204 104) (fun _ _ => rfl) (hP Z41 h41 hx41 hG41 (fr_tr (M := [(57, (-1))]) (fr_tr (M := [(57, (-1))]) (fr_tr (M := [(57, (-1))]) (fr_tr (M := [(57, (-1))]) (fr_tr (M := [(57, (-1))]) fr_rf (hf5) (M1 := []) rfl rfl) (fr_ua hE20) rfl rfl) (fr_ua hE29) rfl rfl) (fr_ua hE37) rfl rfl) (fr_ua hE41) rfl rfl) (by omega))
    refine Jicmp_ne (show mx_Sn _ _ 9 (mx_icmp_ne 55 12) from sn_204 9) (by omega) (by omega) (fun q51 => ?_) (fun q51 => ?_)
    · skip
      have b52 : 0 ≤ Z 57 1 ∧ Z 57 1 ≤ 18 := by have hq := GI_ex hG 57 1; replace hq : f57 (1 % 962) (Z 57 1) := hq; unfold f57 at hq; omega
      have b53 : (-2147483648) ≤ Z 57 1 ∧ Z 57 1 ≤ 2147483647 := hG.pr 57 1
      have b54 : 0 ≤ Z 57 963 ∧ Z 57 963 ≤ 18 := by have hq := GI_ex hG 57 963; replace hq : f57 (963 % 962) (Z 57 963) := hq; unfold f57 at hq; omega
      have b55 : (-2147483648) ≤ Z 57 963 ∧ Z 57 963 ≤ 2147483647 := hG.pr 57 963
      have b56 : 0 ≤ Z 57 1925 ∧ Z 57 1925 ≤ 18 := by have hq := GI_ex hG 57 1925; replace hq : f57 (1925 % 962) (Z 57 1925) := hq; unfold f57 at hq; omega
      have b57 : (-2147483648) ≤ Z 57 1925 ∧ Z 57 1925 ≤ 2147483647 := hG.pr 57 1925
      exact c55 none Z h (by omega) (by omega) hx hG fr_rf
    · skip
      refine JcI (z := 0) (show mx_Sn _ _ 12 (mx_const (.int 0) 13) from sn_204 12) rfl ?_
      refine mx_J.step (ls2 := [some (.ref 56), some (xI 0)]) (sn_204 13) (fun _ _ => rfl) ?_
      have c14 : ∀ (m58 : Nat) (w58_1 : Int) (Z59 : xZ) (h59 : mx_H), 27 - w58_1 < (m58 : Int) → 0 ≤ w58_1 ∧ w58_1 ≤ 27 → (Z59 57 30 = 10) → (Z59 57 1 = Z 57 1 ∧ Z59 57 963 = Z 57 963 ∧ Z59 57 1925 = Z 57 1925) → XH n s S Z59 h59 → GI n S Z59 → fr' [(57, (-1))] Z Z59 → mx_J (tB l D b0 ad Hb tau) mt_204 (d + 0) 14 [some (.ref 56), some (xI w58_1)] [] h59 Post := by
        intro m58
        induction m58 with
        | zero => intro w58_1 Z59 h59 q58 f58_0 f58_1 f58_2 hx59 hG59 hf59; exact absurd q58 (by omega)
        | succ m58 ih58 =>
          intro w58_1 Z59 h59 q58 f58_0 f58_1 f58_2 hx59 hG59 hf59
          have b60 : 0 ≤ Z59 57 30 ∧ Z59 57 30 ≤ 10 := by have hq := GI_ex hG59 57 30; replace hq : f57 (30 % 962) (Z59 57 30) := hq; unfold f57 at hq; omega
          have b61 : (-2147483648) ≤ Z59 57 30 ∧ Z59 57 30 ≤ 2147483647 := hG59.pr 57 30
          have b62 : 0 ≤ Z59 57 1 ∧ Z59 57 1 ≤ 18 := by have hq := GI_ex hG59 57 1; replace hq : f57 (1 % 962) (Z59 57 1) := hq; unfold f57 at hq; omega
          have b63 : (-2147483648) ≤ Z59 57 1 ∧ Z59 57 1 ≤ 2147483647 := hG59.pr 57 1
          have b64 : 0 ≤ Z59 57 963 ∧ Z59 57 963 ≤ 18 := by have hq := GI_ex hG59 57 963; replace hq : f57 (963 % 962) (Z59 57 963) := hq; unfold f57 at hq; omega
          have b65 : (-2147483648) ≤ Z59 57 963 ∧ Z59 57 963 ≤ 2147483647 := hG59.pr 57 963
          have b66 : 0 ≤ Z59 57 1925 ∧ Z59 57 1925 ≤ 18 := by have hq := GI_ex hG59 57 1925; replace hq : f57 (1925 % 962) (Z59 57 1925) := hq; unfold f57 at hq; omega
          have b67 : (-2147483648) ≤ Z59 57 1925 ∧ Z59 57 1925 ≤ 2147483647 := hG59.pr 57 1925
          refine mx_J.step (sn_204 14) (fun _ _ => rfl) ?_
          refine JcI (z := 27) (show mx_Sn _ _ 15 (mx_const (.int 27) 17) from sn_204 15) rfl ?_
          refine Jicmp_ge (show mx_Sn _ _ 17 (mx_icmp_ge 44 20) from sn_204 17) (by omega) (by omega) (fun q68 => ?_) (fun q68 => ?_)
          · skip
            refine mx_J.step (sn_204 44) (fun _ _ => rfl) ?_
            refine JgetR (g := 1) (b := 57) hx59 (show mx_Sn _ _ 45 (mx_getf 12 1 48) from sn_204 45) a56 s56 rfl rfl (hG59.prr 56 1 rfl) ?_
            refine JcI (z := 30) (show mx_Sn _ _ 48 (mx_const (.int 30) 50) from sn_204 48) rfl ?_
            refine mx_J.step (sn_204 50) (fun _ _ => rfl) ?_
            refine JialdI (z := Z59 57 30) hx59 (show mx_Sn _ _ 51 (mx_iald 52) from sn_204 51) a57 s57 (by omega) rfl ?_
            refine JcI (z := 1) (show mx_Sn _ _ 52 (mx_const (.int 1) 53) from sn_204 52) rfl ?_
            refine Jisub (show mx_Sn _ _ 53 (mx_isub 54) from sn_204 53) ?_
            refine JiastI hx59 (show mx_Sn _ _ 54 (mx_iast 1 55) from sn_204 54) a57 s57 rfl (by omega) (fun Z70 h70 hx70 hE70 => ?_)
            have eq71 : Z59 56 18 = Z 56 18 := (hf59 56 18 rfl)
            have b72 : 0 ≤ Z 56 18 ∧ Z 56 18 ≤ 385 := hG.pr 56 18
            have hG70 := GI_up57 hG59 hE70 (show (-2147483648) ≤ (Z59 57 30) - 1 ∧ (Z59 57 30) - 1 ≤ 2147483647 by omega) (show f57 ((30) % 962) ((Z59 57 30) - 1) by first | assumption | (unfold f57; omega) | (unfold f57 at *; omega)) (by omega) (by omega)
            have eq73 : Z70 57 30 = (Z59 57 30) - 1 := (up_at hE70)
            have eq74 : Z70 57 1 = Z59 57 1 := (up_ni hE70 (by decide))
            have eq75 : Z70 57 963 = Z59 57 963 := (up_ni hE70 (by decide))
            have eq76 : Z70 57 1925 = Z59 57 1925 := (up_ni hE70 (by decide))
            exact c55 (some (xI w58_1)) Z70 h70 (by omega) (by omega) hx70 hG70 (fr_tr (M := [(57, (-1))]) (fr_tr (M := [(57, (-1))]) fr_rf (hf59) (M1 := []) rfl rfl) (fr_ua hE70) rfl rfl)
          · skip
            refine mx_J.step (sn_204 20) (fun _ _ => rfl) ?_
            refine JgetR (g := 1) (b := 57) hx59 (show mx_Sn _ _ 21 (mx_getf 12 1 24) from sn_204 21) a56 s56 rfl rfl (hG59.prr 56 1 rfl) ?_
            refine JcI (z := 31) (show mx_Sn _ _ 24 (mx_const (.int 31) 26) from sn_204 24) rfl ?_
            refine mx_J.step (sn_204 26) (fun _ _ => rfl) ?_
            refine Jiadd (show mx_Sn _ _ 27 (mx_iadd 28) from sn_204 27) ?_
            refine mx_J.step (sn_204 28) (fun _ _ => rfl) ?_
            refine JgetR (g := 1) (b := 57) hx59 (show mx_Sn _ _ 29 (mx_getf 12 1 32) from sn_204 29) a56 s56 rfl rfl (hG59.prr 56 1 rfl) ?_
            refine JcI (z := 34) (show mx_Sn _ _ 32 (mx_const (.int 34) 34) from sn_204 32) rfl ?_
            refine mx_J.step (sn_204 34) (fun _ _ => rfl) ?_
            refine Jiadd (show mx_Sn _ _ 35 (mx_iadd 36) from sn_204 35) ?_
            have b79 := GI_st hG59 (34 + w58_1)
            have eq80 : Z59 56 18 = Z 56 18 := (hf59 56 18 rfl)
            have b81 : 0 ≤ Z 56 18 ∧ Z 56 18 ≤ 385 := hG.pr 56 18
            have b82 : f57 ((34 + w58_1) % 962) (Z59 57 (34 + w58_1)) := GI_ex hG59 57 (34 + w58_1)
            have b83 : (-2147483648) ≤ Z59 57 (34 + w58_1) ∧ Z59 57 (34 + w58_1) ≤ 2147483647 := hG59.pr 57 (34 + w58_1)
            refine JialdI (z := Z59 57 (34 + w58_1)) hx59 (show mx_Sn _ _ 36 (mx_iald 37) from sn_204 36) a57 s57 (by omega) rfl ?_
            refine JiastI hx59 (show mx_Sn _ _ 37 (mx_iast 1 38) from sn_204 37) a57 s57 rfl (by omega) (fun Z84 h84 hx84 hE84 => ?_)
            have eq85 : Z59 56 18 = Z 56 18 := (hf59 56 18 rfl)
            have hG84 := GI_up57 hG59 hE84 (show (-2147483648) ≤ Z59 57 (34 + w58_1) ∧ Z59 57 (34 + w58_1) ≤ 2147483647 by omega) (show f57 ((31 + w58_1) % 962) (Z59 57 (34 + w58_1)) by first | (have hq := GI_ex hG59 57 (34 + w58_1); replace hq : f57 ((34 + w58_1) % 962) (Z59 57 (34 + w58_1)) := hq; rw [Int.emod_eq_of_lt (a := (34 + w58_1)) (by omega) (by omega)] at hq; rw [Int.emod_eq_of_lt (a := 31 + w58_1) (by omega) (by omega)]; unfold f57 at hq; unfold f57; omega) | (rw [Int.emod_eq_of_lt (by omega) (by omega)]; unfold f57; omega) | assumption | (unfold f57; omega) | (unfold f57 at *; omega)) (by omega) (by omega)
            refine Jiinc (z := w58_1) (cz := 1) (ls2 := [some (.ref 56), some (xI (w58_1 + 1))]) (show mx_Sn _ _ 38 (mx_iinc 1 1 41) from sn_204 38) rfl rfl rfl rfl ?_
            refine mx_J.step (sn_204 41) (fun _ _ => rfl) ?_
            have eq86 : Z84 57 30 = Z59 57 30 := (up_ni hE84 (by omega))
            have eq87 : Z84 57 1 = Z59 57 1 := (up_ni hE84 (by omega))
            have eq88 : Z84 57 963 = Z59 57 963 := (up_ni hE84 (by omega))
            have eq89 : Z84 57 1925 = Z59 57 1925 := (up_ni hE84 (by omega))
            exact ih58 (w58_1 + 1) Z84 h84 (by omega) (by omega) (by omega) (by omega) hx84 hG84 (fr_tr (M := [(57, (-1))]) (fr_tr (M := [(57, (-1))]) fr_rf (hf59) (M1 := []) rfl rfl) (fr_ua hE84) rfl rfl)
      have b90 : 0 ≤ Z 57 1 ∧ Z 57 1 ≤ 18 := by have hq := GI_ex hG 57 1; replace hq : f57 (1 % 962) (Z 57 1) := hq; unfold f57 at hq; omega
      have b91 : (-2147483648) ≤ Z 57 1 ∧ Z 57 1 ≤ 2147483647 := hG.pr 57 1
      have b92 : 0 ≤ Z 57 963 ∧ Z 57 963 ≤ 18 := by have hq := GI_ex hG 57 963; replace hq : f57 (963 % 962) (Z 57 963) := hq; unfold f57 at hq; omega
      have b93 : (-2147483648) ≤ Z 57 963 ∧ Z 57 963 ≤ 2147483647 := hG.pr 57 963
      have b94 : 0 ≤ Z 57 1925 ∧ Z 57 1925 ≤ 18 := by have hq := GI_ex hG 57 1925; replace hq : f57 (1925 % 962) (Z 57 1925) := hq; unfold f57 at hq; omega
      have b95 : (-2147483648) ≤ Z 57 1925 ∧ Z 57 1925 ≤ 2147483647 := hG.pr 57 1925
      exact c14 (Int.toNat (27 - 0) + 1) 0 Z h (by omega) (by omega) (by omega) (by omega) hx hG fr_rf
theorem ct_204_56 {l : Launch} {D : va_G} {b0 : Nat} {ad : Nat → Nat} {Hb : Heap} {tau : Nat → Int64} {d n s : Nat} {S : Nat → xS} {Z : xZ} {h : mx_H} (hx : XH n s S Z h) (hG : GI n S Z)   (k0 : Z 66 0 < Z 56 18) : ∃ (Z' : xZ) (h' : mx_H), mx_Ca (tB l D b0 ad Hb tau) (d + 1) 204 [.ref 56] h (none, h') ∧ XH n s S Z' h' ∧ GI n S Z' ∧ fr' [(57, (-1))] Z Z' ∧ ((Z' 57 1 = Z 57 1 ∧ Z' 57 963 = Z 57 963 ∧ Z' 57 1925 = Z 57 1925)) := by
  obtain ⟨r, hca, Z', h', e, q⟩ := Jmt (B := tB l D b0 ad Hb tau) (M := mt_204) (mi := 204) (as := [.ref 56]) (d := d + 0) (ls := [some (.ref 56), none]) rfl rfl rfl rfl rfl rfl (cw_204_56 (l := l) (D := D) (b0 := b0) (ad := ad) (Hb := Hb) (tau := tau) (d := d) (Post := fun r => ∃ (Z' : xZ) (h' : mx_H), r = (none, h') ∧ XH n s S Z' h' ∧ GI n S Z' ∧ fr' [(57, (-1))] Z Z' ∧ ((Z' 57 1 = Z 57 1 ∧ Z' 57 963 = Z 57 963 ∧ Z' 57 1925 = Z 57 1925))) hx hG k0 (fun Z' h' q1 q2 q3 q4 => ⟨Z', h', rfl, q1, q2, q3, q4⟩))
  subst e; exact ⟨Z', h', hca, q⟩
set_option maxRecDepth 100000 in
theorem cw_205_56 {l : Launch} {D : va_G} {b0 : Nat} {ad : Nat → Nat} {Hb : Heap} {tau : Nat → Int64} {d n s : Nat} {S : Nat → xS} {Z : xZ} {h : mx_H} {Post : mx_R → Prop} (hx : XH n s S Z h) (hG : GI n S Z)  {x0 : Int} (p0 : (-2147483648) ≤ x0 ∧ x0 ≤ 2147483647) (hP : ∀ (Z' : xZ) (h' : mx_H), XH n s S Z' h' → GI n S Z' → fr' [(57, (-1)), (62, (-1)), (64, (-1)), (65, (-1))] Z Z' → (Z' 57 1 = Z 57 1 ∧ Z' 57 963 = Z 57 963 ∧ Z' 57 1925 = Z 57 1925) → Post (none, h')) : mx_J (tB l D b0 ad Hb tau) mt_205 (d + 5) 0 [some (.ref 56), some (xI x0)] [] h Post := by
    have a56 : 56 < n := lt83 (GI_n hG) rfl
    have s56 : S 56 = .inl (12, [0, 2, 2, 2, 2, 0, 0, 0, 0, 0, 0, 0, 0, 0, 0, 2, 2, 2, 0, 2, 2, 2, 0, 0, 2, 2, 2, 2, 2, 2, 0, 0, 2, 2, 2, 2, 2, 2, 2, 2, 2, 2]) := GI_s hG 56 rfl
    have a57 : 57 < n := lt83 (GI_n hG) rfl
    have s57 : S 57 = .inr (.int, 2886, 0) := GI_s hG 57 rfl
    refine mx_J.step (sn_205 0) (fun _ _ => rfl) ?_
    refine JgetR (g := 1) (b := 57) hx (show mx_Sn _ _ 1 (mx_getf 12 1 4) from sn_205 1) a56 s56 rfl rfl (hG.prr 56 1 rfl) ?_
    refine JcI (z := 27) (show mx_Sn _ _ 4 (mx_const (.int 27) 6) from sn_205 4) rfl ?_
    refine mx_J.step (sn_205 6) (fun _ _ => rfl) ?_
    refine mx_J.step (sn_205 7) (fun _ _ => rfl) ?_
    refine JgetR (g := 1) (b := 57) hx (show mx_Sn _ _ 8 (mx_getf 12 1 11) from sn_205 8) a56 s56 rfl rfl (hG.prr 56 1 rfl) ?_
    refine JcI (z := 27) (show mx_Sn _ _ 11 (mx_const (.int 27) 13) from sn_205 11) rfl ?_
    have b3 := GI_st hG 27
    have b4 : 0 ≤ Z 56 18 ∧ Z 56 18 ≤ 385 := hG.pr 56 18
    have b5 : 0 ≤ Z 57 27 ∧ Z 57 27 ≤ 384 := by have hq := GI_ex hG 57 27; replace hq : f57 (27 % 962) (Z 57 27) := hq; unfold f57 at hq; omega
    have b6 : (-2147483648) ≤ Z 57 27 ∧ Z 57 27 ≤ 2147483647 := hG.pr 57 27
    refine JialdI (z := Z 57 27) hx (show mx_Sn _ _ 13 (mx_iald 14) from sn_205 13) a57 s57 (by omega) rfl ?_
    refine mx_J.step (sn_205 14) (fun _ _ => rfl) ?_
    refine mx_J.step (sn_205 15) (fun _ _ => rfl) ?_
    refine JgetR (g := 1) (b := 57) hx (show mx_Sn _ _ 16 (mx_getf 12 1 19) from sn_205 16) a56 s56 rfl rfl (hG.prr 56 1 rfl) ?_
    refine JcI (z := 28) (show mx_Sn _ _ 19 (mx_const (.int 28) 21) from sn_205 19) rfl ?_
    have b8 : 0 ≤ Z 57 28 ∧ Z 57 28 ≤ 9 := by have hq := GI_ex hG 57 28; replace hq : f57 (28 % 962) (Z 57 28) := hq; unfold f57 at hq; omega
    have b9 : (-2147483648) ≤ Z 57 28 ∧ Z 57 28 ≤ 2147483647 := hG.pr 57 28
    refine JialdI (z := Z 57 28) hx (show mx_Sn _ _ 21 (mx_iald 22) from sn_205 21) a57 s57 (by omega) rfl ?_
    obtain ⟨z10, Z10, h10, hc10, hx10, hG10, hf10, b10⟩ := ct_198_56 (d := d + 0) (l := l) (D := D) (b0 := b0) (ad := ad) (Hb := Hb) (tau := tau) hx hG (show 0 ≤ Z 57 27 ∧ Z 57 27 ≤ 384 by omega) (show (-2147483648) ≤ x0 ∧ x0 ≤ 2147483647 by omega) (show 0 ≤ Z 57 28 ∧ Z 57 28 ≤ 9 by omega)
    refine Jcv hx (show mx_Sn _ _ 22 (mx_callv 198 4 12 25) from sn_205 22) a56 s56 hc10 rfl rfl rfl ?_
    refine JiastI hx10 (show mx_Sn _ _ 25 (mx_iast 1 26) from sn_205 25) a57 s57 rfl (by omega) (fun Z11 h11 hx11 hE11 => ?_)
    have eq12 : Z10 56 18 = Z 56 18 := (hf10 56 18 rfl)
    have hG11 := GI_up57 hG10 hE11 (show (-2147483648) ≤ z10 ∧ z10 ≤ 2147483647 by omega) (show f57 ((27) % 962) (z10) by first | assumption | (unfold f57; omega) | (unfold f57 at *; omega)) (by omega) (by omega)
    refine mx_J.step (sn_205 26) (fun _ _ => rfl) ?_
    refine JgetR (g := 1) (b := 57) hx11 (show mx_Sn _ _ 27 (mx_getf 12 1 30) from sn_205 27) a56 s56 rfl rfl (hG11.prr 56 1 rfl) ?_
    refine JcI (z := 29) (show mx_Sn _ _ 30 (mx_const (.int 29) 32) from sn_205 30) rfl ?_
    refine mx_J.step (sn_205 32) (fun _ _ => rfl) ?_
    have b14 : (-2147483648) ≤ Z 57 29 ∧ Z 57 29 ≤ 2147483647 := hG.pr 57 29
    refine JialdI (z := Z 57 29) hx11 (show mx_Sn _ _ 33 (mx_iald 34) from sn_205 33) a57 s57 (by omega) ((up_ni hE11 (by decide)).trans (hf10 57 29 rfl)) ?_
    refine JcI (z := 1) (show mx_Sn _ _ 34 (mx_const (.int 1) 35) from sn_205 34) rfl ?_
    refine JiaddN (show mx_Sn _ _ 35 (mx_iadd 36) from sn_205 35) (fun y15 hy15 hq15 => ?_)
    refine JiastI hx11 (show mx_Sn _ _ 36 (mx_iast 1 37) from sn_205 36) a57 s57 rfl (by omega) (fun Z16 h16 hx16 hE16 => ?_)
    have eq17 : Z11 56 18 = Z 56 18 := ((up_nk hE11 rfl).trans (hf10 56 18 rfl))
    have hG16 := GI_up57 hG11 hE16 (show (-2147483648) ≤ y15 ∧ y15 ≤ 2147483647 by omega) (show f57 ((29) % 962) (y15) by first | assumption | (unfold f57; omega) | (unfold f57 at *; omega)) (by omega) (by omega)
    have eq18 : Z16 57 1 = Z 57 1 := ((up_ni hE16 (by decide)).trans ((up_ni hE11 (by decide)).trans (hf10 57 1 rfl)))
    have b19 : 0 ≤ Z 57 1 ∧ Z 57 1 ≤ 18 := by have hq := GI_ex hG 57 1; replace hq : f57 (1 % 962) (Z 57 1) := hq; unfold f57 at hq; omega
    have b20 : (-2147483648) ≤ Z 57 1 ∧ Z 57 1 ≤ 2147483647 := hG.pr 57 1
    have eq21 : Z16 57 963 = Z 57 963 := ((up_ni hE16 (by decide)).trans ((up_ni hE11 (by decide)).trans (hf10 57 963 rfl)))
    have b22 : 0 ≤ Z 57 963 ∧ Z 57 963 ≤ 18 := by have hq := GI_ex hG 57 963; replace hq : f57 (963 % 962) (Z 57 963) := hq; unfold f57 at hq; omega
    have b23 : (-2147483648) ≤ Z 57 963 ∧ Z 57 963 ≤ 2147483647 := hG.pr 57 963
    have eq24 : Z16 57 1925 = Z 57 1925 := ((up_ni hE16 (by decide)).trans ((up_ni hE11 (by decide)).trans (hf10 57 1925 rfl)))
    have b25 : 0 ≤ Z 57 1925 ∧ Z 57 1925 ≤ 18 := by have hq := GI_ex hG 57 1925; replace hq : f57 (1925 % 962) (Z 57 1925) := hq; unfold f57 at hq; omega
    have b26 : (-2147483648) ≤ Z 57 1925 ∧ Z 57 1925 ≤ 2147483647 := hG.pr 57 1925
    have eq27 : Z16 57 1 = Z 57 1 := ((up_ni hE16 (by decide)).trans ((up_ni hE11 (by decide)).trans (hf10 57 1 rfl)))
    have eq28 : Z16 57 963 = Z 57 963 := ((up_ni hE16 (by decide)).trans ((up_ni hE11 (by decide)).trans (hf10 57 963 rfl)))
    have eq29 : Z16 57 1925 = Z 57 1925 := ((up_ni hE16 (by decide)).trans ((up_ni hE11 (by decide)).trans (hf10 57 1925 rfl)))
    exact mx_J.ret (sn_205 37) (fun _ _ => rfl) (hP Z16 h16 hx16 hG16 (fr_tr (M := [(57, (-1)), (62, (-1)), (64, (-1)), (65, (-1))]) (fr_tr (M := [(57, (-1)), (62, (-1)), (64, (-1)), (65, (-1))]) (fr_tr (M := [(57, (-1)), (62, (-1)), (64, (-1)), (65, (-1))]) fr_rf (hf10) (M1 := []) rfl rfl) (fr_ua hE11) rfl rfl) (fr_ua hE16) rfl rfl) (by omega))
theorem ct_205_56 {l : Launch} {D : va_G} {b0 : Nat} {ad : Nat → Nat} {Hb : Heap} {tau : Nat → Int64} {d n s : Nat} {S : Nat → xS} {Z : xZ} {h : mx_H} (hx : XH n s S Z h) (hG : GI n S Z)  {x0 : Int} (p0 : (-2147483648) ≤ x0 ∧ x0 ≤ 2147483647) : ∃ (Z' : xZ) (h' : mx_H), mx_Ca (tB l D b0 ad Hb tau) (d + 6) 205 [.ref 56, xI x0] h (none, h') ∧ XH n s S Z' h' ∧ GI n S Z' ∧ fr' [(57, (-1)), (62, (-1)), (64, (-1)), (65, (-1))] Z Z' ∧ ((Z' 57 1 = Z 57 1 ∧ Z' 57 963 = Z 57 963 ∧ Z' 57 1925 = Z 57 1925)) := by
  obtain ⟨r, hca, Z', h', e, q⟩ := Jmt (B := tB l D b0 ad Hb tau) (M := mt_205) (mi := 205) (as := [.ref 56, xI x0]) (d := d + 5) (ls := [some (.ref 56), some (xI x0)]) rfl rfl rfl rfl rfl rfl (cw_205_56 (l := l) (D := D) (b0 := b0) (ad := ad) (Hb := Hb) (tau := tau) (d := d) (Post := fun r => ∃ (Z' : xZ) (h' : mx_H), r = (none, h') ∧ XH n s S Z' h' ∧ GI n S Z' ∧ fr' [(57, (-1)), (62, (-1)), (64, (-1)), (65, (-1))] Z Z' ∧ ((Z' 57 1 = Z 57 1 ∧ Z' 57 963 = Z 57 963 ∧ Z' 57 1925 = Z 57 1925))) hx hG p0 (fun Z' h' q1 q2 q3 q4 => ⟨Z', h', rfl, q1, q2, q3, q4⟩))
  subst e; exact ⟨Z', h', hca, q⟩
set_option maxRecDepth 100000 in
theorem cw_206_56 {l : Launch} {D : va_G} {b0 : Nat} {ad : Nat → Nat} {Hb : Heap} {tau : Nat → Int64} {d n s : Nat} {S : Nat → xS} {Z : xZ} {h : mx_H} {Post : mx_R → Prop} (hx : XH n s S Z h) (hG : GI n S Z)  {x0 : Int} (p0 : (-2147483648) ≤ x0 ∧ x0 ≤ 2147483647) (hP : ∀ (z : Int) (Z' : xZ) (h' : mx_H), XH n s S Z' h' → GI n S Z' → fr' [(56, 0), (57, (-1)), (62, (-1)), (64, (-1)), (65, (-1)), (66, (-1))] Z Z' → (-12) ≤ z ∧ z ≤ 18 ∧ (Z' 57 1 = Z 57 1 ∧ Z' 57 963 = Z 57 963 ∧ Z' 57 1925 = Z 57 1925) → Post (some (xI z), h')) : mx_J (tB l D b0 ad Hb tau) mt_206 (d + 6) 0 [some (.ref 56), some (xI x0)] [] h Post := by
    have a56 : 56 < n := lt83 (GI_n hG) rfl
    have s56 : S 56 = .inl (12, [0, 2, 2, 2, 2, 0, 0, 0, 0, 0, 0, 0, 0, 0, 0, 2, 2, 2, 0, 2, 2, 2, 0, 0, 2, 2, 2, 2, 2, 2, 0, 0, 2, 2, 2, 2, 2, 2, 2, 2, 2, 2]) := GI_s hG 56 rfl
    have a57 : 57 < n := lt83 (GI_n hG) rfl
    have s57 : S 57 = .inr (.int, 2886, 0) := GI_s hG 57 rfl
    refine mx_J.step (sn_206 0) (fun _ _ => rfl) ?_
    refine JcI (z := 0) (show mx_Sn _ _ 1 (mx_const (.int 0) 2) from sn_206 1) rfl ?_
    refine JputI (g := 0) hx (show mx_Sn _ _ 2 (mx_putf 1 12 0 (.int) 5) from sn_206 2) a56 s56 rfl rfl rfl rfl (fun Z1 h1 hx1 hE1 => ?_)
    have hG1 := GI_up hG hE1 (show (-2147483648) ≤ 0 ∧ 0 ≤ 2147483647 by omega) trivial rfl
    refine mx_J.step (sn_206 5) (fun _ _ => rfl) ?_
    refine Ji2l (show mx_Sn _ _ 6 (mx_i2l 7) from sn_206 6) (by omega) ?_
    refine JcL (z := 0) (show mx_Sn _ _ 7 (mx_const (.long 0) 8) from sn_206 7) rfl ?_
    refine JcL (z := 18) (show mx_Sn _ _ 8 (mx_const (.long 18) 11) from sn_206 8) rfl ?_
    obtain ⟨z2, hc2, b2⟩ := ct_154_ (d := d + 5) (l := l) (D := D) (b0 := b0) (ad := ad) (Hb := Hb) (tau := tau) hx1 hG1 (show (-9223372036854775808) ≤ x0 ∧ x0 ≤ 9223372036854775807 by omega) (show (-9223372036854775808) ≤ 0 ∧ 0 ≤ 9223372036854775807 by omega) (show (-9223372036854775808) ≤ 18 ∧ 18 ≤ 9223372036854775807 by omega)
    refine Jcs (show mx_Sn _ _ 11 (mx_calls 154 3 14) from sn_206 11) hc2 rfl rfl rfl ?_
    refine Jif_ne (show mx_Sn _ _ 14 (mx_if_ne 20 17) from sn_206 14) (by omega) (fun q3 => ?_) (fun q3 => ?_)
    · skip
      refine mx_J.step (sn_206 20) (fun _ _ => rfl) ?_
      refine mx_J.step (sn_206 21) (fun _ _ => rfl) ?_
      refine JgetR (g := 1) (b := 57) hx1 (show mx_Sn _ _ 22 (mx_getf 12 1 25) from sn_206 22) a56 s56 rfl rfl (hG1.prr 56 1 rfl) ?_
      refine JcI (z := 27) (show mx_Sn _ _ 25 (mx_const (.int 27) 27) from sn_206 25) rfl ?_
      have b5 := GI_st hG 27
      have b6 : 0 ≤ Z 56 18 ∧ Z 56 18 ≤ 385 := hG.pr 56 18
      have b7 : 0 ≤ Z 57 27 ∧ Z 57 27 ≤ 384 := by have hq := GI_ex hG 57 27; replace hq : f57 (27 % 962) (Z 57 27) := hq; unfold f57 at hq; omega
      have b8 : (-2147483648) ≤ Z 57 27 ∧ Z 57 27 ≤ 2147483647 := hG.pr 57 27
      refine JialdI (z := Z 57 27) hx1 (show mx_Sn _ _ 27 (mx_iald 28) from sn_206 27) a57 s57 (by omega) (up_nk hE1 rfl) ?_
      refine mx_J.step (sn_206 28) (fun _ _ => rfl) ?_
      have eq10 : hv Z1 (Z 57 27) x0 = hv Z (Z 57 27) x0 := (hv_c (fun i => up_nk hE1 rfl))
      obtain ⟨z9, hc9, b9⟩ := ct_197_56 (d := d + 3) (l := l) (D := D) (b0 := b0) (ad := ad) (Hb := Hb) (tau := tau) hx1 hG1 (show 0 ≤ Z 57 27 ∧ Z 57 27 ≤ 384 by omega) (show (-2147483648) ≤ x0 ∧ x0 ≤ 2147483647 by omega)
      refine Jcv hx1 (show mx_Sn _ _ 29 (mx_callv 197 3 12 32) from sn_206 29) a56 s56 hc9 rfl rfl rfl ?_
      refine Jif_ne (show mx_Sn _ _ 32 (mx_if_ne 38 35) from sn_206 32) (by omega) (fun q11 => ?_) (fun q11 => ?_)
      · skip
        refine mx_J.step (sn_206 38) (fun _ _ => rfl) ?_
        have eq13 : Z1 57 27 = Z 57 27 := (up_nk hE1 rfl)
        obtain ⟨Z12, h12, hc12, hx12, hG12, hf12, b12⟩ := ct_202_56 (d := d + 5) (l := l) (D := D) (b0 := b0) (ad := ad) (Hb := Hb) (tau := tau) hx1 hG1 
        try rw [eq13] at b12
        have b14 : (-2147483648) ≤ Z12 66 0 ∧ Z12 66 0 ≤ 2147483647 := hG12.pr 66 0
        have b15 : (((0 : Int) = 0 → 0 ≤ (Z12 66 0) ∧ (Z12 66 0) ≤ 384) ∧ ((0 : Int) = 1 → 0 ≤ (Z12 66 0) ∧ (Z12 66 0) ≤ 9)) := GI_ex hG12 66 0
        refine Jcv0 hx1 (show mx_Sn _ _ 39 (mx_callv 202 1 12 42) from sn_206 39) a56 s56 hc12 rfl rfl rfl ?_
        refine mx_J.step (sn_206 42) (fun _ _ => rfl) ?_
        refine mx_J.step (sn_206 43) (fun _ _ => rfl) ?_
        have eq17 : Z12 57 1 = Z 57 1 := ((hf12 57 1 rfl).trans (up_nk hE1 rfl))
        have b18 : 0 ≤ Z 57 1 ∧ Z 57 1 ≤ 18 := by have hq := GI_ex hG 57 1; replace hq : f57 (1 % 962) (Z 57 1) := hq; unfold f57 at hq; omega
        have b19 : (-2147483648) ≤ Z 57 1 ∧ Z 57 1 ≤ 2147483647 := hG.pr 57 1
        have eq20 : Z12 57 963 = Z 57 963 := ((hf12 57 963 rfl).trans (up_nk hE1 rfl))
        have b21 : 0 ≤ Z 57 963 ∧ Z 57 963 ≤ 18 := by have hq := GI_ex hG 57 963; replace hq : f57 (963 % 962) (Z 57 963) := hq; unfold f57 at hq; omega
        have b22 : (-2147483648) ≤ Z 57 963 ∧ Z 57 963 ≤ 2147483647 := hG.pr 57 963
        have eq23 : Z12 57 1925 = Z 57 1925 := ((hf12 57 1925 rfl).trans (up_nk hE1 rfl))
        have b24 : 0 ≤ Z 57 1925 ∧ Z 57 1925 ≤ 18 := by have hq := GI_ex hG 57 1925; replace hq : f57 (1925 % 962) (Z 57 1925) := hq; unfold f57 at hq; omega
        have b25 : (-2147483648) ≤ Z 57 1925 ∧ Z 57 1925 ≤ 2147483647 := hG.pr 57 1925
        obtain ⟨Z16, h16, hc16, hx16, hG16, hf16, b16⟩ := ct_205_56 (d := d + 0) (l := l) (D := D) (b0 := b0) (ad := ad) (Hb := Hb) (tau := tau) hx12 hG12 (show (-2147483648) ≤ x0 ∧ x0 ≤ 2147483647 by omega)
        try rw [eq17] at b16
        try rw [eq20] at b16
        try rw [eq23] at b16
        have b26 : 0 ≤ Z16 57 1 ∧ Z16 57 1 ≤ 18 := by have hq := GI_ex hG16 57 1; replace hq : f57 (1 % 962) (Z16 57 1) := hq; unfold f57 at hq; omega
        have b27 : (-2147483648) ≤ Z16 57 1 ∧ Z16 57 1 ≤ 2147483647 := hG16.pr 57 1
        have b28 : 0 ≤ Z16 57 963 ∧ Z16 57 963 ≤ 18 := by have hq := GI_ex hG16 57 963; replace hq : f57 (963 % 962) (Z16 57 963) := hq; unfold f57 at hq; omega
        have b29 : (-2147483648) ≤ Z16 57 963 ∧ Z16 57 963 ≤ 2147483647 := hG16.pr 57 963
        have b30 : 0 ≤ Z16 57 1925 ∧ Z16 57 1925 ≤ 18 := by have hq := GI_ex hG16 57 1925; replace hq : f57 (1925 % 962) (Z16 57 1925) := hq; unfold f57 at hq; omega
        have b31 : (-2147483648) ≤ Z16 57 1925 ∧ Z16 57 1925 ≤ 2147483647 := hG16.pr 57 1925
        refine Jcv0 hx12 (show mx_Sn _ _ 44 (mx_callv 205 2 12 47) from sn_206 44) a56 s56 hc16 rfl rfl rfl ?_
        refine mx_J.step (sn_206 47) (fun _ _ => rfl) ?_
        have eq33 : Z16 66 0 = Z12 66 0 := (hf16 66 0 rfl)
        have eq34 : Z16 56 18 = Z 56 18 := ((hf16 56 18 rfl).trans ((hf12 56 18 rfl).trans (up_ni hE1 (by decide))))
        obtain ⟨Z32, h32, hc32, hx32, hG32, hf32, b32⟩ := ct_204_56 (d := d + 5) (l := l) (D := D) (b0 := b0) (ad := ad) (Hb := Hb) (tau := tau) hx16 hG16  (show Z16 66 0 < Z16 56 18 by first | omega | (simp only [eq33, eq34]; omega))
        try rw [eq33] at b32
        try rw [eq34] at b32
        have b35 : 0 ≤ Z32 57 1 ∧ Z32 57 1 ≤ 18 := by have hq := GI_ex hG32 57 1; replace hq : f57 (1 % 962) (Z32 57 1) := hq; unfold f57 at hq; omega
        have b36 : (-2147483648) ≤ Z32 57 1 ∧ Z32 57 1 ≤ 2147483647 := hG32.pr 57 1
        have b37 : 0 ≤ Z32 57 963 ∧ Z32 57 963 ≤ 18 := by have hq := GI_ex hG32 57 963; replace hq : f57 (963 % 962) (Z32 57 963) := hq; unfold f57 at hq; omega
        have b38 : (-2147483648) ≤ Z32 57 963 ∧ Z32 57 963 ≤ 2147483647 := hG32.pr 57 963
        have b39 : 0 ≤ Z32 57 1925 ∧ Z32 57 1925 ≤ 18 := by have hq := GI_ex hG32 57 1925; replace hq : f57 (1925 % 962) (Z32 57 1925) := hq; unfold f57 at hq; omega
        have b40 : (-2147483648) ≤ Z32 57 1925 ∧ Z32 57 1925 ≤ 2147483647 := hG32.pr 57 1925
        refine Jcv0 hx16 (show mx_Sn _ _ 48 (mx_callv 204 1 12 51) from sn_206 48) a56 s56 hc32 rfl rfl rfl ?_
        refine mx_J.step (sn_206 51) (fun _ _ => rfl) ?_
        refine mx_J.step (sn_206 52) (fun _ _ => rfl) ?_
        refine JgetR (g := 1) (b := 57) hx32 (show mx_Sn _ _ 53 (mx_getf 12 1 56) from sn_206 53) a56 s56 rfl rfl (hG32.prr 56 1 rfl) ?_
        refine JcI (z := 27) (show mx_Sn _ _ 56 (mx_const (.int 27) 58) from sn_206 56) rfl ?_
        have b42 := GI_st hG32 27
        have eq43 : Z32 56 18 = Z 56 18 := ((hf32 56 18 rfl).trans ((hf16 56 18 rfl).trans ((hf12 56 18 rfl).trans (up_ni hE1 (by decide)))))
        have b44 : 0 ≤ Z32 57 27 ∧ Z32 57 27 ≤ 384 := by have hq := GI_ex hG32 57 27; replace hq : f57 (27 % 962) (Z32 57 27) := hq; unfold f57 at hq; omega
        have b45 : (-2147483648) ≤ Z32 57 27 ∧ Z32 57 27 ≤ 2147483647 := hG32.pr 57 27
        refine JialdI (z := Z32 57 27) hx32 (show mx_Sn _ _ 58 (mx_iald 59) from sn_206 58) a57 s57 (by omega) rfl ?_
        have eq47 : mn Z32 (Z32 57 27) = mn Z (Z32 57 27) := ((mn_c (fun i => hf32 61 i rfl)).trans ((mn_c (fun i => hf16 61 i rfl)).trans ((mn_c (fun i => hf12 61 i rfl)).trans (mn_c (fun i => up_nk hE1 rfl)))))
        obtain ⟨z46, hc46, b46⟩ := ct_191_56 (d := d + 4) (l := l) (D := D) (b0 := b0) (ad := ad) (Hb := Hb) (tau := tau) hx32 hG32 (show 0 ≤ Z32 57 27 ∧ Z32 57 27 ≤ 384 by omega)
        refine Jcv hx32 (show mx_Sn _ _ 59 (mx_callv 191 2 12 62) from sn_206 59) a56 s56 hc46 rfl rfl rfl ?_
        exact mx_J.ret (sn_206 62) (fun _ _ => rfl) (hP z46 Z32 h32 hx32 hG32 (fr_tr (M := [(56, 0), (57, (-1)), (62, (-1)), (64, (-1)), (65, (-1)), (66, (-1))]) (fr_tr (M := [(56, 0), (57, (-1)), (62, (-1)), (64, (-1)), (65, (-1)), (66, (-1))]) (fr_tr (M := [(56, 0), (57, (-1)), (62, (-1)), (64, (-1)), (65, (-1)), (66, (-1))]) (fr_tr (M := [(56, 0), (57, (-1)), (62, (-1)), (64, (-1)), (65, (-1)), (66, (-1))]) fr_rf (fr_up hE1) (M1 := []) rfl rfl) (hf12) rfl rfl) (hf16) rfl rfl) (hf32) rfl rfl) (by omega))
      · skip
        refine JcI (z := (-12)) (show mx_Sn _ _ 35 (mx_const (.int (-12)) 37) from sn_206 35) rfl ?_
        have eq48 : Z1 57 1 = Z 57 1 := (up_nk hE1 rfl)
        have b49 : 0 ≤ Z 57 1 ∧ Z 57 1 ≤ 18 := by have hq := GI_ex hG 57 1; replace hq : f57 (1 % 962) (Z 57 1) := hq; unfold f57 at hq; omega
        have b50 : (-2147483648) ≤ Z 57 1 ∧ Z 57 1 ≤ 2147483647 := hG.pr 57 1
        have eq51 : Z1 57 963 = Z 57 963 := (up_nk hE1 rfl)
        have b52 : 0 ≤ Z 57 963 ∧ Z 57 963 ≤ 18 := by have hq := GI_ex hG 57 963; replace hq : f57 (963 % 962) (Z 57 963) := hq; unfold f57 at hq; omega
        have b53 : (-2147483648) ≤ Z 57 963 ∧ Z 57 963 ≤ 2147483647 := hG.pr 57 963
        have eq54 : Z1 57 1925 = Z 57 1925 := (up_nk hE1 rfl)
        have b55 : 0 ≤ Z 57 1925 ∧ Z 57 1925 ≤ 18 := by have hq := GI_ex hG 57 1925; replace hq : f57 (1925 % 962) (Z 57 1925) := hq; unfold f57 at hq; omega
        have b56 : (-2147483648) ≤ Z 57 1925 ∧ Z 57 1925 ≤ 2147483647 := hG.pr 57 1925
        have eq57 : Z1 57 1 = Z 57 1 := (up_nk hE1 rfl)
        have eq58 : Z1 57 963 = Z 57 963 := (up_nk hE1 rfl)
        have eq59 : Z1 57 1925 = Z 57 1925 := (up_nk hE1 rfl)
        exact mx_J.ret (sn_206 37) (fun _ _ => rfl) (hP (-12) Z1 h1 hx1 hG1 (fr_tr (M := [(56, 0), (57, (-1)), (62, (-1)), (64, (-1)), (65, (-1)), (66, (-1))]) fr_rf (fr_up hE1) (M1 := []) rfl rfl) (by omega))
    · skip
      refine JcI (z := (-11)) (show mx_Sn _ _ 17 (mx_const (.int (-11)) 19) from sn_206 17) rfl ?_
      have eq60 : Z1 57 1 = Z 57 1 := (up_nk hE1 rfl)
      have b61 : 0 ≤ Z 57 1 ∧ Z 57 1 ≤ 18 := by have hq := GI_ex hG 57 1; replace hq : f57 (1 % 962) (Z 57 1) := hq; unfold f57 at hq; omega
      have b62 : (-2147483648) ≤ Z 57 1 ∧ Z 57 1 ≤ 2147483647 := hG.pr 57 1
      have eq63 : Z1 57 963 = Z 57 963 := (up_nk hE1 rfl)
      have b64 : 0 ≤ Z 57 963 ∧ Z 57 963 ≤ 18 := by have hq := GI_ex hG 57 963; replace hq : f57 (963 % 962) (Z 57 963) := hq; unfold f57 at hq; omega
      have b65 : (-2147483648) ≤ Z 57 963 ∧ Z 57 963 ≤ 2147483647 := hG.pr 57 963
      have eq66 : Z1 57 1925 = Z 57 1925 := (up_nk hE1 rfl)
      have b67 : 0 ≤ Z 57 1925 ∧ Z 57 1925 ≤ 18 := by have hq := GI_ex hG 57 1925; replace hq : f57 (1925 % 962) (Z 57 1925) := hq; unfold f57 at hq; omega
      have b68 : (-2147483648) ≤ Z 57 1925 ∧ Z 57 1925 ≤ 2147483647 := hG.pr 57 1925
      have eq69 : Z1 57 1 = Z 57 1 := (up_nk hE1 rfl)
      have eq70 : Z1 57 963 = Z 57 963 := (up_nk hE1 rfl)
      have eq71 : Z1 57 1925 = Z 57 1925 := (up_nk hE1 rfl)
      exact mx_J.ret (sn_206 19) (fun _ _ => rfl) (hP (-11) Z1 h1 hx1 hG1 (fr_tr (M := [(56, 0), (57, (-1)), (62, (-1)), (64, (-1)), (65, (-1)), (66, (-1))]) fr_rf (fr_up hE1) (M1 := []) rfl rfl) (by omega))
theorem ct_206_56 {l : Launch} {D : va_G} {b0 : Nat} {ad : Nat → Nat} {Hb : Heap} {tau : Nat → Int64} {d n s : Nat} {S : Nat → xS} {Z : xZ} {h : mx_H} (hx : XH n s S Z h) (hG : GI n S Z)  {x0 : Int} (p0 : (-2147483648) ≤ x0 ∧ x0 ≤ 2147483647) : ∃ (z : Int) (Z' : xZ) (h' : mx_H), mx_Ca (tB l D b0 ad Hb tau) (d + 7) 206 [.ref 56, xI x0] h (some (xI z), h') ∧ XH n s S Z' h' ∧ GI n S Z' ∧ fr' [(56, 0), (57, (-1)), (62, (-1)), (64, (-1)), (65, (-1)), (66, (-1))] Z Z' ∧ ((-12) ≤ z ∧ z ≤ 18 ∧ (Z' 57 1 = Z 57 1 ∧ Z' 57 963 = Z 57 963 ∧ Z' 57 1925 = Z 57 1925)) := by
  obtain ⟨r, hca, z, Z', h', e, q⟩ := Jmt (B := tB l D b0 ad Hb tau) (M := mt_206) (mi := 206) (as := [.ref 56, xI x0]) (d := d + 6) (ls := [some (.ref 56), some (xI x0)]) rfl rfl rfl rfl rfl rfl (cw_206_56 (l := l) (D := D) (b0 := b0) (ad := ad) (Hb := Hb) (tau := tau) (d := d) (Post := fun r => ∃ (z : Int) (Z' : xZ) (h' : mx_H), r = (some (xI z), h') ∧ XH n s S Z' h' ∧ GI n S Z' ∧ fr' [(56, 0), (57, (-1)), (62, (-1)), (64, (-1)), (65, (-1)), (66, (-1))] Z Z' ∧ ((-12) ≤ z ∧ z ≤ 18 ∧ (Z' 57 1 = Z 57 1 ∧ Z' 57 963 = Z 57 963 ∧ Z' 57 1925 = Z 57 1925))) hx hG p0 (fun z Z' h' q1 q2 q3 q4 => ⟨z, Z', h', rfl, q1, q2, q3, q4⟩))
  subst e; exact ⟨z, Z', h', hca, q⟩
set_option maxRecDepth 100000 in
theorem cw_207_56 {l : Launch} {D : va_G} {b0 : Nat} {ad : Nat → Nat} {Hb : Heap} {tau : Nat → Int64} {d n s : Nat} {S : Nat → xS} {Z : xZ} {h : mx_H} {Post : mx_R → Prop} (hx : XH n s S Z h) (hG : GI n S Z)  {x0 : Int} (p0 : (-2147483648) ≤ x0 ∧ x0 ≤ 2147483647) (hP : ∀ (z : Int) (Z' : xZ) (h' : mx_H), XH n s S Z' h' → GI n S Z' → fr' [(56, 0), (57, (-1)), (62, (-1)), (64, (-1)), (65, (-1)), (66, (-1))] Z Z' → (-3) ≤ z ∧ z ≤ 18 ∧ (Z' 57 1 = Z 57 1 ∧ Z' 57 963 = Z 57 963 ∧ Z' 57 1925 = Z 57 1925) → Post (some (xI z), h')) : mx_J (tB l D b0 ad Hb tau) mt_207 (d + 6) 0 [some (.ref 56), some (xI x0), none] [] h Post := by
    have a56 : 56 < n := lt83 (GI_n hG) rfl
    have s56 : S 56 = .inl (12, [0, 2, 2, 2, 2, 0, 0, 0, 0, 0, 0, 0, 0, 0, 0, 2, 2, 2, 0, 2, 2, 2, 0, 0, 2, 2, 2, 2, 2, 2, 0, 0, 2, 2, 2, 2, 2, 2, 2, 2, 2, 2]) := GI_s hG 56 rfl
    have a57 : 57 < n := lt83 (GI_n hG) rfl
    have s57 : S 57 = .inr (.int, 2886, 0) := GI_s hG 57 rfl
    refine mx_J.step (sn_207 0) (fun _ _ => rfl) ?_
    refine JcI (z := 0) (show mx_Sn _ _ 1 (mx_const (.int 0) 2) from sn_207 1) rfl ?_
    refine JputI (g := 0) hx (show mx_Sn _ _ 2 (mx_putf 1 12 0 (.int) 5) from sn_207 2) a56 s56 rfl rfl rfl rfl (fun Z1 h1 hx1 hE1 => ?_)
    have hG1 := GI_up hG hE1 (show (-2147483648) ≤ 0 ∧ 0 ≤ 2147483647 by omega) trivial rfl
    refine mx_J.step (sn_207 5) (fun _ _ => rfl) ?_
    refine Ji2l (show mx_Sn _ _ 6 (mx_i2l 7) from sn_207 6) (by omega) ?_
    refine JcL (z := 1) (show mx_Sn _ _ 7 (mx_const (.long 1) 8) from sn_207 7) rfl ?_
    refine JcL (z := 99) (show mx_Sn _ _ 8 (mx_const (.long 99) 11) from sn_207 8) rfl ?_
    obtain ⟨z2, hc2, b2⟩ := ct_154_ (d := d + 5) (l := l) (D := D) (b0 := b0) (ad := ad) (Hb := Hb) (tau := tau) hx1 hG1 (show (-9223372036854775808) ≤ x0 ∧ x0 ≤ 9223372036854775807 by omega) (show (-9223372036854775808) ≤ 1 ∧ 1 ≤ 9223372036854775807 by omega) (show (-9223372036854775808) ≤ 99 ∧ 99 ≤ 9223372036854775807 by omega)
    refine Jcs (show mx_Sn _ _ 11 (mx_calls 154 3 14) from sn_207 11) hc2 rfl rfl rfl ?_
    refine Jif_ne (show mx_Sn _ _ 14 (mx_if_ne 20 17) from sn_207 14) (by omega) (fun q3 => ?_) (fun q3 => ?_)
    · skip
      refine mx_J.step (sn_207 20) (fun _ _ => rfl) ?_
      have eq5 : Z1 57 27 = Z 57 27 := (up_nk hE1 rfl)
      have b6 := GI_st hG 27
      have b7 : 0 ≤ Z 56 18 ∧ Z 56 18 ≤ 385 := hG.pr 56 18
      have b8 : 0 ≤ Z 57 27 ∧ Z 57 27 ≤ 384 := by have hq := GI_ex hG 57 27; replace hq : f57 (27 % 962) (Z 57 27) := hq; unfold f57 at hq; omega
      have b9 : (-2147483648) ≤ Z 57 27 ∧ Z 57 27 ≤ 2147483647 := hG.pr 57 27
      obtain ⟨Z4, h4, hc4, hx4, hG4, hf4, b4⟩ := ct_202_56 (d := d + 5) (l := l) (D := D) (b0 := b0) (ad := ad) (Hb := Hb) (tau := tau) hx1 hG1 
      try rw [eq5] at b4
      have b10 : (-2147483648) ≤ Z4 66 0 ∧ Z4 66 0 ≤ 2147483647 := hG4.pr 66 0
      have b11 : (((0 : Int) = 0 → 0 ≤ (Z4 66 0) ∧ (Z4 66 0) ≤ 384) ∧ ((0 : Int) = 1 → 0 ≤ (Z4 66 0) ∧ (Z4 66 0) ≤ 9)) := GI_ex hG4 66 0
      refine Jcv0 hx1 (show mx_Sn _ _ 21 (mx_callv 202 1 12 24) from sn_207 21) a56 s56 hc4 rfl rfl rfl ?_
      refine JcI (z := 0) (show mx_Sn _ _ 24 (mx_const (.int 0) 25) from sn_207 24) rfl ?_
      refine mx_J.step (ls2 := [some (.ref 56), some (xI x0), some (xI 0)]) (sn_207 25) (fun _ _ => rfl) ?_
      have c26 : ∀ (m12 : Nat) (w12_2 : Int) (Z13 : xZ) (h13 : mx_H), 99 - w12_2 < (m12 : Int) → 0 ≤ w12_2 ∧ w12_2 ≤ 99 → (Z13 57 1 = Z 57 1 ∧ Z13 57 963 = Z 57 963 ∧ Z13 57 1925 = Z 57 1925) → XH n s S Z13 h13 → GI n S Z13 → fr' [(57, (-1)), (62, (-1)), (64, (-1)), (65, (-1))] Z4 Z13 → mx_J (tB l D b0 ad Hb tau) mt_207 (d + 6) 26 [some (.ref 56), some (xI x0), some (xI w12_2)] [] h13 Post := by
        intro m12
        induction m12 with
        | zero => intro w12_2 Z13 h13 q12 f12_0 f12_1 hx13 hG13 hf13; exact absurd q12 (by omega)
        | succ m12 ih12 =>
          intro w12_2 Z13 h13 q12 f12_0 f12_1 hx13 hG13 hf13
          have b14 : 0 ≤ Z13 57 1 ∧ Z13 57 1 ≤ 18 := by have hq := GI_ex hG13 57 1; replace hq : f57 (1 % 962) (Z13 57 1) := hq; unfold f57 at hq; omega
          have b15 : (-2147483648) ≤ Z13 57 1 ∧ Z13 57 1 ≤ 2147483647 := hG13.pr 57 1
          have b16 : 0 ≤ Z13 57 963 ∧ Z13 57 963 ≤ 18 := by have hq := GI_ex hG13 57 963; replace hq : f57 (963 % 962) (Z13 57 963) := hq; unfold f57 at hq; omega
          have b17 : (-2147483648) ≤ Z13 57 963 ∧ Z13 57 963 ≤ 2147483647 := hG13.pr 57 963
          have b18 : 0 ≤ Z13 57 1925 ∧ Z13 57 1925 ≤ 18 := by have hq := GI_ex hG13 57 1925; replace hq : f57 (1925 % 962) (Z13 57 1925) := hq; unfold f57 at hq; omega
          have b19 : (-2147483648) ≤ Z13 57 1925 ∧ Z13 57 1925 ≤ 2147483647 := hG13.pr 57 1925
          refine mx_J.step (sn_207 26) (fun _ _ => rfl) ?_
          refine mx_J.step (sn_207 27) (fun _ _ => rfl) ?_
          refine Jicmp_ge (show mx_Sn _ _ 28 (mx_icmp_ge 42 31) from sn_207 28) (by omega) (by omega) (fun q20 => ?_) (fun q20 => ?_)
          · skip
            refine mx_J.step (sn_207 42) (fun _ _ => rfl) ?_
            have eq22 : Z13 66 0 = Z4 66 0 := (hf13 66 0 rfl)
            have eq23 : Z13 56 18 = Z 56 18 := ((hf13 56 18 rfl).trans ((hf4 56 18 rfl).trans (up_ni hE1 (by decide))))
            obtain ⟨Z21, h21, hc21, hx21, hG21, hf21, b21⟩ := ct_204_56 (d := d + 5) (l := l) (D := D) (b0 := b0) (ad := ad) (Hb := Hb) (tau := tau) hx13 hG13  (show Z13 66 0 < Z13 56 18 by first | omega | (simp only [eq22, eq23]; omega))
            try rw [eq22] at b21
            try rw [eq23] at b21
            have b24 : 0 ≤ Z21 57 1 ∧ Z21 57 1 ≤ 18 := by have hq := GI_ex hG21 57 1; replace hq : f57 (1 % 962) (Z21 57 1) := hq; unfold f57 at hq; omega
            have b25 : (-2147483648) ≤ Z21 57 1 ∧ Z21 57 1 ≤ 2147483647 := hG21.pr 57 1
            have b26 : 0 ≤ Z21 57 963 ∧ Z21 57 963 ≤ 18 := by have hq := GI_ex hG21 57 963; replace hq : f57 (963 % 962) (Z21 57 963) := hq; unfold f57 at hq; omega
            have b27 : (-2147483648) ≤ Z21 57 963 ∧ Z21 57 963 ≤ 2147483647 := hG21.pr 57 963
            have b28 : 0 ≤ Z21 57 1925 ∧ Z21 57 1925 ≤ 18 := by have hq := GI_ex hG21 57 1925; replace hq : f57 (1925 % 962) (Z21 57 1925) := hq; unfold f57 at hq; omega
            have b29 : (-2147483648) ≤ Z21 57 1925 ∧ Z21 57 1925 ≤ 2147483647 := hG21.pr 57 1925
            refine Jcv0 hx13 (show mx_Sn _ _ 43 (mx_callv 204 1 12 46) from sn_207 43) a56 s56 hc21 rfl rfl rfl ?_
            refine mx_J.step (sn_207 46) (fun _ _ => rfl) ?_
            refine mx_J.step (sn_207 47) (fun _ _ => rfl) ?_
            refine JgetR (g := 1) (b := 57) hx21 (show mx_Sn _ _ 48 (mx_getf 12 1 51) from sn_207 48) a56 s56 rfl rfl (hG21.prr 56 1 rfl) ?_
            refine JcI (z := 27) (show mx_Sn _ _ 51 (mx_const (.int 27) 53) from sn_207 51) rfl ?_
            have b31 := GI_st hG21 27
            have eq32 : Z21 56 18 = Z 56 18 := ((hf21 56 18 rfl).trans ((hf13 56 18 rfl).trans ((hf4 56 18 rfl).trans (up_ni hE1 (by decide)))))
            have b33 : 0 ≤ Z21 57 27 ∧ Z21 57 27 ≤ 384 := by have hq := GI_ex hG21 57 27; replace hq : f57 (27 % 962) (Z21 57 27) := hq; unfold f57 at hq; omega
            have b34 : (-2147483648) ≤ Z21 57 27 ∧ Z21 57 27 ≤ 2147483647 := hG21.pr 57 27
            refine JialdI (z := Z21 57 27) hx21 (show mx_Sn _ _ 53 (mx_iald 54) from sn_207 53) a57 s57 (by omega) rfl ?_
            have eq36 : mn Z21 (Z21 57 27) = mn Z (Z21 57 27) := ((mn_c (fun i => hf21 61 i rfl)).trans ((mn_c (fun i => hf13 61 i rfl)).trans ((mn_c (fun i => hf4 61 i rfl)).trans (mn_c (fun i => up_nk hE1 rfl)))))
            obtain ⟨z35, hc35, b35⟩ := ct_191_56 (d := d + 4) (l := l) (D := D) (b0 := b0) (ad := ad) (Hb := Hb) (tau := tau) hx21 hG21 (show 0 ≤ Z21 57 27 ∧ Z21 57 27 ≤ 384 by omega)
            refine Jcv hx21 (show mx_Sn _ _ 54 (mx_callv 191 2 12 57) from sn_207 54) a56 s56 hc35 rfl rfl rfl ?_
            exact mx_J.ret (sn_207 57) (fun _ _ => rfl) (hP z35 Z21 h21 hx21 hG21 (fr_tr (M := [(56, 0), (57, (-1)), (62, (-1)), (64, (-1)), (65, (-1)), (66, (-1))]) (fr_tr (M := [(56, 0), (57, (-1)), (62, (-1)), (64, (-1)), (65, (-1)), (66, (-1))]) (fr_tr (M := [(56, 0), (57, (-1)), (62, (-1)), (64, (-1)), (65, (-1)), (66, (-1))]) (fr_tr (M := [(56, 0), (57, (-1)), (62, (-1)), (64, (-1)), (65, (-1)), (66, (-1))]) fr_rf (fr_up hE1) (M1 := []) rfl rfl) (hf4) rfl rfl) (hf13) rfl rfl) (hf21) rfl rfl) (by omega))
          · skip
            refine mx_J.step (sn_207 31) (fun _ _ => rfl) ?_
            refine JcI (z := 0) (show mx_Sn _ _ 32 (mx_const (.int 0) 33) from sn_207 32) rfl ?_
            obtain ⟨Z37, h37, hc37, hx37, hG37, hf37, b37⟩ := ct_205_56 (d := d + 0) (l := l) (D := D) (b0 := b0) (ad := ad) (Hb := Hb) (tau := tau) hx13 hG13 (show (-2147483648) ≤ 0 ∧ 0 ≤ 2147483647 by omega)
            have b38 : 0 ≤ Z37 57 1 ∧ Z37 57 1 ≤ 18 := by have hq := GI_ex hG37 57 1; replace hq : f57 (1 % 962) (Z37 57 1) := hq; unfold f57 at hq; omega
            have b39 : (-2147483648) ≤ Z37 57 1 ∧ Z37 57 1 ≤ 2147483647 := hG37.pr 57 1
            have b40 : 0 ≤ Z37 57 963 ∧ Z37 57 963 ≤ 18 := by have hq := GI_ex hG37 57 963; replace hq : f57 (963 % 962) (Z37 57 963) := hq; unfold f57 at hq; omega
            have b41 : (-2147483648) ≤ Z37 57 963 ∧ Z37 57 963 ≤ 2147483647 := hG37.pr 57 963
            have b42 : 0 ≤ Z37 57 1925 ∧ Z37 57 1925 ≤ 18 := by have hq := GI_ex hG37 57 1925; replace hq : f57 (1925 % 962) (Z37 57 1925) := hq; unfold f57 at hq; omega
            have b43 : (-2147483648) ≤ Z37 57 1925 ∧ Z37 57 1925 ≤ 2147483647 := hG37.pr 57 1925
            refine Jcv0 hx13 (show mx_Sn _ _ 33 (mx_callv 205 2 12 36) from sn_207 33) a56 s56 hc37 rfl rfl rfl ?_
            refine Jiinc (z := w12_2) (cz := 1) (ls2 := [some (.ref 56), some (xI x0), some (xI (w12_2 + 1))]) (show mx_Sn _ _ 36 (mx_iinc 2 1 39) from sn_207 36) rfl rfl rfl rfl ?_
            refine mx_J.step (sn_207 39) (fun _ _ => rfl) ?_
            exact ih12 (w12_2 + 1) Z37 h37 (by omega) (by omega) (by omega) hx37 hG37 (fr_tr (M := [(57, (-1)), (62, (-1)), (64, (-1)), (65, (-1))]) (fr_tr (M := [(57, (-1)), (62, (-1)), (64, (-1)), (65, (-1))]) fr_rf (hf13) (M1 := []) rfl rfl) (hf37) rfl rfl)
      have eq44 : Z4 57 1 = Z 57 1 := ((hf4 57 1 rfl).trans (up_nk hE1 rfl))
      have b45 : 0 ≤ Z 57 1 ∧ Z 57 1 ≤ 18 := by have hq := GI_ex hG 57 1; replace hq : f57 (1 % 962) (Z 57 1) := hq; unfold f57 at hq; omega
      have b46 : (-2147483648) ≤ Z 57 1 ∧ Z 57 1 ≤ 2147483647 := hG.pr 57 1
      have eq47 : Z4 57 963 = Z 57 963 := ((hf4 57 963 rfl).trans (up_nk hE1 rfl))
      have b48 : 0 ≤ Z 57 963 ∧ Z 57 963 ≤ 18 := by have hq := GI_ex hG 57 963; replace hq : f57 (963 % 962) (Z 57 963) := hq; unfold f57 at hq; omega
      have b49 : (-2147483648) ≤ Z 57 963 ∧ Z 57 963 ≤ 2147483647 := hG.pr 57 963
      have eq50 : Z4 57 1925 = Z 57 1925 := ((hf4 57 1925 rfl).trans (up_nk hE1 rfl))
      have b51 : 0 ≤ Z 57 1925 ∧ Z 57 1925 ≤ 18 := by have hq := GI_ex hG 57 1925; replace hq : f57 (1925 % 962) (Z 57 1925) := hq; unfold f57 at hq; omega
      have b52 : (-2147483648) ≤ Z 57 1925 ∧ Z 57 1925 ≤ 2147483647 := hG.pr 57 1925
      exact c26 (Int.toNat (99 - 0) + 1) 0 Z4 h4 (by omega) (by omega) (by omega) hx4 hG4 fr_rf
    · skip
      refine JcI (z := (-3)) (show mx_Sn _ _ 17 (mx_const (.int (-3)) 19) from sn_207 17) rfl ?_
      have eq53 : Z1 57 1 = Z 57 1 := (up_nk hE1 rfl)
      have b54 : 0 ≤ Z 57 1 ∧ Z 57 1 ≤ 18 := by have hq := GI_ex hG 57 1; replace hq : f57 (1 % 962) (Z 57 1) := hq; unfold f57 at hq; omega
      have b55 : (-2147483648) ≤ Z 57 1 ∧ Z 57 1 ≤ 2147483647 := hG.pr 57 1
      have eq56 : Z1 57 963 = Z 57 963 := (up_nk hE1 rfl)
      have b57 : 0 ≤ Z 57 963 ∧ Z 57 963 ≤ 18 := by have hq := GI_ex hG 57 963; replace hq : f57 (963 % 962) (Z 57 963) := hq; unfold f57 at hq; omega
      have b58 : (-2147483648) ≤ Z 57 963 ∧ Z 57 963 ≤ 2147483647 := hG.pr 57 963
      have eq59 : Z1 57 1925 = Z 57 1925 := (up_nk hE1 rfl)
      have b60 : 0 ≤ Z 57 1925 ∧ Z 57 1925 ≤ 18 := by have hq := GI_ex hG 57 1925; replace hq : f57 (1925 % 962) (Z 57 1925) := hq; unfold f57 at hq; omega
      have b61 : (-2147483648) ≤ Z 57 1925 ∧ Z 57 1925 ≤ 2147483647 := hG.pr 57 1925
      have eq62 : Z1 57 1 = Z 57 1 := (up_nk hE1 rfl)
      have eq63 : Z1 57 963 = Z 57 963 := (up_nk hE1 rfl)
      have eq64 : Z1 57 1925 = Z 57 1925 := (up_nk hE1 rfl)
      exact mx_J.ret (sn_207 19) (fun _ _ => rfl) (hP (-3) Z1 h1 hx1 hG1 (fr_tr (M := [(56, 0), (57, (-1)), (62, (-1)), (64, (-1)), (65, (-1)), (66, (-1))]) fr_rf (fr_up hE1) (M1 := []) rfl rfl) (by omega))
theorem ct_207_56 {l : Launch} {D : va_G} {b0 : Nat} {ad : Nat → Nat} {Hb : Heap} {tau : Nat → Int64} {d n s : Nat} {S : Nat → xS} {Z : xZ} {h : mx_H} (hx : XH n s S Z h) (hG : GI n S Z)  {x0 : Int} (p0 : (-2147483648) ≤ x0 ∧ x0 ≤ 2147483647) : ∃ (z : Int) (Z' : xZ) (h' : mx_H), mx_Ca (tB l D b0 ad Hb tau) (d + 7) 207 [.ref 56, xI x0] h (some (xI z), h') ∧ XH n s S Z' h' ∧ GI n S Z' ∧ fr' [(56, 0), (57, (-1)), (62, (-1)), (64, (-1)), (65, (-1)), (66, (-1))] Z Z' ∧ ((-3) ≤ z ∧ z ≤ 18 ∧ (Z' 57 1 = Z 57 1 ∧ Z' 57 963 = Z 57 963 ∧ Z' 57 1925 = Z 57 1925)) := by
  obtain ⟨r, hca, z, Z', h', e, q⟩ := Jmt (B := tB l D b0 ad Hb tau) (M := mt_207) (mi := 207) (as := [.ref 56, xI x0]) (d := d + 6) (ls := [some (.ref 56), some (xI x0), none]) rfl rfl rfl rfl rfl rfl (cw_207_56 (l := l) (D := D) (b0 := b0) (ad := ad) (Hb := Hb) (tau := tau) (d := d) (Post := fun r => ∃ (z : Int) (Z' : xZ) (h' : mx_H), r = (some (xI z), h') ∧ XH n s S Z' h' ∧ GI n S Z' ∧ fr' [(56, 0), (57, (-1)), (62, (-1)), (64, (-1)), (65, (-1)), (66, (-1))] Z Z' ∧ ((-3) ≤ z ∧ z ≤ 18 ∧ (Z' 57 1 = Z 57 1 ∧ Z' 57 963 = Z 57 963 ∧ Z' 57 1925 = Z 57 1925))) hx hG p0 (fun z Z' h' q1 q2 q3 q4 => ⟨z, Z', h', rfl, q1, q2, q3, q4⟩))
  subst e; exact ⟨z, Z', h', hca, q⟩
set_option maxRecDepth 100000 in
theorem cw_209_56 {l : Launch} {D : va_G} {b0 : Nat} {ad : Nat → Nat} {Hb : Heap} {tau : Nat → Int64} {d n s : Nat} {S : Nat → xS} {Z : xZ} {h : mx_H} {Post : mx_R → Prop} (hx : XH n s S Z h) (hG : GI n S Z)  {x0 x1 : Int} (p0 : (-2147483648) ≤ x0 ∧ x0 ≤ 2147483647) (p1 : (-2147483648) ≤ x1 ∧ x1 ≤ 2147483647) (hP : ∀ z : Int, 0 ≤ z ∧ z ≤ 2 ∧ (z = 0 → (1 ≤ x0 ∧ x0 ≤ 18 ∧ 1 ≤ x1 ∧ x1 ≤ x0 - 1 ∧ hv Z (Z 57 27) x0 = 1)) → Post (some (xI z), h)) : mx_J (tB l D b0 ad Hb tau) mt_209 (d + 2) 0 [some (.ref 56), some (xI x0), some (xI x1)] [] h Post := by
    have a56 : 56 < n := lt83 (GI_n hG) rfl
    have s56 : S 56 = .inl (12, [0, 2, 2, 2, 2, 0, 0, 0, 0, 0, 0, 0, 0, 0, 0, 2, 2, 2, 0, 2, 2, 2, 0, 0, 2, 2, 2, 2, 2, 2, 0, 0, 2, 2, 2, 2, 2, 2, 2, 2, 2, 2]) := GI_s hG 56 rfl
    have a57 : 57 < n := lt83 (GI_n hG) rfl
    have s57 : S 57 = .inr (.int, 2886, 0) := GI_s hG 57 rfl
    refine mx_J.step (sn_209 0) (fun _ _ => rfl) ?_
    refine Ji2l (show mx_Sn _ _ 1 (mx_i2l 2) from sn_209 1) (by omega) ?_
    obtain ⟨z1, hc1, b1⟩ := ct_208_ (d := d + 0) (l := l) (D := D) (b0 := b0) (ad := ad) (Hb := Hb) (tau := tau) hx hG (show (-9223372036854775808) ≤ x0 ∧ x0 ≤ 9223372036854775807 by omega)
    refine Jcs (show mx_Sn _ _ 2 (mx_calls 208 1 5) from sn_209 2) hc1 rfl rfl rfl ?_
    have c21 : mx_J (tB l D b0 ad Hb tau) mt_209 (d + 2) 21 [some (.ref 56), some (xI x0), some (xI x1)] [] h Post := by
      refine JcI (z := 1) (show mx_Sn _ _ 21 (mx_const (.int 1) 22) from sn_209 21) rfl ?_
      have b3 := GI_st hG 27
      have b4 : 0 ≤ Z 56 18 ∧ Z 56 18 ≤ 385 := hG.pr 56 18
      have b5 : 0 ≤ Z 57 27 ∧ Z 57 27 ≤ 384 := by have hq := GI_ex hG 57 27; replace hq : f57 (27 % 962) (Z 57 27) := hq; unfold f57 at hq; omega
      have b6 : (-2147483648) ≤ Z 57 27 ∧ Z 57 27 ≤ 2147483647 := hG.pr 57 27
      exact mx_J.ret (sn_209 22) (fun _ _ => rfl) (hP 1 (by omega))
    refine Jif_eq (show mx_Sn _ _ 5 (mx_if_eq 21 8) from sn_209 5) (by omega) (fun q7 => ?_) (fun q7 => ?_)
    · skip
      exact c21 
    · skip
      refine mx_J.step (sn_209 8) (fun _ _ => rfl) ?_
      refine Ji2l (show mx_Sn _ _ 9 (mx_i2l 10) from sn_209 9) (by omega) ?_
      refine JcL (z := 1) (show mx_Sn _ _ 10 (mx_const (.long 1) 11) from sn_209 10) rfl ?_
      refine mx_J.step (sn_209 11) (fun _ _ => rfl) ?_
      refine Ji2l (show mx_Sn _ _ 12 (mx_i2l 13) from sn_209 12) (by omega) ?_
      refine JcL (z := 1) (show mx_Sn _ _ 13 (mx_const (.long 1) 14) from sn_209 13) rfl ?_
      refine Jlsub (show mx_Sn _ _ 14 (mx_lsub 15) from sn_209 14) ?_
      obtain ⟨z8, hc8, b8⟩ := ct_154_ (d := d + 1) (l := l) (D := D) (b0 := b0) (ad := ad) (Hb := Hb) (tau := tau) hx hG (show (-9223372036854775808) ≤ x1 ∧ x1 ≤ 9223372036854775807 by omega) (show (-9223372036854775808) ≤ 1 ∧ 1 ≤ 9223372036854775807 by omega) (show (-9223372036854775808) ≤ x0 - 1 ∧ x0 - 1 ≤ 9223372036854775807 by omega)
      refine Jcs (show mx_Sn _ _ 15 (mx_calls 154 3 18) from sn_209 15) hc8 rfl rfl rfl ?_
      refine Jif_ne (show mx_Sn _ _ 18 (mx_if_ne 23 21) from sn_209 18) (by omega) (fun q9 => ?_) (fun q9 => ?_)
      · skip
        refine mx_J.step (sn_209 23) (fun _ _ => rfl) ?_
        refine mx_J.step (sn_209 24) (fun _ _ => rfl) ?_
        refine JgetR (g := 1) (b := 57) hx (show mx_Sn _ _ 25 (mx_getf 12 1 28) from sn_209 25) a56 s56 rfl rfl (hG.prr 56 1 rfl) ?_
        refine JcI (z := 27) (show mx_Sn _ _ 28 (mx_const (.int 27) 30) from sn_209 28) rfl ?_
        have b11 := GI_st hG 27
        have b12 : 0 ≤ Z 56 18 ∧ Z 56 18 ≤ 385 := hG.pr 56 18
        have b13 : 0 ≤ Z 57 27 ∧ Z 57 27 ≤ 384 := by have hq := GI_ex hG 57 27; replace hq : f57 (27 % 962) (Z 57 27) := hq; unfold f57 at hq; omega
        have b14 : (-2147483648) ≤ Z 57 27 ∧ Z 57 27 ≤ 2147483647 := hG.pr 57 27
        refine JialdI (z := Z 57 27) hx (show mx_Sn _ _ 30 (mx_iald 31) from sn_209 30) a57 s57 (by omega) rfl ?_
        refine mx_J.step (sn_209 31) (fun _ _ => rfl) ?_
        obtain ⟨z15, hc15, b15⟩ := ct_192_56 (d := d + 0) (l := l) (D := D) (b0 := b0) (ad := ad) (Hb := Hb) (tau := tau) hx hG (show 0 ≤ Z 57 27 ∧ Z 57 27 ≤ 384 by omega) (show (-2147483648) ≤ x0 ∧ x0 ≤ 2147483647 by omega)
        refine Jcv hx (show mx_Sn _ _ 32 (mx_callv 192 3 12 35) from sn_209 32) a56 s56 hc15 rfl rfl rfl ?_
        refine JcI (z := (-1)) (show mx_Sn _ _ 35 (mx_const (.int (-1)) 36) from sn_209 35) rfl ?_
        have c44 : ∀ (k16_0 : Int), 0 ≤ k16_0 ∧ k16_0 ≤ 2 → (k16_0 = 0 → hv Z (Z 57 27) x0 = 1) → mx_J (tB l D b0 ad Hb tau) mt_209 (d + 2) 44 [some (.ref 56), some (xI x0), some (xI x1)] [xI k16_0] h Post := by
          intro k16_0 f16_0 f16_1
          exact mx_J.ret (sn_209 44) (fun _ _ => rfl) (hP k16_0 (by omega))
        refine Jicmp_ne (show mx_Sn _ _ 36 (mx_icmp_ne 43 39) from sn_209 36) (by omega) (by omega) (fun q17 => ?_) (fun q17 => ?_)
        · skip
          refine JcI (z := 0) (show mx_Sn _ _ 43 (mx_const (.int 0) 44) from sn_209 43) rfl ?_
          exact c44 0 (by omega) (by omega)
        · skip
          refine JcI (z := 2) (show mx_Sn _ _ 39 (mx_const (.int 2) 40) from sn_209 39) rfl ?_
          refine mx_J.step (sn_209 40) (fun _ _ => rfl) ?_
          exact c44 2 (by omega) (by omega)
      · skip
        exact c21 
theorem ct_209_56 {l : Launch} {D : va_G} {b0 : Nat} {ad : Nat → Nat} {Hb : Heap} {tau : Nat → Int64} {d n s : Nat} {S : Nat → xS} {Z : xZ} {h : mx_H} (hx : XH n s S Z h) (hG : GI n S Z)  {x0 x1 : Int} (p0 : (-2147483648) ≤ x0 ∧ x0 ≤ 2147483647) (p1 : (-2147483648) ≤ x1 ∧ x1 ≤ 2147483647) : ∃ z : Int, mx_Ca (tB l D b0 ad Hb tau) (d + 3) 209 [.ref 56, xI x0, xI x1] h (some (xI z), h) ∧ (0 ≤ z ∧ z ≤ 2 ∧ (z = 0 → (1 ≤ x0 ∧ x0 ≤ 18 ∧ 1 ≤ x1 ∧ x1 ≤ x0 - 1 ∧ hv Z (Z 57 27) x0 = 1))) := by
  obtain ⟨r, hca, z, e, hp⟩ := Jmt (B := tB l D b0 ad Hb tau) (M := mt_209) (mi := 209) (as := [.ref 56, xI x0, xI x1]) (d := d + 2) (ls := [some (.ref 56), some (xI x0), some (xI x1)]) rfl rfl rfl rfl rfl rfl (cw_209_56 (l := l) (D := D) (b0 := b0) (ad := ad) (Hb := Hb) (tau := tau) (d := d) (Post := fun r => ∃ z : Int, r = (some (xI z), h) ∧ (0 ≤ z ∧ z ≤ 2 ∧ (z = 0 → (1 ≤ x0 ∧ x0 ≤ 18 ∧ 1 ≤ x1 ∧ x1 ≤ x0 - 1 ∧ hv Z (Z 57 27) x0 = 1)))) hx hG p0 p1 (fun z hz => ⟨z, rfl, hz⟩))
  subst e; exact ⟨z, hca, hp⟩
set_option maxRecDepth 100000 in
theorem cw_210_56 {l : Launch} {D : va_G} {b0 : Nat} {ad : Nat → Nat} {Hb : Heap} {tau : Nat → Int64} {d n s : Nat} {S : Nat → xS} {Z : xZ} {h : mx_H} {Post : mx_R → Prop} (hx : XH n s S Z h) (hG : GI n S Z)  {x0 x1 : Int} (p0 : 1 ≤ x0 ∧ x0 ≤ 18) (p1 : 1 ≤ x1 ∧ x1 ≤ 17) (k0 : hv Z (Z 57 27) x0 = 1) (hP : ∀ (Z' : xZ) (h' : mx_H), XH n s S Z' h' → GI n S Z' → fr' [(57, (-1)), (62, (-1))] Z Z' → (Z' 57 1 = Z 57 1 ∧ Z' 57 963 = Z 57 963 ∧ Z' 57 1925 = Z 57 1925) → Post (none, h')) : mx_J (tB l D b0 ad Hb tau) mt_210 (d + 2) 0 [some (.ref 56), some (xI x0), some (xI x1)] [] h Post := by
    have a56 : 56 < n := lt83 (GI_n hG) rfl
    have s56 : S 56 = .inl (12, [0, 2, 2, 2, 2, 0, 0, 0, 0, 0, 0, 0, 0, 0, 0, 2, 2, 2, 0, 2, 2, 2, 0, 0, 2, 2, 2, 2, 2, 2, 0, 0, 2, 2, 2, 2, 2, 2, 2, 2, 2, 2]) := GI_s hG 56 rfl
    have a57 : 57 < n := lt83 (GI_n hG) rfl
    have s57 : S 57 = .inr (.int, 2886, 0) := GI_s hG 57 rfl
    have a62 : 62 < n := lt83 (GI_n hG) rfl
    have s62 : S 62 = .inr (.int, 20, 0) := GI_s hG 62 rfl
    refine mx_J.step (sn_210 0) (fun _ _ => rfl) ?_
    refine mx_J.step (sn_210 1) (fun _ _ => rfl) ?_
    refine JgetR (g := 1) (b := 57) hx (show mx_Sn _ _ 2 (mx_getf 12 1 5) from sn_210 2) a56 s56 rfl rfl (hG.prr 56 1 rfl) ?_
    refine JcI (z := 27) (show mx_Sn _ _ 5 (mx_const (.int 27) 7) from sn_210 5) rfl ?_
    have b2 := GI_st hG 27
    have b3 : 0 ≤ Z 56 18 ∧ Z 56 18 ≤ 385 := hG.pr 56 18
    have b4 : 0 ≤ Z 57 27 ∧ Z 57 27 ≤ 384 := by have hq := GI_ex hG 57 27; replace hq : f57 (27 % 962) (Z 57 27) := hq; unfold f57 at hq; omega
    have b5 : (-2147483648) ≤ Z 57 27 ∧ Z 57 27 ≤ 2147483647 := hG.pr 57 27
    refine JialdI (z := Z 57 27) hx (show mx_Sn _ _ 7 (mx_iald 8) from sn_210 7) a57 s57 (by omega) rfl ?_
    obtain ⟨Z6, h6, hc6, hx6, hG6, hf6⟩ := ct_187_56 (d := d + 0) (l := l) (D := D) (b0 := b0) (ad := ad) (Hb := Hb) (tau := tau) hx hG (show 0 ≤ Z 57 27 ∧ Z 57 27 ≤ 384 by omega)
    refine Jcv0 hx (show mx_Sn _ _ 8 (mx_callv 187 2 12 11) from sn_210 8) a56 s56 hc6 rfl rfl rfl ?_
    refine mx_J.step (sn_210 11) (fun _ _ => rfl) ?_
    refine JgetR (g := 16) (b := 62) hx6 (show mx_Sn _ _ 12 (mx_getf 12 16 15) from sn_210 12) a56 s56 rfl rfl (hG6.prr 56 16 rfl) ?_
    refine mx_J.step (sn_210 15) (fun _ _ => rfl) ?_
    refine mx_J.step (sn_210 16) (fun _ _ => rfl) ?_
    refine JgetR (g := 1) (b := 57) hx6 (show mx_Sn _ _ 17 (mx_getf 12 1 20) from sn_210 17) a56 s56 rfl rfl (hG6.prr 56 1 rfl) ?_
    refine JcI (z := 27) (show mx_Sn _ _ 20 (mx_const (.int 27) 22) from sn_210 20) rfl ?_
    refine JialdI (z := Z 57 27) hx6 (show mx_Sn _ _ 22 (mx_iald 23) from sn_210 22) a57 s57 (by omega) (hf6 57 27 rfl) ?_
    refine mx_J.step (sn_210 23) (fun _ _ => rfl) ?_
    have eq10 : hv Z6 (Z 57 27) x0 = hv Z (Z 57 27) x0 := (hv_c (fun i => hf6 61 i rfl))
    obtain ⟨z9, hc9, b9⟩ := ct_192_56 (d := d + 0) (l := l) (D := D) (b0 := b0) (ad := ad) (Hb := Hb) (tau := tau) hx6 hG6 (show 0 ≤ Z 57 27 ∧ Z 57 27 ≤ 384 by omega) (show (-2147483648) ≤ x0 ∧ x0 ≤ 2147483647 by omega)
    refine Jcv hx6 (show mx_Sn _ _ 24 (mx_callv 192 3 12 27) from sn_210 24) a56 s56 hc9 rfl rfl rfl ?_
    refine mx_J.step (sn_210 27) (fun _ _ => rfl) ?_
    refine mx_J.step (sn_210 28) (fun _ _ => rfl) ?_
    refine Jisub (show mx_Sn _ _ 29 (mx_isub 30) from sn_210 29) ?_
    refine JiastI hx6 (show mx_Sn _ _ 30 (mx_iast 1 31) from sn_210 30) a62 s62 rfl (by omega) (fun Z11 h11 hx11 hE11 => ?_)
    have hG11 := GI_up hG6 hE11 (show (-2147483648) ≤ x0 - x1 ∧ x0 - x1 ≤ 2147483647 by omega) trivial rfl
    refine mx_J.step (sn_210 31) (fun _ _ => rfl) ?_
    refine JgetR (g := 16) (b := 62) hx11 (show mx_Sn _ _ 32 (mx_getf 12 16 35) from sn_210 32) a56 s56 rfl rfl (hG11.prr 56 16 rfl) ?_
    refine JcI (z := 18) (show mx_Sn _ _ 35 (mx_const (.int 18) 37) from sn_210 35) rfl ?_
    refine mx_J.step (sn_210 37) (fun _ _ => rfl) ?_
    refine JiastI hx11 (show mx_Sn _ _ 38 (mx_iast 1 39) from sn_210 38) a62 s62 rfl (by omega) (fun Z13 h13 hx13 hE13 => ?_)
    have hG13 := GI_up hG11 hE13 (show (-2147483648) ≤ x1 ∧ x1 ≤ 2147483647 by omega) trivial rfl
    refine mx_J.step (sn_210 39) (fun _ _ => rfl) ?_
    refine JgetR (g := 1) (b := 57) hx13 (show mx_Sn _ _ 40 (mx_getf 12 1 43) from sn_210 40) a56 s56 rfl rfl (hG13.prr 56 1 rfl) ?_
    refine JcI (z := 27) (show mx_Sn _ _ 43 (mx_const (.int 27) 45) from sn_210 43) rfl ?_
    refine mx_J.step (sn_210 45) (fun _ _ => rfl) ?_
    have eq16 : Z13 56 18 = Z 56 18 := ((up_nk hE13 rfl).trans ((up_nk hE11 rfl).trans (hf6 56 18 rfl)))
    obtain ⟨z15, Z15, h15, hc15, hx15, hG15, hf15, b15⟩ := ct_188_56 (d := d + 0) (l := l) (D := D) (b0 := b0) (ad := ad) (Hb := Hb) (tau := tau) hx13 hG13 
    try rw [eq16] at b15
    refine Jcv hx13 (show mx_Sn _ _ 46 (mx_callv 188 1 12 49) from sn_210 46) a56 s56 hc15 rfl rfl rfl ?_
    refine JiastI hx15 (show mx_Sn _ _ 49 (mx_iast 1 50) from sn_210 49) a57 s57 rfl (by omega) (fun Z17 h17 hx17 hE17 => ?_)
    have eq18 : Z15 56 18 = Z 56 18 := ((hf15 56 18 rfl).trans ((up_nk hE13 rfl).trans ((up_nk hE11 rfl).trans (hf6 56 18 rfl))))
    have hG17 := GI_up57 hG15 hE17 (show (-2147483648) ≤ z15 ∧ z15 ≤ 2147483647 by omega) (show f57 ((27) % 962) (z15) by first | assumption | (unfold f57; omega) | (unfold f57 at *; omega)) (by omega) (by omega)
    have eq19 : Z17 57 1 = Z 57 1 := ((up_ni hE17 (by decide)).trans ((hf15 57 1 rfl).trans ((up_nk hE13 rfl).trans ((up_nk hE11 rfl).trans (hf6 57 1 rfl)))))
    have b20 : 0 ≤ Z 57 1 ∧ Z 57 1 ≤ 18 := by have hq := GI_ex hG 57 1; replace hq : f57 (1 % 962) (Z 57 1) := hq; unfold f57 at hq; omega
    have b21 : (-2147483648) ≤ Z 57 1 ∧ Z 57 1 ≤ 2147483647 := hG.pr 57 1
    have eq22 : Z17 57 963 = Z 57 963 := ((up_ni hE17 (by decide)).trans ((hf15 57 963 rfl).trans ((up_nk hE13 rfl).trans ((up_nk hE11 rfl).trans (hf6 57 963 rfl)))))
    have b23 : 0 ≤ Z 57 963 ∧ Z 57 963 ≤ 18 := by have hq := GI_ex hG 57 963; replace hq : f57 (963 % 962) (Z 57 963) := hq; unfold f57 at hq; omega
    have b24 : (-2147483648) ≤ Z 57 963 ∧ Z 57 963 ≤ 2147483647 := hG.pr 57 963
    have eq25 : Z17 57 1925 = Z 57 1925 := ((up_ni hE17 (by decide)).trans ((hf15 57 1925 rfl).trans ((up_nk hE13 rfl).trans ((up_nk hE11 rfl).trans (hf6 57 1925 rfl)))))
    have b26 : 0 ≤ Z 57 1925 ∧ Z 57 1925 ≤ 18 := by have hq := GI_ex hG 57 1925; replace hq : f57 (1925 % 962) (Z 57 1925) := hq; unfold f57 at hq; omega
    have b27 : (-2147483648) ≤ Z 57 1925 ∧ Z 57 1925 ≤ 2147483647 := hG.pr 57 1925
    have eq28 : Z17 57 27 = z15 := (up_at hE17)
    have eq29 : hv Z17 (Z17 57 27) x0 = hv Z z15 x0 := by rw [(show Z17 57 27 = z15 from (up_at hE17))]; exact ((hv_c (fun i => up_nk hE17 rfl)).trans ((hv_c (fun i => hf15 61 i rfl)).trans ((hv_c (fun i => up_nk hE13 rfl)).trans ((hv_c (fun i => up_nk hE11 rfl)).trans (hv_c (fun i => hf6 61 i rfl))))))
    have eq30 : hv Z17 z15 x0 = hv Z z15 x0 := ((hv_c (fun i => up_nk hE17 rfl)).trans ((hv_c (fun i => hf15 61 i rfl)).trans ((hv_c (fun i => up_nk hE13 rfl)).trans ((hv_c (fun i => up_nk hE11 rfl)).trans (hv_c (fun i => hf6 61 i rfl))))))
    have eq31 : Z17 57 1 = Z 57 1 := ((up_ni hE17 (by decide)).trans ((hf15 57 1 rfl).trans ((up_nk hE13 rfl).trans ((up_nk hE11 rfl).trans (hf6 57 1 rfl)))))
    have eq32 : Z17 57 963 = Z 57 963 := ((up_ni hE17 (by decide)).trans ((hf15 57 963 rfl).trans ((up_nk hE13 rfl).trans ((up_nk hE11 rfl).trans (hf6 57 963 rfl)))))
    have eq33 : Z17 57 1925 = Z 57 1925 := ((up_ni hE17 (by decide)).trans ((hf15 57 1925 rfl).trans ((up_nk hE13 rfl).trans ((up_nk hE11 rfl).trans (hf6 57 1925 rfl)))))
    exact mx_J.ret (sn_210 50) (fun _ _ => rfl) (hP Z17 h17 hx17 hG17 (fr_tr (M := [(57, (-1)), (62, (-1))]) (fr_tr (M := [(57, (-1)), (62, (-1))]) (fr_tr (M := [(57, (-1)), (62, (-1))]) (fr_tr (M := [(57, (-1)), (62, (-1))]) (fr_tr (M := [(57, (-1)), (62, (-1))]) fr_rf (hf6) (M1 := []) rfl rfl) (fr_ua hE11) rfl rfl) (fr_ua hE13) rfl rfl) (hf15) rfl rfl) (fr_ua hE17) rfl rfl) (by omega))
theorem ct_210_56 {l : Launch} {D : va_G} {b0 : Nat} {ad : Nat → Nat} {Hb : Heap} {tau : Nat → Int64} {d n s : Nat} {S : Nat → xS} {Z : xZ} {h : mx_H} (hx : XH n s S Z h) (hG : GI n S Z)  {x0 x1 : Int} (p0 : 1 ≤ x0 ∧ x0 ≤ 18) (p1 : 1 ≤ x1 ∧ x1 ≤ 17) (k0 : hv Z (Z 57 27) x0 = 1) : ∃ (Z' : xZ) (h' : mx_H), mx_Ca (tB l D b0 ad Hb tau) (d + 3) 210 [.ref 56, xI x0, xI x1] h (none, h') ∧ XH n s S Z' h' ∧ GI n S Z' ∧ fr' [(57, (-1)), (62, (-1))] Z Z' ∧ ((Z' 57 1 = Z 57 1 ∧ Z' 57 963 = Z 57 963 ∧ Z' 57 1925 = Z 57 1925)) := by
  obtain ⟨r, hca, Z', h', e, q⟩ := Jmt (B := tB l D b0 ad Hb tau) (M := mt_210) (mi := 210) (as := [.ref 56, xI x0, xI x1]) (d := d + 2) (ls := [some (.ref 56), some (xI x0), some (xI x1)]) rfl rfl rfl rfl rfl rfl (cw_210_56 (l := l) (D := D) (b0 := b0) (ad := ad) (Hb := Hb) (tau := tau) (d := d) (Post := fun r => ∃ (Z' : xZ) (h' : mx_H), r = (none, h') ∧ XH n s S Z' h' ∧ GI n S Z' ∧ fr' [(57, (-1)), (62, (-1))] Z Z' ∧ ((Z' 57 1 = Z 57 1 ∧ Z' 57 963 = Z 57 963 ∧ Z' 57 1925 = Z 57 1925))) hx hG p0 p1 k0 (fun Z' h' q1 q2 q3 q4 => ⟨Z', h', rfl, q1, q2, q3, q4⟩))
  subst e; exact ⟨Z', h', hca, q⟩
set_option maxRecDepth 100000 in
theorem cw_211_56 {l : Launch} {D : va_G} {b0 : Nat} {ad : Nat → Nat} {Hb : Heap} {tau : Nat → Int64} {d n s : Nat} {S : Nat → xS} {Z : xZ} {h : mx_H} {Post : mx_R → Prop} (hx : XH n s S Z h) (hG : GI n S Z)  {x0 x1 : Int} (p0 : (-2147483648) ≤ x0 ∧ x0 ≤ 2147483647) (p1 : (-2147483648) ≤ x1 ∧ x1 ≤ 2147483647) (hP : ∀ (z : Int) (Z' : xZ) (h' : mx_H), XH n s S Z' h' → GI n S Z' → fr' [(56, 0), (57, (-1)), (62, (-1)), (66, (-1))] Z Z' → (-12) ≤ z ∧ z ≤ 18 ∧ (Z' 57 1 = Z 57 1 ∧ Z' 57 963 = Z 57 963 ∧ Z' 57 1925 = Z 57 1925) → Post (some (xI z), h')) : mx_J (tB l D b0 ad Hb tau) mt_211 (d + 3) 0 [some (.ref 56), some (xI x0), some (xI x1), none] [] h Post := by
    have a56 : 56 < n := lt83 (GI_n hG) rfl
    have s56 : S 56 = .inl (12, [0, 2, 2, 2, 2, 0, 0, 0, 0, 0, 0, 0, 0, 0, 0, 2, 2, 2, 0, 2, 2, 2, 0, 0, 2, 2, 2, 2, 2, 2, 0, 0, 2, 2, 2, 2, 2, 2, 2, 2, 2, 2]) := GI_s hG 56 rfl
    have a57 : 57 < n := lt83 (GI_n hG) rfl
    have s57 : S 57 = .inr (.int, 2886, 0) := GI_s hG 57 rfl
    refine mx_J.step (sn_211 0) (fun _ _ => rfl) ?_
    refine JcI (z := 0) (show mx_Sn _ _ 1 (mx_const (.int 0) 2) from sn_211 1) rfl ?_
    refine JputI (g := 0) hx (show mx_Sn _ _ 2 (mx_putf 1 12 0 (.int) 5) from sn_211 2) a56 s56 rfl rfl rfl rfl (fun Z1 h1 hx1 hE1 => ?_)
    have hG1 := GI_up hG hE1 (show (-2147483648) ≤ 0 ∧ 0 ≤ 2147483647 by omega) trivial rfl
    refine mx_J.step (sn_211 5) (fun _ _ => rfl) ?_
    refine mx_J.step (sn_211 6) (fun _ _ => rfl) ?_
    refine mx_J.step (sn_211 7) (fun _ _ => rfl) ?_
    have eq3 : Z1 57 27 = Z 57 27 := (up_nk hE1 rfl)
    have b4 := GI_st hG 27
    have b5 : 0 ≤ Z 56 18 ∧ Z 56 18 ≤ 385 := hG.pr 56 18
    have b6 : 0 ≤ Z 57 27 ∧ Z 57 27 ≤ 384 := by have hq := GI_ex hG 57 27; replace hq : f57 (27 % 962) (Z 57 27) := hq; unfold f57 at hq; omega
    have b7 : (-2147483648) ≤ Z 57 27 ∧ Z 57 27 ≤ 2147483647 := hG.pr 57 27
    have eq8 : hv Z1 (Z1 57 27) x0 = hv Z (Z 57 27) x0 := by rw [(show Z1 57 27 = Z 57 27 from (up_nk hE1 rfl))]; exact (hv_c (fun i => up_nk hE1 rfl))
    have eq9 : hv Z1 (Z 57 27) x0 = hv Z (Z 57 27) x0 := (hv_c (fun i => up_nk hE1 rfl))
    obtain ⟨z2, hc2, b2⟩ := ct_209_56 (d := d + 0) (l := l) (D := D) (b0 := b0) (ad := ad) (Hb := Hb) (tau := tau) hx1 hG1 (show (-2147483648) ≤ x0 ∧ x0 ≤ 2147483647 by omega) (show (-2147483648) ≤ x1 ∧ x1 ≤ 2147483647 by omega)
    try rw [eq3] at b2
    refine Jcv hx1 (show mx_Sn _ _ 8 (mx_callv 209 3 12 11) from sn_211 8) a56 s56 hc2 rfl rfl rfl ?_
    refine mx_J.step (ls2 := [some (.ref 56), some (xI x0), some (xI x1), some (xI z2)]) (sn_211 11) (fun _ _ => rfl) ?_
    refine mx_J.step (sn_211 12) (fun _ _ => rfl) ?_
    refine Jif_eq (show mx_Sn _ _ 13 (mx_if_eq 21 16) from sn_211 13) (by omega) (fun q10 => ?_) (fun q10 => ?_)
    · skip
      refine mx_J.step (sn_211 21) (fun _ _ => rfl) ?_
      have eq12 : Z1 57 27 = Z 57 27 := (up_nk hE1 rfl)
      obtain ⟨Z11, h11, hc11, hx11, hG11, hf11, b11⟩ := ct_202_56 (d := d + 2) (l := l) (D := D) (b0 := b0) (ad := ad) (Hb := Hb) (tau := tau) hx1 hG1 
      try rw [eq12] at b11
      have b13 : (-2147483648) ≤ Z11 66 0 ∧ Z11 66 0 ≤ 2147483647 := hG11.pr 66 0
      have b14 : (((0 : Int) = 0 → 0 ≤ (Z11 66 0) ∧ (Z11 66 0) ≤ 384) ∧ ((0 : Int) = 1 → 0 ≤ (Z11 66 0) ∧ (Z11 66 0) ≤ 9)) := GI_ex hG11 66 0
      refine Jcv0 hx1 (show mx_Sn _ _ 22 (mx_callv 202 1 12 25) from sn_211 22) a56 s56 hc11 rfl rfl rfl ?_
      refine mx_J.step (sn_211 25) (fun _ _ => rfl) ?_
      refine mx_J.step (sn_211 26) (fun _ _ => rfl) ?_
      refine mx_J.step (sn_211 27) (fun _ _ => rfl) ?_
      have eq16 : Z11 57 27 = Z 57 27 := ((hf11 57 27 rfl).trans (up_nk hE1 rfl))
      have eq17 : hv Z11 (Z11 57 27) x0 = hv Z (Z 57 27) x0 := by rw [(show Z11 57 27 = Z 57 27 from ((hf11 57 27 rfl).trans (up_nk hE1 rfl)))]; exact ((hv_c (fun i => hf11 61 i rfl)).trans (hv_c (fun i => up_nk hE1 rfl)))
      have eq18 : hv Z11 (Z 57 27) x0 = hv Z (Z 57 27) x0 := ((hv_c (fun i => hf11 61 i rfl)).trans (hv_c (fun i => up_nk hE1 rfl)))
      have eq19 : Z11 57 1 = Z 57 1 := ((hf11 57 1 rfl).trans (up_nk hE1 rfl))
      have b20 : 0 ≤ Z 57 1 ∧ Z 57 1 ≤ 18 := by have hq := GI_ex hG 57 1; replace hq : f57 (1 % 962) (Z 57 1) := hq; unfold f57 at hq; omega
      have b21 : (-2147483648) ≤ Z 57 1 ∧ Z 57 1 ≤ 2147483647 := hG.pr 57 1
      have eq22 : Z11 57 963 = Z 57 963 := ((hf11 57 963 rfl).trans (up_nk hE1 rfl))
      have b23 : 0 ≤ Z 57 963 ∧ Z 57 963 ≤ 18 := by have hq := GI_ex hG 57 963; replace hq : f57 (963 % 962) (Z 57 963) := hq; unfold f57 at hq; omega
      have b24 : (-2147483648) ≤ Z 57 963 ∧ Z 57 963 ≤ 2147483647 := hG.pr 57 963
      have eq25 : Z11 57 1925 = Z 57 1925 := ((hf11 57 1925 rfl).trans (up_nk hE1 rfl))
      have b26 : 0 ≤ Z 57 1925 ∧ Z 57 1925 ≤ 18 := by have hq := GI_ex hG 57 1925; replace hq : f57 (1925 % 962) (Z 57 1925) := hq; unfold f57 at hq; omega
      have b27 : (-2147483648) ≤ Z 57 1925 ∧ Z 57 1925 ≤ 2147483647 := hG.pr 57 1925
      obtain ⟨Z15, h15, hc15, hx15, hG15, hf15, b15⟩ := ct_210_56 (d := d + 0) (l := l) (D := D) (b0 := b0) (ad := ad) (Hb := Hb) (tau := tau) hx11 hG11 (show 1 ≤ x0 ∧ x0 ≤ 18 by omega) (show 1 ≤ x1 ∧ x1 ≤ 17 by omega) (show hv Z11 (Z11 57 27) x0 = 1 by first | omega | (simp only [eq16, eq19, eq22, eq25]; omega))
      try rw [eq16] at b15
      try rw [eq19] at b15
      try rw [eq22] at b15
      try rw [eq25] at b15
      have b28 : 0 ≤ Z15 57 1 ∧ Z15 57 1 ≤ 18 := by have hq := GI_ex hG15 57 1; replace hq : f57 (1 % 962) (Z15 57 1) := hq; unfold f57 at hq; omega
      have b29 : (-2147483648) ≤ Z15 57 1 ∧ Z15 57 1 ≤ 2147483647 := hG15.pr 57 1
      have b30 : 0 ≤ Z15 57 963 ∧ Z15 57 963 ≤ 18 := by have hq := GI_ex hG15 57 963; replace hq : f57 (963 % 962) (Z15 57 963) := hq; unfold f57 at hq; omega
      have b31 : (-2147483648) ≤ Z15 57 963 ∧ Z15 57 963 ≤ 2147483647 := hG15.pr 57 963
      have b32 : 0 ≤ Z15 57 1925 ∧ Z15 57 1925 ≤ 18 := by have hq := GI_ex hG15 57 1925; replace hq : f57 (1925 % 962) (Z15 57 1925) := hq; unfold f57 at hq; omega
      have b33 : (-2147483648) ≤ Z15 57 1925 ∧ Z15 57 1925 ≤ 2147483647 := hG15.pr 57 1925
      refine Jcv0 hx11 (show mx_Sn _ _ 28 (mx_callv 210 3 12 31) from sn_211 28) a56 s56 hc15 rfl rfl rfl ?_
      refine mx_J.step (sn_211 31) (fun _ _ => rfl) ?_
      have eq35 : Z15 66 0 = Z11 66 0 := (hf15 66 0 rfl)
      have eq36 : Z15 56 18 = Z 56 18 := ((hf15 56 18 rfl).trans ((hf11 56 18 rfl).trans (up_ni hE1 (by decide))))
      obtain ⟨Z34, h34, hc34, hx34, hG34, hf34, b34⟩ := ct_204_56 (d := d + 2) (l := l) (D := D) (b0 := b0) (ad := ad) (Hb := Hb) (tau := tau) hx15 hG15  (show Z15 66 0 < Z15 56 18 by first | omega | (simp only [eq35, eq36]; omega))
      try rw [eq35] at b34
      try rw [eq36] at b34
      have b37 : 0 ≤ Z34 57 1 ∧ Z34 57 1 ≤ 18 := by have hq := GI_ex hG34 57 1; replace hq : f57 (1 % 962) (Z34 57 1) := hq; unfold f57 at hq; omega
      have b38 : (-2147483648) ≤ Z34 57 1 ∧ Z34 57 1 ≤ 2147483647 := hG34.pr 57 1
      have b39 : 0 ≤ Z34 57 963 ∧ Z34 57 963 ≤ 18 := by have hq := GI_ex hG34 57 963; replace hq : f57 (963 % 962) (Z34 57 963) := hq; unfold f57 at hq; omega
      have b40 : (-2147483648) ≤ Z34 57 963 ∧ Z34 57 963 ≤ 2147483647 := hG34.pr 57 963
      have b41 : 0 ≤ Z34 57 1925 ∧ Z34 57 1925 ≤ 18 := by have hq := GI_ex hG34 57 1925; replace hq : f57 (1925 % 962) (Z34 57 1925) := hq; unfold f57 at hq; omega
      have b42 : (-2147483648) ≤ Z34 57 1925 ∧ Z34 57 1925 ≤ 2147483647 := hG34.pr 57 1925
      refine Jcv0 hx15 (show mx_Sn _ _ 32 (mx_callv 204 1 12 35) from sn_211 32) a56 s56 hc34 rfl rfl rfl ?_
      refine mx_J.step (sn_211 35) (fun _ _ => rfl) ?_
      refine mx_J.step (sn_211 36) (fun _ _ => rfl) ?_
      refine JgetR (g := 1) (b := 57) hx34 (show mx_Sn _ _ 37 (mx_getf 12 1 40) from sn_211 37) a56 s56 rfl rfl (hG34.prr 56 1 rfl) ?_
      refine JcI (z := 27) (show mx_Sn _ _ 40 (mx_const (.int 27) 42) from sn_211 40) rfl ?_
      have b44 := GI_st hG34 27
      have eq45 : Z34 56 18 = Z 56 18 := ((hf34 56 18 rfl).trans ((hf15 56 18 rfl).trans ((hf11 56 18 rfl).trans (up_ni hE1 (by decide)))))
      have b46 : 0 ≤ Z34 57 27 ∧ Z34 57 27 ≤ 384 := by have hq := GI_ex hG34 57 27; replace hq : f57 (27 % 962) (Z34 57 27) := hq; unfold f57 at hq; omega
      have b47 : (-2147483648) ≤ Z34 57 27 ∧ Z34 57 27 ≤ 2147483647 := hG34.pr 57 27
      refine JialdI (z := Z34 57 27) hx34 (show mx_Sn _ _ 42 (mx_iald 43) from sn_211 42) a57 s57 (by omega) rfl ?_
      have eq49 : mn Z34 (Z34 57 27) = mn Z (Z34 57 27) := ((mn_c (fun i => hf34 61 i rfl)).trans ((mn_c (fun i => hf15 61 i rfl)).trans ((mn_c (fun i => hf11 61 i rfl)).trans (mn_c (fun i => up_nk hE1 rfl)))))
      obtain ⟨z48, hc48, b48⟩ := ct_191_56 (d := d + 1) (l := l) (D := D) (b0 := b0) (ad := ad) (Hb := Hb) (tau := tau) hx34 hG34 (show 0 ≤ Z34 57 27 ∧ Z34 57 27 ≤ 384 by omega)
      refine Jcv hx34 (show mx_Sn _ _ 43 (mx_callv 191 2 12 46) from sn_211 43) a56 s56 hc48 rfl rfl rfl ?_
      exact mx_J.ret (sn_211 46) (fun _ _ => rfl) (hP z48 Z34 h34 hx34 hG34 (fr_tr (M := [(56, 0), (57, (-1)), (62, (-1)), (66, (-1))]) (fr_tr (M := [(56, 0), (57, (-1)), (62, (-1)), (66, (-1))]) (fr_tr (M := [(56, 0), (57, (-1)), (62, (-1)), (66, (-1))]) (fr_tr (M := [(56, 0), (57, (-1)), (62, (-1)), (66, (-1))]) fr_rf (fr_up hE1) (M1 := []) rfl rfl) (hf11) rfl rfl) (hf15) rfl rfl) (hf34) rfl rfl) (by omega))
    · skip
      refine JcI (z := (-10)) (show mx_Sn _ _ 16 (mx_const (.int (-10)) 18) from sn_211 16) rfl ?_
      refine mx_J.step (sn_211 18) (fun _ _ => rfl) ?_
      refine Jisub (show mx_Sn _ _ 19 (mx_isub 20) from sn_211 19) ?_
      have eq50 : Z1 57 1 = Z 57 1 := (up_nk hE1 rfl)
      have b51 : 0 ≤ Z 57 1 ∧ Z 57 1 ≤ 18 := by have hq := GI_ex hG 57 1; replace hq : f57 (1 % 962) (Z 57 1) := hq; unfold f57 at hq; omega
      have b52 : (-2147483648) ≤ Z 57 1 ∧ Z 57 1 ≤ 2147483647 := hG.pr 57 1
      have eq53 : Z1 57 963 = Z 57 963 := (up_nk hE1 rfl)
      have b54 : 0 ≤ Z 57 963 ∧ Z 57 963 ≤ 18 := by have hq := GI_ex hG 57 963; replace hq : f57 (963 % 962) (Z 57 963) := hq; unfold f57 at hq; omega
      have b55 : (-2147483648) ≤ Z 57 963 ∧ Z 57 963 ≤ 2147483647 := hG.pr 57 963
      have eq56 : Z1 57 1925 = Z 57 1925 := (up_nk hE1 rfl)
      have b57 : 0 ≤ Z 57 1925 ∧ Z 57 1925 ≤ 18 := by have hq := GI_ex hG 57 1925; replace hq : f57 (1925 % 962) (Z 57 1925) := hq; unfold f57 at hq; omega
      have b58 : (-2147483648) ≤ Z 57 1925 ∧ Z 57 1925 ≤ 2147483647 := hG.pr 57 1925
      have eq59 : Z1 57 1 = Z 57 1 := (up_nk hE1 rfl)
      have eq60 : Z1 57 963 = Z 57 963 := (up_nk hE1 rfl)
      have eq61 : Z1 57 1925 = Z 57 1925 := (up_nk hE1 rfl)
      exact mx_J.ret (sn_211 20) (fun _ _ => rfl) (hP ((-10) - z2) Z1 h1 hx1 hG1 (fr_tr (M := [(56, 0), (57, (-1)), (62, (-1)), (66, (-1))]) fr_rf (fr_up hE1) (M1 := []) rfl rfl) (by omega))
theorem ct_211_56 {l : Launch} {D : va_G} {b0 : Nat} {ad : Nat → Nat} {Hb : Heap} {tau : Nat → Int64} {d n s : Nat} {S : Nat → xS} {Z : xZ} {h : mx_H} (hx : XH n s S Z h) (hG : GI n S Z)  {x0 x1 : Int} (p0 : (-2147483648) ≤ x0 ∧ x0 ≤ 2147483647) (p1 : (-2147483648) ≤ x1 ∧ x1 ≤ 2147483647) : ∃ (z : Int) (Z' : xZ) (h' : mx_H), mx_Ca (tB l D b0 ad Hb tau) (d + 4) 211 [.ref 56, xI x0, xI x1] h (some (xI z), h') ∧ XH n s S Z' h' ∧ GI n S Z' ∧ fr' [(56, 0), (57, (-1)), (62, (-1)), (66, (-1))] Z Z' ∧ ((-12) ≤ z ∧ z ≤ 18 ∧ (Z' 57 1 = Z 57 1 ∧ Z' 57 963 = Z 57 963 ∧ Z' 57 1925 = Z 57 1925)) := by
  obtain ⟨r, hca, z, Z', h', e, q⟩ := Jmt (B := tB l D b0 ad Hb tau) (M := mt_211) (mi := 211) (as := [.ref 56, xI x0, xI x1]) (d := d + 3) (ls := [some (.ref 56), some (xI x0), some (xI x1), none]) rfl rfl rfl rfl rfl rfl (cw_211_56 (l := l) (D := D) (b0 := b0) (ad := ad) (Hb := Hb) (tau := tau) (d := d) (Post := fun r => ∃ (z : Int) (Z' : xZ) (h' : mx_H), r = (some (xI z), h') ∧ XH n s S Z' h' ∧ GI n S Z' ∧ fr' [(56, 0), (57, (-1)), (62, (-1)), (66, (-1))] Z Z' ∧ ((-12) ≤ z ∧ z ≤ 18 ∧ (Z' 57 1 = Z 57 1 ∧ Z' 57 963 = Z 57 963 ∧ Z' 57 1925 = Z 57 1925))) hx hG p0 p1 (fun z Z' h' q1 q2 q3 q4 => ⟨z, Z', h', rfl, q1, q2, q3, q4⟩))
  subst e; exact ⟨z, Z', h', hca, q⟩
set_option maxRecDepth 100000 in
theorem cw_212_56 {l : Launch} {D : va_G} {b0 : Nat} {ad : Nat → Nat} {Hb : Heap} {tau : Nat → Int64} {d n s : Nat} {S : Nat → xS} {Z : xZ} {h : mx_H} {Post : mx_R → Prop} (hx : XH n s S Z h) (hG : GI n S Z)  {x0 x1 : Int} (p0 : (-2147483648) ≤ x0 ∧ x0 ≤ 2147483647) (p1 : (-2147483648) ≤ x1 ∧ x1 ≤ 2147483647) (hP : ∀ z : Int, 0 ≤ z ∧ z ≤ 2 ∧ (z = 0 → (1 ≤ x0 ∧ x0 ≤ 18 ∧ 1 ≤ x1 ∧ x1 ≤ 18 ∧ hv Z (Z 57 27) x0 = 1 ∧ hv Z (Z 57 27) x1 = 1)) → Post (some (xI z), h)) : mx_J (tB l D b0 ad Hb tau) mt_212 (d + 2) 0 [some (.ref 56), some (xI x0), some (xI x1), none] [] h Post := by
    have a56 : 56 < n := lt83 (GI_n hG) rfl
    have s56 : S 56 = .inl (12, [0, 2, 2, 2, 2, 0, 0, 0, 0, 0, 0, 0, 0, 0, 0, 2, 2, 2, 0, 2, 2, 2, 0, 0, 2, 2, 2, 2, 2, 2, 0, 0, 2, 2, 2, 2, 2, 2, 2, 2, 2, 2]) := GI_s hG 56 rfl
    have a57 : 57 < n := lt83 (GI_n hG) rfl
    have s57 : S 57 = .inr (.int, 2886, 0) := GI_s hG 57 rfl
    refine mx_J.step (sn_212 0) (fun _ _ => rfl) ?_
    refine Ji2l (show mx_Sn _ _ 1 (mx_i2l 2) from sn_212 1) (by omega) ?_
    obtain ⟨z1, hc1, b1⟩ := ct_208_ (d := d + 0) (l := l) (D := D) (b0 := b0) (ad := ad) (Hb := Hb) (tau := tau) hx hG (show (-9223372036854775808) ≤ x0 ∧ x0 ≤ 9223372036854775807 by omega)
    refine Jcs (show mx_Sn _ _ 2 (mx_calls 208 1 5) from sn_212 2) hc1 rfl rfl rfl ?_
    have c16 : mx_J (tB l D b0 ad Hb tau) mt_212 (d + 2) 16 [some (.ref 56), some (xI x0), some (xI x1), none] [] h Post := by
      refine JcI (z := 1) (show mx_Sn _ _ 16 (mx_const (.int 1) 17) from sn_212 16) rfl ?_
      have b3 := GI_st hG 27
      have b4 : 0 ≤ Z 56 18 ∧ Z 56 18 ≤ 385 := hG.pr 56 18
      have b5 : 0 ≤ Z 57 27 ∧ Z 57 27 ≤ 384 := by have hq := GI_ex hG 57 27; replace hq : f57 (27 % 962) (Z 57 27) := hq; unfold f57 at hq; omega
      have b6 : (-2147483648) ≤ Z 57 27 ∧ Z 57 27 ≤ 2147483647 := hG.pr 57 27
      exact mx_J.ret (sn_212 17) (fun _ _ => rfl) (hP 1 (by omega))
    refine Jif_eq (show mx_Sn _ _ 5 (mx_if_eq 16 8) from sn_212 5) (by omega) (fun q7 => ?_) (fun q7 => ?_)
    · skip
      exact c16 
    · skip
      refine mx_J.step (sn_212 8) (fun _ _ => rfl) ?_
      refine Ji2l (show mx_Sn _ _ 9 (mx_i2l 10) from sn_212 9) (by omega) ?_
      obtain ⟨z8, hc8, b8⟩ := ct_208_ (d := d + 0) (l := l) (D := D) (b0 := b0) (ad := ad) (Hb := Hb) (tau := tau) hx hG (show (-9223372036854775808) ≤ x1 ∧ x1 ≤ 9223372036854775807 by omega)
      refine Jcs (show mx_Sn _ _ 10 (mx_calls 208 1 13) from sn_212 10) hc8 rfl rfl rfl ?_
      refine Jif_ne (show mx_Sn _ _ 13 (mx_if_ne 18 16) from sn_212 13) (by omega) (fun q9 => ?_) (fun q9 => ?_)
      · skip
        refine mx_J.step (sn_212 18) (fun _ _ => rfl) ?_
        refine mx_J.step (sn_212 19) (fun _ _ => rfl) ?_
        refine JgetR (g := 1) (b := 57) hx (show mx_Sn _ _ 20 (mx_getf 12 1 23) from sn_212 20) a56 s56 rfl rfl (hG.prr 56 1 rfl) ?_
        refine JcI (z := 27) (show mx_Sn _ _ 23 (mx_const (.int 27) 25) from sn_212 23) rfl ?_
        have b11 := GI_st hG 27
        have b12 : 0 ≤ Z 56 18 ∧ Z 56 18 ≤ 385 := hG.pr 56 18
        have b13 : 0 ≤ Z 57 27 ∧ Z 57 27 ≤ 384 := by have hq := GI_ex hG 57 27; replace hq : f57 (27 % 962) (Z 57 27) := hq; unfold f57 at hq; omega
        have b14 : (-2147483648) ≤ Z 57 27 ∧ Z 57 27 ≤ 2147483647 := hG.pr 57 27
        refine JialdI (z := Z 57 27) hx (show mx_Sn _ _ 25 (mx_iald 26) from sn_212 25) a57 s57 (by omega) rfl ?_
        refine mx_J.step (sn_212 26) (fun _ _ => rfl) ?_
        obtain ⟨z15, hc15, b15⟩ := ct_192_56 (d := d + 0) (l := l) (D := D) (b0 := b0) (ad := ad) (Hb := Hb) (tau := tau) hx hG (show 0 ≤ Z 57 27 ∧ Z 57 27 ≤ 384 by omega) (show (-2147483648) ≤ x0 ∧ x0 ≤ 2147483647 by omega)
        refine Jcv hx (show mx_Sn _ _ 27 (mx_callv 192 3 12 30) from sn_212 27) a56 s56 hc15 rfl rfl rfl ?_
        refine mx_J.step (ls2 := [some (.ref 56), some (xI x0), some (xI x1), some (xI z15)]) (sn_212 30) (fun _ _ => rfl) ?_
        refine mx_J.step (sn_212 31) (fun _ _ => rfl) ?_
        refine JcI (z := (-1)) (show mx_Sn _ _ 32 (mx_const (.int (-1)) 33) from sn_212 32) rfl ?_
        have c52 : mx_J (tB l D b0 ad Hb tau) mt_212 (d + 2) 52 [some (.ref 56), some (xI x0), some (xI x1), some (xI z15)] [] h Post := by
          refine JcI (z := 2) (show mx_Sn _ _ 52 (mx_const (.int 2) 53) from sn_212 52) rfl ?_
          exact mx_J.ret (sn_212 53) (fun _ _ => rfl) (hP 2 (by omega))
        refine Jicmp_eq (show mx_Sn _ _ 33 (mx_icmp_eq 52 36) from sn_212 33) (by omega) (by omega) (fun q17 => ?_) (fun q17 => ?_)
        · skip
          exact c52 
        · skip
          refine mx_J.step (sn_212 36) (fun _ _ => rfl) ?_
          refine mx_J.step (sn_212 37) (fun _ _ => rfl) ?_
          refine JgetR (g := 1) (b := 57) hx (show mx_Sn _ _ 38 (mx_getf 12 1 41) from sn_212 38) a56 s56 rfl rfl (hG.prr 56 1 rfl) ?_
          refine JcI (z := 27) (show mx_Sn _ _ 41 (mx_const (.int 27) 43) from sn_212 41) rfl ?_
          refine JialdI (z := Z 57 27) hx (show mx_Sn _ _ 43 (mx_iald 44) from sn_212 43) a57 s57 (by omega) rfl ?_
          refine mx_J.step (sn_212 44) (fun _ _ => rfl) ?_
          obtain ⟨z19, hc19, b19⟩ := ct_192_56 (d := d + 0) (l := l) (D := D) (b0 := b0) (ad := ad) (Hb := Hb) (tau := tau) hx hG (show 0 ≤ Z 57 27 ∧ Z 57 27 ≤ 384 by omega) (show (-2147483648) ≤ x1 ∧ x1 ≤ 2147483647 by omega)
          refine Jcv hx (show mx_Sn _ _ 45 (mx_callv 192 3 12 48) from sn_212 45) a56 s56 hc19 rfl rfl rfl ?_
          refine JcI (z := (-1)) (show mx_Sn _ _ 48 (mx_const (.int (-1)) 49) from sn_212 48) rfl ?_
          refine Jicmp_ne (show mx_Sn _ _ 49 (mx_icmp_ne 54 52) from sn_212 49) (by omega) (by omega) (fun q20 => ?_) (fun q20 => ?_)
          · skip
            refine mx_J.step (sn_212 54) (fun _ _ => rfl) ?_
            refine mx_J.step (sn_212 55) (fun _ _ => rfl) ?_
            have c88 : ∀ (k21_0 : Int), 0 ≤ k21_0 ∧ k21_0 ≤ 2 → mx_J (tB l D b0 ad Hb tau) mt_212 (d + 2) 88 [some (.ref 56), some (xI x0), some (xI x1), some (xI z15)] [xI k21_0] h Post := by
              intro k21_0 f21_0
              exact mx_J.ret (sn_212 88) (fun _ _ => rfl) (hP k21_0 (by omega))
            have c83 : mx_J (tB l D b0 ad Hb tau) mt_212 (d + 2) 83 [some (.ref 56), some (xI x0), some (xI x1), some (xI z15)] [] h Post := by
              refine JcI (z := 0) (show mx_Sn _ _ 83 (mx_const (.int 0) 84) from sn_212 83) rfl ?_
              refine mx_J.step (sn_212 84) (fun _ _ => rfl) ?_
              exact c88 0 (by omega)
            refine Jicmp_ne (show mx_Sn _ _ 56 (mx_icmp_ne 83 59) from sn_212 56) (by omega) (by omega) (fun q23 => ?_) (fun q23 => ?_)
            · skip
              exact c83 
            · skip
              refine mx_J.step (sn_212 59) (fun _ _ => rfl) ?_
              refine JcI (z := 17) (show mx_Sn _ _ 60 (mx_const (.int 17) 62) from sn_212 60) rfl ?_
              have c87 : mx_J (tB l D b0 ad Hb tau) mt_212 (d + 2) 87 [some (.ref 56), some (xI x0), some (xI x1), some (xI z15)] [] h Post := by
                refine JcI (z := 2) (show mx_Sn _ _ 87 (mx_const (.int 2) 88) from sn_212 87) rfl ?_
                exact c88 2 (by omega)
              refine Jicmp_ge (show mx_Sn _ _ 62 (mx_icmp_ge 87 65) from sn_212 62) (by omega) (by omega) (fun q25 => ?_) (fun q25 => ?_)
              · skip
                exact c87 
              · skip
                refine mx_J.step (sn_212 65) (fun _ _ => rfl) ?_
                refine mx_J.step (sn_212 66) (fun _ _ => rfl) ?_
                refine JgetR (g := 1) (b := 57) hx (show mx_Sn _ _ 67 (mx_getf 12 1 70) from sn_212 67) a56 s56 rfl rfl (hG.prr 56 1 rfl) ?_
                refine JcI (z := 27) (show mx_Sn _ _ 70 (mx_const (.int 27) 72) from sn_212 70) rfl ?_
                refine JialdI (z := Z 57 27) hx (show mx_Sn _ _ 72 (mx_iald 73) from sn_212 72) a57 s57 (by omega) rfl ?_
                refine mx_J.step (sn_212 73) (fun _ _ => rfl) ?_
                refine JcI (z := 1) (show mx_Sn _ _ 74 (mx_const (.int 1) 75) from sn_212 74) rfl ?_
                refine Jiadd (show mx_Sn _ _ 75 (mx_iadd 76) from sn_212 75) ?_
                have b28 : 0 ≤ Z 61 (18 * (Z 57 27) + (z15 + 1)) ∧ Z 61 (18 * (Z 57 27) + (z15 + 1)) ≤ 18 := hG.pr 61 (18 * (Z 57 27) + (z15 + 1))
                obtain ⟨z27, hc27, b27⟩ := ct_190_56 (d := d + 1) (l := l) (D := D) (b0 := b0) (ad := ad) (Hb := Hb) (tau := tau) hx hG (show 0 ≤ Z 57 27 ∧ Z 57 27 ≤ 384 by omega) (show 0 ≤ z15 + 1 ∧ z15 + 1 ≤ 17 by omega)
                refine Jcv hx (show mx_Sn _ _ 76 (mx_callv 190 3 12 79) from sn_212 76) a56 s56 hc27 rfl rfl rfl ?_
                refine mx_J.step (sn_212 79) (fun _ _ => rfl) ?_
                refine Jicmp_ne (show mx_Sn _ _ 80 (mx_icmp_ne 87 83) from sn_212 80) (by omega) (by omega) (fun q29 => ?_) (fun q29 => ?_)
                · skip
                  exact c87 
                · skip
                  exact c83 
          · skip
            exact c52 
      · skip
        exact c16 
theorem ct_212_56 {l : Launch} {D : va_G} {b0 : Nat} {ad : Nat → Nat} {Hb : Heap} {tau : Nat → Int64} {d n s : Nat} {S : Nat → xS} {Z : xZ} {h : mx_H} (hx : XH n s S Z h) (hG : GI n S Z)  {x0 x1 : Int} (p0 : (-2147483648) ≤ x0 ∧ x0 ≤ 2147483647) (p1 : (-2147483648) ≤ x1 ∧ x1 ≤ 2147483647) : ∃ z : Int, mx_Ca (tB l D b0 ad Hb tau) (d + 3) 212 [.ref 56, xI x0, xI x1] h (some (xI z), h) ∧ (0 ≤ z ∧ z ≤ 2 ∧ (z = 0 → (1 ≤ x0 ∧ x0 ≤ 18 ∧ 1 ≤ x1 ∧ x1 ≤ 18 ∧ hv Z (Z 57 27) x0 = 1 ∧ hv Z (Z 57 27) x1 = 1))) := by
  obtain ⟨r, hca, z, e, hp⟩ := Jmt (B := tB l D b0 ad Hb tau) (M := mt_212) (mi := 212) (as := [.ref 56, xI x0, xI x1]) (d := d + 2) (ls := [some (.ref 56), some (xI x0), some (xI x1), none]) rfl rfl rfl rfl rfl rfl (cw_212_56 (l := l) (D := D) (b0 := b0) (ad := ad) (Hb := Hb) (tau := tau) (d := d) (Post := fun r => ∃ z : Int, r = (some (xI z), h) ∧ (0 ≤ z ∧ z ≤ 2 ∧ (z = 0 → (1 ≤ x0 ∧ x0 ≤ 18 ∧ 1 ≤ x1 ∧ x1 ≤ 18 ∧ hv Z (Z 57 27) x0 = 1 ∧ hv Z (Z 57 27) x1 = 1)))) hx hG p0 p1 (fun z hz => ⟨z, rfl, hz⟩))
  subst e; exact ⟨z, hca, hp⟩
set_option maxRecDepth 100000 in
theorem cw_213_56 {l : Launch} {D : va_G} {b0 : Nat} {ad : Nat → Nat} {Hb : Heap} {tau : Nat → Int64} {d n s : Nat} {S : Nat → xS} {Z : xZ} {h : mx_H} {Post : mx_R → Prop} (hx : XH n s S Z h) (hG : GI n S Z)  {x0 x1 : Int} (p0 : 1 ≤ x0 ∧ x0 ≤ 18) (p1 : 1 ≤ x1 ∧ x1 ≤ 18) (k0 : hv Z (Z 57 27) x0 = 1) (k1 : hv Z (Z 57 27) x1 = 1) (hP : ∀ (Z' : xZ) (h' : mx_H), XH n s S Z' h' → GI n S Z' → fr' [(57, (-1)), (62, (-1))] Z Z' → (Z' 57 1 = Z 57 1 ∧ Z' 57 963 = Z 57 963 ∧ Z' 57 1925 = Z 57 1925) → Post (none, h')) : mx_J (tB l D b0 ad Hb tau) mt_213 (d + 2) 0 [some (.ref 56), some (xI x0), some (xI x1), none, none] [] h Post := by
    have a56 : 56 < n := lt83 (GI_n hG) rfl
    have s56 : S 56 = .inl (12, [0, 2, 2, 2, 2, 0, 0, 0, 0, 0, 0, 0, 0, 0, 0, 2, 2, 2, 0, 2, 2, 2, 0, 0, 2, 2, 2, 2, 2, 2, 0, 0, 2, 2, 2, 2, 2, 2, 2, 2, 2, 2]) := GI_s hG 56 rfl
    have a57 : 57 < n := lt83 (GI_n hG) rfl
    have s57 : S 57 = .inr (.int, 2886, 0) := GI_s hG 57 rfl
    have a62 : 62 < n := lt83 (GI_n hG) rfl
    have s62 : S 62 = .inr (.int, 20, 0) := GI_s hG 62 rfl
    refine mx_J.step (sn_213 0) (fun _ _ => rfl) ?_
    refine mx_J.step (sn_213 1) (fun _ _ => rfl) ?_
    refine JgetR (g := 1) (b := 57) hx (show mx_Sn _ _ 2 (mx_getf 12 1 5) from sn_213 2) a56 s56 rfl rfl (hG.prr 56 1 rfl) ?_
    refine JcI (z := 27) (show mx_Sn _ _ 5 (mx_const (.int 27) 7) from sn_213 5) rfl ?_
    have b2 := GI_st hG 27
    have b3 : 0 ≤ Z 56 18 ∧ Z 56 18 ≤ 385 := hG.pr 56 18
    have b4 : 0 ≤ Z 57 27 ∧ Z 57 27 ≤ 384 := by have hq := GI_ex hG 57 27; replace hq : f57 (27 % 962) (Z 57 27) := hq; unfold f57 at hq; omega
    have b5 : (-2147483648) ≤ Z 57 27 ∧ Z 57 27 ≤ 2147483647 := hG.pr 57 27
    refine JialdI (z := Z 57 27) hx (show mx_Sn _ _ 7 (mx_iald 8) from sn_213 7) a57 s57 (by omega) rfl ?_
    refine mx_J.step (sn_213 8) (fun _ _ => rfl) ?_
    obtain ⟨z6, hc6, b6⟩ := ct_192_56 (d := d + 0) (l := l) (D := D) (b0 := b0) (ad := ad) (Hb := Hb) (tau := tau) hx hG (show 0 ≤ Z 57 27 ∧ Z 57 27 ≤ 384 by omega) (show (-2147483648) ≤ x0 ∧ x0 ≤ 2147483647 by omega)
    refine Jcv hx (show mx_Sn _ _ 9 (mx_callv 192 3 12 12) from sn_213 9) a56 s56 hc6 rfl rfl rfl ?_
    refine mx_J.step (ls2 := [some (.ref 56), some (xI x0), some (xI x1), some (xI z6), none]) (sn_213 12) (fun _ _ => rfl) ?_
    refine mx_J.step (sn_213 13) (fun _ _ => rfl) ?_
    refine mx_J.step (sn_213 14) (fun _ _ => rfl) ?_
    have c36 : ∀ (k7_0 : Int), (-1) ≤ k7_0 ∧ k7_0 ≤ 18 → 0 ≤ k7_0 → mx_J (tB l D b0 ad Hb tau) mt_213 (d + 2) 36 [some (.ref 56), some (xI x0), some (xI x1), some (xI z6), none] [xI k7_0] h Post := by
      intro k7_0 f7_0 f7_1
      refine mx_J.step (ls2 := [some (.ref 56), some (xI x0), some (xI x1), some (xI z6), some (xI k7_0)]) (sn_213 36) (fun _ _ => rfl) ?_
      refine mx_J.step (sn_213 38) (fun _ _ => rfl) ?_
      refine mx_J.step (sn_213 39) (fun _ _ => rfl) ?_
      refine JgetR (g := 1) (b := 57) hx (show mx_Sn _ _ 40 (mx_getf 12 1 43) from sn_213 40) a56 s56 rfl rfl (hG.prr 56 1 rfl) ?_
      refine JcI (z := 27) (show mx_Sn _ _ 43 (mx_const (.int 27) 45) from sn_213 43) rfl ?_
      refine JialdI (z := Z 57 27) hx (show mx_Sn _ _ 45 (mx_iald 46) from sn_213 45) a57 s57 (by omega) rfl ?_
      obtain ⟨Z9, h9, hc9, hx9, hG9, hf9⟩ := ct_187_56 (d := d + 0) (l := l) (D := D) (b0 := b0) (ad := ad) (Hb := Hb) (tau := tau) hx hG (show 0 ≤ Z 57 27 ∧ Z 57 27 ≤ 384 by omega)
      refine Jcv0 hx (show mx_Sn _ _ 46 (mx_callv 187 2 12 49) from sn_213 46) a56 s56 hc9 rfl rfl rfl ?_
      refine mx_J.step (sn_213 49) (fun _ _ => rfl) ?_
      refine JgetR (g := 16) (b := 62) hx9 (show mx_Sn _ _ 50 (mx_getf 12 16 53) from sn_213 50) a56 s56 rfl rfl (hG9.prr 56 16 rfl) ?_
      refine mx_J.step (sn_213 53) (fun _ _ => rfl) ?_
      refine mx_J.step (sn_213 54) (fun _ _ => rfl) ?_
      refine mx_J.step (sn_213 55) (fun _ _ => rfl) ?_
      refine Jiadd (show mx_Sn _ _ 56 (mx_iadd 57) from sn_213 56) ?_
      refine JiastI hx9 (show mx_Sn _ _ 57 (mx_iast 1 58) from sn_213 57) a62 s62 rfl (by omega) (fun Z11 h11 hx11 hE11 => ?_)
      have hG11 := GI_up hG9 hE11 (show (-2147483648) ≤ x0 + x1 ∧ x0 + x1 ≤ 2147483647 by omega) trivial rfl
      refine mx_J.step (sn_213 58) (fun _ _ => rfl) ?_
      refine JgetR (g := 16) (b := 62) hx11 (show mx_Sn _ _ 59 (mx_getf 12 16 62) from sn_213 59) a56 s56 rfl rfl (hG11.prr 56 16 rfl) ?_
      refine mx_J.step (sn_213 62) (fun _ _ => rfl) ?_
      refine JcI (z := 0) (show mx_Sn _ _ 64 (mx_const (.int 0) 65) from sn_213 64) rfl ?_
      refine JiastI hx11 (show mx_Sn _ _ 65 (mx_iast 1 66) from sn_213 65) a62 s62 rfl (by omega) (fun Z13 h13 hx13 hE13 => ?_)
      have hG13 := GI_up hG11 hE13 (show (-2147483648) ≤ 0 ∧ 0 ≤ 2147483647 by omega) trivial rfl
      refine mx_J.step (sn_213 66) (fun _ _ => rfl) ?_
      refine JgetR (g := 1) (b := 57) hx13 (show mx_Sn _ _ 67 (mx_getf 12 1 70) from sn_213 67) a56 s56 rfl rfl (hG13.prr 56 1 rfl) ?_
      refine JcI (z := 27) (show mx_Sn _ _ 70 (mx_const (.int 27) 72) from sn_213 70) rfl ?_
      refine mx_J.step (sn_213 72) (fun _ _ => rfl) ?_
      have eq16 : Z13 56 18 = Z 56 18 := ((up_nk hE13 rfl).trans ((up_nk hE11 rfl).trans (hf9 56 18 rfl)))
      obtain ⟨z15, Z15, h15, hc15, hx15, hG15, hf15, b15⟩ := ct_188_56 (d := d + 0) (l := l) (D := D) (b0 := b0) (ad := ad) (Hb := Hb) (tau := tau) hx13 hG13 
      try rw [eq16] at b15
      refine Jcv hx13 (show mx_Sn _ _ 73 (mx_callv 188 1 12 76) from sn_213 73) a56 s56 hc15 rfl rfl rfl ?_
      refine JiastI hx15 (show mx_Sn _ _ 76 (mx_iast 1 77) from sn_213 76) a57 s57 rfl (by omega) (fun Z17 h17 hx17 hE17 => ?_)
      have eq18 : Z15 56 18 = Z 56 18 := ((hf15 56 18 rfl).trans ((up_nk hE13 rfl).trans ((up_nk hE11 rfl).trans (hf9 56 18 rfl))))
      have hG17 := GI_up57 hG15 hE17 (show (-2147483648) ≤ z15 ∧ z15 ≤ 2147483647 by omega) (show f57 ((27) % 962) (z15) by first | assumption | (unfold f57; omega) | (unfold f57 at *; omega)) (by omega) (by omega)
      have eq19 : Z17 57 1 = Z 57 1 := ((up_ni hE17 (by decide)).trans ((hf15 57 1 rfl).trans ((up_nk hE13 rfl).trans ((up_nk hE11 rfl).trans (hf9 57 1 rfl)))))
      have b20 : 0 ≤ Z 57 1 ∧ Z 57 1 ≤ 18 := by have hq := GI_ex hG 57 1; replace hq : f57 (1 % 962) (Z 57 1) := hq; unfold f57 at hq; omega
      have b21 : (-2147483648) ≤ Z 57 1 ∧ Z 57 1 ≤ 2147483647 := hG.pr 57 1
      have eq22 : Z17 57 963 = Z 57 963 := ((up_ni hE17 (by decide)).trans ((hf15 57 963 rfl).trans ((up_nk hE13 rfl).trans ((up_nk hE11 rfl).trans (hf9 57 963 rfl)))))
      have b23 : 0 ≤ Z 57 963 ∧ Z 57 963 ≤ 18 := by have hq := GI_ex hG 57 963; replace hq : f57 (963 % 962) (Z 57 963) := hq; unfold f57 at hq; omega
      have b24 : (-2147483648) ≤ Z 57 963 ∧ Z 57 963 ≤ 2147483647 := hG.pr 57 963
      have eq25 : Z17 57 1925 = Z 57 1925 := ((up_ni hE17 (by decide)).trans ((hf15 57 1925 rfl).trans ((up_nk hE13 rfl).trans ((up_nk hE11 rfl).trans (hf9 57 1925 rfl)))))
      have b26 : 0 ≤ Z 57 1925 ∧ Z 57 1925 ≤ 18 := by have hq := GI_ex hG 57 1925; replace hq : f57 (1925 % 962) (Z 57 1925) := hq; unfold f57 at hq; omega
      have b27 : (-2147483648) ≤ Z 57 1925 ∧ Z 57 1925 ≤ 2147483647 := hG.pr 57 1925
      have eq28 : Z17 57 27 = z15 := (up_at hE17)
      have eq29 : hv Z17 (Z17 57 27) x0 = hv Z z15 x0 := by rw [(show Z17 57 27 = z15 from (up_at hE17))]; exact ((hv_c (fun i => up_nk hE17 rfl)).trans ((hv_c (fun i => hf15 61 i rfl)).trans ((hv_c (fun i => up_nk hE13 rfl)).trans ((hv_c (fun i => up_nk hE11 rfl)).trans (hv_c (fun i => hf9 61 i rfl))))))
      have eq30 : hv Z17 z15 x0 = hv Z z15 x0 := ((hv_c (fun i => up_nk hE17 rfl)).trans ((hv_c (fun i => hf15 61 i rfl)).trans ((hv_c (fun i => up_nk hE13 rfl)).trans ((hv_c (fun i => up_nk hE11 rfl)).trans (hv_c (fun i => hf9 61 i rfl))))))
      have eq31 : hv Z17 (Z17 57 27) x1 = hv Z z15 x1 := by rw [(show Z17 57 27 = z15 from (up_at hE17))]; exact ((hv_c (fun i => up_nk hE17 rfl)).trans ((hv_c (fun i => hf15 61 i rfl)).trans ((hv_c (fun i => up_nk hE13 rfl)).trans ((hv_c (fun i => up_nk hE11 rfl)).trans (hv_c (fun i => hf9 61 i rfl))))))
      have eq32 : hv Z17 z15 x1 = hv Z z15 x1 := ((hv_c (fun i => up_nk hE17 rfl)).trans ((hv_c (fun i => hf15 61 i rfl)).trans ((hv_c (fun i => up_nk hE13 rfl)).trans ((hv_c (fun i => up_nk hE11 rfl)).trans (hv_c (fun i => hf9 61 i rfl))))))
      have eq33 : Z17 57 1 = Z 57 1 := ((up_ni hE17 (by decide)).trans ((hf15 57 1 rfl).trans ((up_nk hE13 rfl).trans ((up_nk hE11 rfl).trans (hf9 57 1 rfl)))))
      have eq34 : Z17 57 963 = Z 57 963 := ((up_ni hE17 (by decide)).trans ((hf15 57 963 rfl).trans ((up_nk hE13 rfl).trans ((up_nk hE11 rfl).trans (hf9 57 963 rfl)))))
      have eq35 : Z17 57 1925 = Z 57 1925 := ((up_ni hE17 (by decide)).trans ((hf15 57 1925 rfl).trans ((up_nk hE13 rfl).trans ((up_nk hE11 rfl).trans (hf9 57 1925 rfl)))))
      exact mx_J.ret (sn_213 77) (fun _ _ => rfl) (hP Z17 h17 hx17 hG17 (fr_tr (M := [(57, (-1)), (62, (-1))]) (fr_tr (M := [(57, (-1)), (62, (-1))]) (fr_tr (M := [(57, (-1)), (62, (-1))]) (fr_tr (M := [(57, (-1)), (62, (-1))]) (fr_tr (M := [(57, (-1)), (62, (-1))]) fr_rf (hf9) (M1 := []) rfl rfl) (fr_ua hE11) rfl rfl) (fr_ua hE13) rfl rfl) (hf15) rfl rfl) (fr_ua hE17) rfl rfl) (by omega))
    refine Jicmp_ne (show mx_Sn _ _ 15 (mx_icmp_ne 24 18) from sn_213 15) (by omega) (by omega) (fun q36 => ?_) (fun q36 => ?_)
    · skip
      refine mx_J.step (sn_213 24) (fun _ _ => rfl) ?_
      refine mx_J.step (sn_213 25) (fun _ _ => rfl) ?_
      refine JgetR (g := 1) (b := 57) hx (show mx_Sn _ _ 26 (mx_getf 12 1 29) from sn_213 26) a56 s56 rfl rfl (hG.prr 56 1 rfl) ?_
      refine JcI (z := 27) (show mx_Sn _ _ 29 (mx_const (.int 27) 31) from sn_213 29) rfl ?_
      refine JialdI (z := Z 57 27) hx (show mx_Sn _ _ 31 (mx_iald 32) from sn_213 31) a57 s57 (by omega) rfl ?_
      refine mx_J.step (sn_213 32) (fun _ _ => rfl) ?_
      obtain ⟨z38, hc38, b38⟩ := ct_192_56 (d := d + 0) (l := l) (D := D) (b0 := b0) (ad := ad) (Hb := Hb) (tau := tau) hx hG (show 0 ≤ Z 57 27 ∧ Z 57 27 ≤ 384 by omega) (show (-2147483648) ≤ x1 ∧ x1 ≤ 2147483647 by omega)
      refine Jcv hx (show mx_Sn _ _ 33 (mx_callv 192 3 12 36) from sn_213 33) a56 s56 hc38 rfl rfl rfl ?_
      exact c36 z38 (by omega) (by omega)
    · skip
      refine mx_J.step (sn_213 18) (fun _ _ => rfl) ?_
      refine JcI (z := 1) (show mx_Sn _ _ 19 (mx_const (.int 1) 20) from sn_213 19) rfl ?_
      refine Jiadd (show mx_Sn _ _ 20 (mx_iadd 21) from sn_213 20) ?_
      refine mx_J.step (sn_213 21) (fun _ _ => rfl) ?_
      exact c36 (z6 + 1) (by omega) (by omega)
theorem ct_213_56 {l : Launch} {D : va_G} {b0 : Nat} {ad : Nat → Nat} {Hb : Heap} {tau : Nat → Int64} {d n s : Nat} {S : Nat → xS} {Z : xZ} {h : mx_H} (hx : XH n s S Z h) (hG : GI n S Z)  {x0 x1 : Int} (p0 : 1 ≤ x0 ∧ x0 ≤ 18) (p1 : 1 ≤ x1 ∧ x1 ≤ 18) (k0 : hv Z (Z 57 27) x0 = 1) (k1 : hv Z (Z 57 27) x1 = 1) : ∃ (Z' : xZ) (h' : mx_H), mx_Ca (tB l D b0 ad Hb tau) (d + 3) 213 [.ref 56, xI x0, xI x1] h (none, h') ∧ XH n s S Z' h' ∧ GI n S Z' ∧ fr' [(57, (-1)), (62, (-1))] Z Z' ∧ ((Z' 57 1 = Z 57 1 ∧ Z' 57 963 = Z 57 963 ∧ Z' 57 1925 = Z 57 1925)) := by
  obtain ⟨r, hca, Z', h', e, q⟩ := Jmt (B := tB l D b0 ad Hb tau) (M := mt_213) (mi := 213) (as := [.ref 56, xI x0, xI x1]) (d := d + 2) (ls := [some (.ref 56), some (xI x0), some (xI x1), none, none]) rfl rfl rfl rfl rfl rfl (cw_213_56 (l := l) (D := D) (b0 := b0) (ad := ad) (Hb := Hb) (tau := tau) (d := d) (Post := fun r => ∃ (Z' : xZ) (h' : mx_H), r = (none, h') ∧ XH n s S Z' h' ∧ GI n S Z' ∧ fr' [(57, (-1)), (62, (-1))] Z Z' ∧ ((Z' 57 1 = Z 57 1 ∧ Z' 57 963 = Z 57 963 ∧ Z' 57 1925 = Z 57 1925))) hx hG p0 p1 k0 k1 (fun Z' h' q1 q2 q3 q4 => ⟨Z', h', rfl, q1, q2, q3, q4⟩))
  subst e; exact ⟨Z', h', hca, q⟩
set_option maxRecDepth 100000 in
theorem cw_214_56 {l : Launch} {D : va_G} {b0 : Nat} {ad : Nat → Nat} {Hb : Heap} {tau : Nat → Int64} {d n s : Nat} {S : Nat → xS} {Z : xZ} {h : mx_H} {Post : mx_R → Prop} (hx : XH n s S Z h) (hG : GI n S Z)  {x0 x1 : Int} (p0 : (-2147483648) ≤ x0 ∧ x0 ≤ 2147483647) (p1 : (-2147483648) ≤ x1 ∧ x1 ≤ 2147483647) (hP : ∀ (z : Int) (Z' : xZ) (h' : mx_H), XH n s S Z' h' → GI n S Z' → fr' [(56, 0), (57, (-1)), (62, (-1)), (66, (-1))] Z Z' → (-12) ≤ z ∧ z ≤ 18 ∧ (Z' 57 1 = Z 57 1 ∧ Z' 57 963 = Z 57 963 ∧ Z' 57 1925 = Z 57 1925) → Post (some (xI z), h')) : mx_J (tB l D b0 ad Hb tau) mt_214 (d + 3) 0 [some (.ref 56), some (xI x0), some (xI x1), none] [] h Post := by
    have a56 : 56 < n := lt83 (GI_n hG) rfl
    have s56 : S 56 = .inl (12, [0, 2, 2, 2, 2, 0, 0, 0, 0, 0, 0, 0, 0, 0, 0, 2, 2, 2, 0, 2, 2, 2, 0, 0, 2, 2, 2, 2, 2, 2, 0, 0, 2, 2, 2, 2, 2, 2, 2, 2, 2, 2]) := GI_s hG 56 rfl
    have a57 : 57 < n := lt83 (GI_n hG) rfl
    have s57 : S 57 = .inr (.int, 2886, 0) := GI_s hG 57 rfl
    refine mx_J.step (sn_214 0) (fun _ _ => rfl) ?_
    refine JcI (z := 0) (show mx_Sn _ _ 1 (mx_const (.int 0) 2) from sn_214 1) rfl ?_
    refine JputI (g := 0) hx (show mx_Sn _ _ 2 (mx_putf 1 12 0 (.int) 5) from sn_214 2) a56 s56 rfl rfl rfl rfl (fun Z1 h1 hx1 hE1 => ?_)
    have hG1 := GI_up hG hE1 (show (-2147483648) ≤ 0 ∧ 0 ≤ 2147483647 by omega) trivial rfl
    refine mx_J.step (sn_214 5) (fun _ _ => rfl) ?_
    refine mx_J.step (sn_214 6) (fun _ _ => rfl) ?_
    refine mx_J.step (sn_214 7) (fun _ _ => rfl) ?_
    have eq3 : Z1 57 27 = Z 57 27 := (up_nk hE1 rfl)
    have b4 := GI_st hG 27
    have b5 : 0 ≤ Z 56 18 ∧ Z 56 18 ≤ 385 := hG.pr 56 18
    have b6 : 0 ≤ Z 57 27 ∧ Z 57 27 ≤ 384 := by have hq := GI_ex hG 57 27; replace hq : f57 (27 % 962) (Z 57 27) := hq; unfold f57 at hq; omega
    have b7 : (-2147483648) ≤ Z 57 27 ∧ Z 57 27 ≤ 2147483647 := hG.pr 57 27
    have eq8 : hv Z1 (Z1 57 27) x0 = hv Z (Z 57 27) x0 := by rw [(show Z1 57 27 = Z 57 27 from (up_nk hE1 rfl))]; exact (hv_c (fun i => up_nk hE1 rfl))
    have eq9 : hv Z1 (Z 57 27) x0 = hv Z (Z 57 27) x0 := (hv_c (fun i => up_nk hE1 rfl))
    have eq10 : hv Z1 (Z1 57 27) x1 = hv Z (Z 57 27) x1 := by rw [(show Z1 57 27 = Z 57 27 from (up_nk hE1 rfl))]; exact (hv_c (fun i => up_nk hE1 rfl))
    have eq11 : hv Z1 (Z 57 27) x1 = hv Z (Z 57 27) x1 := (hv_c (fun i => up_nk hE1 rfl))
    obtain ⟨z2, hc2, b2⟩ := ct_212_56 (d := d + 0) (l := l) (D := D) (b0 := b0) (ad := ad) (Hb := Hb) (tau := tau) hx1 hG1 (show (-2147483648) ≤ x0 ∧ x0 ≤ 2147483647 by omega) (show (-2147483648) ≤ x1 ∧ x1 ≤ 2147483647 by omega)
    try rw [eq3] at b2
    refine Jcv hx1 (show mx_Sn _ _ 8 (mx_callv 212 3 12 11) from sn_214 8) a56 s56 hc2 rfl rfl rfl ?_
    refine mx_J.step (ls2 := [some (.ref 56), some (xI x0), some (xI x1), some (xI z2)]) (sn_214 11) (fun _ _ => rfl) ?_
    refine mx_J.step (sn_214 12) (fun _ _ => rfl) ?_
    refine Jif_eq (show mx_Sn _ _ 13 (mx_if_eq 21 16) from sn_214 13) (by omega) (fun q12 => ?_) (fun q12 => ?_)
    · skip
      refine mx_J.step (sn_214 21) (fun _ _ => rfl) ?_
      have eq14 : Z1 57 27 = Z 57 27 := (up_nk hE1 rfl)
      obtain ⟨Z13, h13, hc13, hx13, hG13, hf13, b13⟩ := ct_202_56 (d := d + 2) (l := l) (D := D) (b0 := b0) (ad := ad) (Hb := Hb) (tau := tau) hx1 hG1 
      try rw [eq14] at b13
      have b15 : (-2147483648) ≤ Z13 66 0 ∧ Z13 66 0 ≤ 2147483647 := hG13.pr 66 0
      have b16 : (((0 : Int) = 0 → 0 ≤ (Z13 66 0) ∧ (Z13 66 0) ≤ 384) ∧ ((0 : Int) = 1 → 0 ≤ (Z13 66 0) ∧ (Z13 66 0) ≤ 9)) := GI_ex hG13 66 0
      refine Jcv0 hx1 (show mx_Sn _ _ 22 (mx_callv 202 1 12 25) from sn_214 22) a56 s56 hc13 rfl rfl rfl ?_
      refine mx_J.step (sn_214 25) (fun _ _ => rfl) ?_
      refine mx_J.step (sn_214 26) (fun _ _ => rfl) ?_
      refine mx_J.step (sn_214 27) (fun _ _ => rfl) ?_
      have eq18 : Z13 57 27 = Z 57 27 := ((hf13 57 27 rfl).trans (up_nk hE1 rfl))
      have eq19 : hv Z13 (Z13 57 27) x0 = hv Z (Z 57 27) x0 := by rw [(show Z13 57 27 = Z 57 27 from ((hf13 57 27 rfl).trans (up_nk hE1 rfl)))]; exact ((hv_c (fun i => hf13 61 i rfl)).trans (hv_c (fun i => up_nk hE1 rfl)))
      have eq20 : hv Z13 (Z 57 27) x0 = hv Z (Z 57 27) x0 := ((hv_c (fun i => hf13 61 i rfl)).trans (hv_c (fun i => up_nk hE1 rfl)))
      have eq21 : hv Z13 (Z13 57 27) x1 = hv Z (Z 57 27) x1 := by rw [(show Z13 57 27 = Z 57 27 from ((hf13 57 27 rfl).trans (up_nk hE1 rfl)))]; exact ((hv_c (fun i => hf13 61 i rfl)).trans (hv_c (fun i => up_nk hE1 rfl)))
      have eq22 : hv Z13 (Z 57 27) x1 = hv Z (Z 57 27) x1 := ((hv_c (fun i => hf13 61 i rfl)).trans (hv_c (fun i => up_nk hE1 rfl)))
      have eq23 : Z13 57 1 = Z 57 1 := ((hf13 57 1 rfl).trans (up_nk hE1 rfl))
      have b24 : 0 ≤ Z 57 1 ∧ Z 57 1 ≤ 18 := by have hq := GI_ex hG 57 1; replace hq : f57 (1 % 962) (Z 57 1) := hq; unfold f57 at hq; omega
      have b25 : (-2147483648) ≤ Z 57 1 ∧ Z 57 1 ≤ 2147483647 := hG.pr 57 1
      have eq26 : Z13 57 963 = Z 57 963 := ((hf13 57 963 rfl).trans (up_nk hE1 rfl))
      have b27 : 0 ≤ Z 57 963 ∧ Z 57 963 ≤ 18 := by have hq := GI_ex hG 57 963; replace hq : f57 (963 % 962) (Z 57 963) := hq; unfold f57 at hq; omega
      have b28 : (-2147483648) ≤ Z 57 963 ∧ Z 57 963 ≤ 2147483647 := hG.pr 57 963
      have eq29 : Z13 57 1925 = Z 57 1925 := ((hf13 57 1925 rfl).trans (up_nk hE1 rfl))
      have b30 : 0 ≤ Z 57 1925 ∧ Z 57 1925 ≤ 18 := by have hq := GI_ex hG 57 1925; replace hq : f57 (1925 % 962) (Z 57 1925) := hq; unfold f57 at hq; omega
      have b31 : (-2147483648) ≤ Z 57 1925 ∧ Z 57 1925 ≤ 2147483647 := hG.pr 57 1925
      obtain ⟨Z17, h17, hc17, hx17, hG17, hf17, b17⟩ := ct_213_56 (d := d + 0) (l := l) (D := D) (b0 := b0) (ad := ad) (Hb := Hb) (tau := tau) hx13 hG13 (show 1 ≤ x0 ∧ x0 ≤ 18 by omega) (show 1 ≤ x1 ∧ x1 ≤ 18 by omega) (show hv Z13 (Z13 57 27) x0 = 1 by first | omega | (simp only [eq18, eq23, eq26, eq29]; omega)) (show hv Z13 (Z13 57 27) x1 = 1 by first | omega | (simp only [eq18, eq23, eq26, eq29]; omega))
      try rw [eq18] at b17
      try rw [eq23] at b17
      try rw [eq26] at b17
      try rw [eq29] at b17
      have b32 : 0 ≤ Z17 57 1 ∧ Z17 57 1 ≤ 18 := by have hq := GI_ex hG17 57 1; replace hq : f57 (1 % 962) (Z17 57 1) := hq; unfold f57 at hq; omega
      have b33 : (-2147483648) ≤ Z17 57 1 ∧ Z17 57 1 ≤ 2147483647 := hG17.pr 57 1
      have b34 : 0 ≤ Z17 57 963 ∧ Z17 57 963 ≤ 18 := by have hq := GI_ex hG17 57 963; replace hq : f57 (963 % 962) (Z17 57 963) := hq; unfold f57 at hq; omega
      have b35 : (-2147483648) ≤ Z17 57 963 ∧ Z17 57 963 ≤ 2147483647 := hG17.pr 57 963
      have b36 : 0 ≤ Z17 57 1925 ∧ Z17 57 1925 ≤ 18 := by have hq := GI_ex hG17 57 1925; replace hq : f57 (1925 % 962) (Z17 57 1925) := hq; unfold f57 at hq; omega
      have b37 : (-2147483648) ≤ Z17 57 1925 ∧ Z17 57 1925 ≤ 2147483647 := hG17.pr 57 1925
      refine Jcv0 hx13 (show mx_Sn _ _ 28 (mx_callv 213 3 12 31) from sn_214 28) a56 s56 hc17 rfl rfl rfl ?_
      refine mx_J.step (sn_214 31) (fun _ _ => rfl) ?_
      have eq39 : Z17 66 0 = Z13 66 0 := (hf17 66 0 rfl)
      have eq40 : Z17 56 18 = Z 56 18 := ((hf17 56 18 rfl).trans ((hf13 56 18 rfl).trans (up_ni hE1 (by decide))))
      obtain ⟨Z38, h38, hc38, hx38, hG38, hf38, b38⟩ := ct_204_56 (d := d + 2) (l := l) (D := D) (b0 := b0) (ad := ad) (Hb := Hb) (tau := tau) hx17 hG17  (show Z17 66 0 < Z17 56 18 by first | omega | (simp only [eq39, eq40]; omega))
      try rw [eq39] at b38
      try rw [eq40] at b38
      have b41 : 0 ≤ Z38 57 1 ∧ Z38 57 1 ≤ 18 := by have hq := GI_ex hG38 57 1; replace hq : f57 (1 % 962) (Z38 57 1) := hq; unfold f57 at hq; omega
      have b42 : (-2147483648) ≤ Z38 57 1 ∧ Z38 57 1 ≤ 2147483647 := hG38.pr 57 1
      have b43 : 0 ≤ Z38 57 963 ∧ Z38 57 963 ≤ 18 := by have hq := GI_ex hG38 57 963; replace hq : f57 (963 % 962) (Z38 57 963) := hq; unfold f57 at hq; omega
      have b44 : (-2147483648) ≤ Z38 57 963 ∧ Z38 57 963 ≤ 2147483647 := hG38.pr 57 963
      have b45 : 0 ≤ Z38 57 1925 ∧ Z38 57 1925 ≤ 18 := by have hq := GI_ex hG38 57 1925; replace hq : f57 (1925 % 962) (Z38 57 1925) := hq; unfold f57 at hq; omega
      have b46 : (-2147483648) ≤ Z38 57 1925 ∧ Z38 57 1925 ≤ 2147483647 := hG38.pr 57 1925
      refine Jcv0 hx17 (show mx_Sn _ _ 32 (mx_callv 204 1 12 35) from sn_214 32) a56 s56 hc38 rfl rfl rfl ?_
      refine mx_J.step (sn_214 35) (fun _ _ => rfl) ?_
      refine mx_J.step (sn_214 36) (fun _ _ => rfl) ?_
      refine JgetR (g := 1) (b := 57) hx38 (show mx_Sn _ _ 37 (mx_getf 12 1 40) from sn_214 37) a56 s56 rfl rfl (hG38.prr 56 1 rfl) ?_
      refine JcI (z := 27) (show mx_Sn _ _ 40 (mx_const (.int 27) 42) from sn_214 40) rfl ?_
      have b48 := GI_st hG38 27
      have eq49 : Z38 56 18 = Z 56 18 := ((hf38 56 18 rfl).trans ((hf17 56 18 rfl).trans ((hf13 56 18 rfl).trans (up_ni hE1 (by decide)))))
      have b50 : 0 ≤ Z38 57 27 ∧ Z38 57 27 ≤ 384 := by have hq := GI_ex hG38 57 27; replace hq : f57 (27 % 962) (Z38 57 27) := hq; unfold f57 at hq; omega
      have b51 : (-2147483648) ≤ Z38 57 27 ∧ Z38 57 27 ≤ 2147483647 := hG38.pr 57 27
      refine JialdI (z := Z38 57 27) hx38 (show mx_Sn _ _ 42 (mx_iald 43) from sn_214 42) a57 s57 (by omega) rfl ?_
      have eq53 : mn Z38 (Z38 57 27) = mn Z (Z38 57 27) := ((mn_c (fun i => hf38 61 i rfl)).trans ((mn_c (fun i => hf17 61 i rfl)).trans ((mn_c (fun i => hf13 61 i rfl)).trans (mn_c (fun i => up_nk hE1 rfl)))))
      obtain ⟨z52, hc52, b52⟩ := ct_191_56 (d := d + 1) (l := l) (D := D) (b0 := b0) (ad := ad) (Hb := Hb) (tau := tau) hx38 hG38 (show 0 ≤ Z38 57 27 ∧ Z38 57 27 ≤ 384 by omega)
      refine Jcv hx38 (show mx_Sn _ _ 43 (mx_callv 191 2 12 46) from sn_214 43) a56 s56 hc52 rfl rfl rfl ?_
      exact mx_J.ret (sn_214 46) (fun _ _ => rfl) (hP z52 Z38 h38 hx38 hG38 (fr_tr (M := [(56, 0), (57, (-1)), (62, (-1)), (66, (-1))]) (fr_tr (M := [(56, 0), (57, (-1)), (62, (-1)), (66, (-1))]) (fr_tr (M := [(56, 0), (57, (-1)), (62, (-1)), (66, (-1))]) (fr_tr (M := [(56, 0), (57, (-1)), (62, (-1)), (66, (-1))]) fr_rf (fr_up hE1) (M1 := []) rfl rfl) (hf13) rfl rfl) (hf17) rfl rfl) (hf38) rfl rfl) (by omega))
    · skip
      refine JcI (z := (-10)) (show mx_Sn _ _ 16 (mx_const (.int (-10)) 18) from sn_214 16) rfl ?_
      refine mx_J.step (sn_214 18) (fun _ _ => rfl) ?_
      refine Jisub (show mx_Sn _ _ 19 (mx_isub 20) from sn_214 19) ?_
      have eq54 : Z1 57 1 = Z 57 1 := (up_nk hE1 rfl)
      have b55 : 0 ≤ Z 57 1 ∧ Z 57 1 ≤ 18 := by have hq := GI_ex hG 57 1; replace hq : f57 (1 % 962) (Z 57 1) := hq; unfold f57 at hq; omega
      have b56 : (-2147483648) ≤ Z 57 1 ∧ Z 57 1 ≤ 2147483647 := hG.pr 57 1
      have eq57 : Z1 57 963 = Z 57 963 := (up_nk hE1 rfl)
      have b58 : 0 ≤ Z 57 963 ∧ Z 57 963 ≤ 18 := by have hq := GI_ex hG 57 963; replace hq : f57 (963 % 962) (Z 57 963) := hq; unfold f57 at hq; omega
      have b59 : (-2147483648) ≤ Z 57 963 ∧ Z 57 963 ≤ 2147483647 := hG.pr 57 963
      have eq60 : Z1 57 1925 = Z 57 1925 := (up_nk hE1 rfl)
      have b61 : 0 ≤ Z 57 1925 ∧ Z 57 1925 ≤ 18 := by have hq := GI_ex hG 57 1925; replace hq : f57 (1925 % 962) (Z 57 1925) := hq; unfold f57 at hq; omega
      have b62 : (-2147483648) ≤ Z 57 1925 ∧ Z 57 1925 ≤ 2147483647 := hG.pr 57 1925
      have eq63 : Z1 57 1 = Z 57 1 := (up_nk hE1 rfl)
      have eq64 : Z1 57 963 = Z 57 963 := (up_nk hE1 rfl)
      have eq65 : Z1 57 1925 = Z 57 1925 := (up_nk hE1 rfl)
      exact mx_J.ret (sn_214 20) (fun _ _ => rfl) (hP ((-10) - z2) Z1 h1 hx1 hG1 (fr_tr (M := [(56, 0), (57, (-1)), (62, (-1)), (66, (-1))]) fr_rf (fr_up hE1) (M1 := []) rfl rfl) (by omega))
theorem ct_214_56 {l : Launch} {D : va_G} {b0 : Nat} {ad : Nat → Nat} {Hb : Heap} {tau : Nat → Int64} {d n s : Nat} {S : Nat → xS} {Z : xZ} {h : mx_H} (hx : XH n s S Z h) (hG : GI n S Z)  {x0 x1 : Int} (p0 : (-2147483648) ≤ x0 ∧ x0 ≤ 2147483647) (p1 : (-2147483648) ≤ x1 ∧ x1 ≤ 2147483647) : ∃ (z : Int) (Z' : xZ) (h' : mx_H), mx_Ca (tB l D b0 ad Hb tau) (d + 4) 214 [.ref 56, xI x0, xI x1] h (some (xI z), h') ∧ XH n s S Z' h' ∧ GI n S Z' ∧ fr' [(56, 0), (57, (-1)), (62, (-1)), (66, (-1))] Z Z' ∧ ((-12) ≤ z ∧ z ≤ 18 ∧ (Z' 57 1 = Z 57 1 ∧ Z' 57 963 = Z 57 963 ∧ Z' 57 1925 = Z 57 1925)) := by
  obtain ⟨r, hca, z, Z', h', e, q⟩ := Jmt (B := tB l D b0 ad Hb tau) (M := mt_214) (mi := 214) (as := [.ref 56, xI x0, xI x1]) (d := d + 3) (ls := [some (.ref 56), some (xI x0), some (xI x1), none]) rfl rfl rfl rfl rfl rfl (cw_214_56 (l := l) (D := D) (b0 := b0) (ad := ad) (Hb := Hb) (tau := tau) (d := d) (Post := fun r => ∃ (z : Int) (Z' : xZ) (h' : mx_H), r = (some (xI z), h') ∧ XH n s S Z' h' ∧ GI n S Z' ∧ fr' [(56, 0), (57, (-1)), (62, (-1)), (66, (-1))] Z Z' ∧ ((-12) ≤ z ∧ z ≤ 18 ∧ (Z' 57 1 = Z 57 1 ∧ Z' 57 963 = Z 57 963 ∧ Z' 57 1925 = Z 57 1925))) hx hG p0 p1 (fun z Z' h' q1 q2 q3 q4 => ⟨z, Z', h', rfl, q1, q2, q3, q4⟩))
  subst e; exact ⟨z, Z', h', hca, q⟩
set_option maxRecDepth 100000 in
theorem cw_215_56 {l : Launch} {D : va_G} {b0 : Nat} {ad : Nat → Nat} {Hb : Heap} {tau : Nat → Int64} {d n s : Nat} {S : Nat → xS} {Z : xZ} {h : mx_H} {Post : mx_R → Prop} (hx : XH n s S Z h) (hG : GI n S Z)  {x0 : Int} (p0 : (-2147483648) ≤ x0 ∧ x0 ≤ 2147483647) (hP : ∀ (z : Int) (Z' : xZ) (h' : mx_H), XH n s S Z' h' → GI n S Z' → fr' [(56, 0), (57, (-1)), (66, (-1))] Z Z' → (-2147483648) ≤ z ∧ z ≤ 2147483647 ∧ (Z' 57 1 = Z 57 1 ∧ Z' 57 963 = Z 57 963 ∧ Z' 57 1925 = Z 57 1925) → Post (some (xI z), h')) : mx_J (tB l D b0 ad Hb tau) mt_215 (d + 1) 0 [some (.ref 56), some (xI x0)] [] h Post := by
    have a56 : 56 < n := lt83 (GI_n hG) rfl
    have s56 : S 56 = .inl (12, [0, 2, 2, 2, 2, 0, 0, 0, 0, 0, 0, 0, 0, 0, 0, 2, 2, 2, 0, 2, 2, 2, 0, 0, 2, 2, 2, 2, 2, 2, 0, 0, 2, 2, 2, 2, 2, 2, 2, 2, 2, 2]) := GI_s hG 56 rfl
    have a57 : 57 < n := lt83 (GI_n hG) rfl
    have s57 : S 57 = .inr (.int, 2886, 0) := GI_s hG 57 rfl
    have a66 : 66 < n := lt83 (GI_n hG) rfl
    have s66 : S 66 = .inr (.int, 3, 0) := GI_s hG 66 rfl
    refine mx_J.step (sn_215 0) (fun _ _ => rfl) ?_
    refine JcI (z := 0) (show mx_Sn _ _ 1 (mx_const (.int 0) 2) from sn_215 1) rfl ?_
    refine JputI (g := 0) hx (show mx_Sn _ _ 2 (mx_putf 1 12 0 (.int) 5) from sn_215 2) a56 s56 rfl rfl rfl rfl (fun Z1 h1 hx1 hE1 => ?_)
    have hG1 := GI_up hG hE1 (show (-2147483648) ≤ 0 ∧ 0 ≤ 2147483647 by omega) trivial rfl
    refine mx_J.step (sn_215 5) (fun _ _ => rfl) ?_
    refine Ji2l (show mx_Sn _ _ 6 (mx_i2l 7) from sn_215 6) (by omega) ?_
    refine JcL (z := 0) (show mx_Sn _ _ 7 (mx_const (.long 0) 8) from sn_215 7) rfl ?_
    refine JcL (z := 9) (show mx_Sn _ _ 8 (mx_const (.long 9) 11) from sn_215 8) rfl ?_
    obtain ⟨z2, hc2, b2⟩ := ct_154_ (d := d + 0) (l := l) (D := D) (b0 := b0) (ad := ad) (Hb := Hb) (tau := tau) hx1 hG1 (show (-9223372036854775808) ≤ x0 ∧ x0 ≤ 9223372036854775807 by omega) (show (-9223372036854775808) ≤ 0 ∧ 0 ≤ 9223372036854775807 by omega) (show (-9223372036854775808) ≤ 9 ∧ 9 ≤ 9223372036854775807 by omega)
    refine Jcs (show mx_Sn _ _ 11 (mx_calls 154 3 14) from sn_215 11) hc2 rfl rfl rfl ?_
    refine Jif_ne (show mx_Sn _ _ 14 (mx_if_ne 20 17) from sn_215 14) (by omega) (fun q3 => ?_) (fun q3 => ?_)
    · skip
      refine mx_J.step (sn_215 20) (fun _ _ => rfl) ?_
      have eq5 : Z1 57 27 = Z 57 27 := (up_nk hE1 rfl)
      have b6 := GI_st hG 27
      have b7 : 0 ≤ Z 56 18 ∧ Z 56 18 ≤ 385 := hG.pr 56 18
      have b8 : 0 ≤ Z 57 27 ∧ Z 57 27 ≤ 384 := by have hq := GI_ex hG 57 27; replace hq : f57 (27 % 962) (Z 57 27) := hq; unfold f57 at hq; omega
      have b9 : (-2147483648) ≤ Z 57 27 ∧ Z 57 27 ≤ 2147483647 := hG.pr 57 27
      obtain ⟨Z4, h4, hc4, hx4, hG4, hf4, b4⟩ := ct_202_56 (d := d + 0) (l := l) (D := D) (b0 := b0) (ad := ad) (Hb := Hb) (tau := tau) hx1 hG1 
      try rw [eq5] at b4
      have b10 : (-2147483648) ≤ Z4 66 0 ∧ Z4 66 0 ≤ 2147483647 := hG4.pr 66 0
      have b11 : (((0 : Int) = 0 → 0 ≤ (Z4 66 0) ∧ (Z4 66 0) ≤ 384) ∧ ((0 : Int) = 1 → 0 ≤ (Z4 66 0) ∧ (Z4 66 0) ≤ 9)) := GI_ex hG4 66 0
      refine Jcv0 hx1 (show mx_Sn _ _ 21 (mx_callv 202 1 12 24) from sn_215 21) a56 s56 hc4 rfl rfl rfl ?_
      refine mx_J.step (sn_215 24) (fun _ _ => rfl) ?_
      refine JgetR (g := 1) (b := 57) hx4 (show mx_Sn _ _ 25 (mx_getf 12 1 28) from sn_215 25) a56 s56 rfl rfl (hG4.prr 56 1 rfl) ?_
      refine JcI (z := 28) (show mx_Sn _ _ 28 (mx_const (.int 28) 30) from sn_215 28) rfl ?_
      refine mx_J.step (sn_215 30) (fun _ _ => rfl) ?_
      refine JiastI hx4 (show mx_Sn _ _ 31 (mx_iast 1 32) from sn_215 31) a57 s57 rfl (by omega) (fun Z13 h13 hx13 hE13 => ?_)
      have eq14 : Z4 56 18 = Z 56 18 := ((hf4 56 18 rfl).trans (up_ni hE1 (by decide)))
      have hG13 := GI_up57 hG4 hE13 (show (-2147483648) ≤ x0 ∧ x0 ≤ 2147483647 by omega) (show f57 ((28) % 962) (x0) by first | assumption | (unfold f57; omega) | (unfold f57 at *; omega)) (by omega) (by omega)
      refine mx_J.step (sn_215 32) (fun _ _ => rfl) ?_
      have eq16 : Z13 66 0 = Z4 66 0 := (up_nk hE13 rfl)
      have eq17 : Z13 56 18 = Z 56 18 := ((up_nk hE13 rfl).trans ((hf4 56 18 rfl).trans (up_ni hE1 (by decide))))
      have eq18 : Z13 57 1 = Z 57 1 := ((up_ni hE13 (by decide)).trans ((hf4 57 1 rfl).trans (up_nk hE1 rfl)))
      have b19 : 0 ≤ Z 57 1 ∧ Z 57 1 ≤ 18 := by have hq := GI_ex hG 57 1; replace hq : f57 (1 % 962) (Z 57 1) := hq; unfold f57 at hq; omega
      have b20 : (-2147483648) ≤ Z 57 1 ∧ Z 57 1 ≤ 2147483647 := hG.pr 57 1
      have eq21 : Z13 57 963 = Z 57 963 := ((up_ni hE13 (by decide)).trans ((hf4 57 963 rfl).trans (up_nk hE1 rfl)))
      have b22 : 0 ≤ Z 57 963 ∧ Z 57 963 ≤ 18 := by have hq := GI_ex hG 57 963; replace hq : f57 (963 % 962) (Z 57 963) := hq; unfold f57 at hq; omega
      have b23 : (-2147483648) ≤ Z 57 963 ∧ Z 57 963 ≤ 2147483647 := hG.pr 57 963
      have eq24 : Z13 57 1925 = Z 57 1925 := ((up_ni hE13 (by decide)).trans ((hf4 57 1925 rfl).trans (up_nk hE1 rfl)))
      have b25 : 0 ≤ Z 57 1925 ∧ Z 57 1925 ≤ 18 := by have hq := GI_ex hG 57 1925; replace hq : f57 (1925 % 962) (Z 57 1925) := hq; unfold f57 at hq; omega
      have b26 : (-2147483648) ≤ Z 57 1925 ∧ Z 57 1925 ≤ 2147483647 := hG.pr 57 1925
      obtain ⟨Z15, h15, hc15, hx15, hG15, hf15, b15⟩ := ct_204_56 (d := d + 0) (l := l) (D := D) (b0 := b0) (ad := ad) (Hb := Hb) (tau := tau) hx13 hG13  (show Z13 66 0 < Z13 56 18 by first | omega | (simp only [eq16, eq17, eq18, eq21, eq24]; omega))
      try rw [eq16] at b15
      try rw [eq17] at b15
      try rw [eq18] at b15
      try rw [eq21] at b15
      try rw [eq24] at b15
      have b27 : 0 ≤ Z15 57 1 ∧ Z15 57 1 ≤ 18 := by have hq := GI_ex hG15 57 1; replace hq : f57 (1 % 962) (Z15 57 1) := hq; unfold f57 at hq; omega
      have b28 : (-2147483648) ≤ Z15 57 1 ∧ Z15 57 1 ≤ 2147483647 := hG15.pr 57 1
      have b29 : 0 ≤ Z15 57 963 ∧ Z15 57 963 ≤ 18 := by have hq := GI_ex hG15 57 963; replace hq : f57 (963 % 962) (Z15 57 963) := hq; unfold f57 at hq; omega
      have b30 : (-2147483648) ≤ Z15 57 963 ∧ Z15 57 963 ≤ 2147483647 := hG15.pr 57 963
      have b31 : 0 ≤ Z15 57 1925 ∧ Z15 57 1925 ≤ 18 := by have hq := GI_ex hG15 57 1925; replace hq : f57 (1925 % 962) (Z15 57 1925) := hq; unfold f57 at hq; omega
      have b32 : (-2147483648) ≤ Z15 57 1925 ∧ Z15 57 1925 ≤ 2147483647 := hG15.pr 57 1925
      refine Jcv0 hx13 (show mx_Sn _ _ 33 (mx_callv 204 1 12 36) from sn_215 33) a56 s56 hc15 rfl rfl rfl ?_
      refine mx_J.step (sn_215 36) (fun _ _ => rfl) ?_
      refine JgetR (g := 21) (b := 66) hx15 (show mx_Sn _ _ 37 (mx_getf 12 21 40) from sn_215 37) a56 s56 rfl rfl (hG15.prr 56 21 rfl) ?_
      refine JcI (z := 1) (show mx_Sn _ _ 40 (mx_const (.int 1) 41) from sn_215 40) rfl ?_
      have b34 : (-2147483648) ≤ Z4 66 1 ∧ Z4 66 1 ≤ 2147483647 := hG4.pr 66 1
      have b35 : (((1 : Int) = 0 → 0 ≤ (Z4 66 1) ∧ (Z4 66 1) ≤ 384) ∧ ((1 : Int) = 1 → 0 ≤ (Z4 66 1) ∧ (Z4 66 1) ≤ 9)) := GI_ex hG4 66 1
      refine JialdI (z := Z4 66 1) hx15 (show mx_Sn _ _ 41 (mx_iald 42) from sn_215 41) a66 s66 (by omega) ((hf15 66 1 rfl).trans (up_nk hE13 rfl)) ?_
      exact mx_J.ret (sn_215 42) (fun _ _ => rfl) (hP (Z4 66 1) Z15 h15 hx15 hG15 (fr_tr (M := [(56, 0), (57, (-1)), (66, (-1))]) (fr_tr (M := [(56, 0), (57, (-1)), (66, (-1))]) (fr_tr (M := [(56, 0), (57, (-1)), (66, (-1))]) (fr_tr (M := [(56, 0), (57, (-1)), (66, (-1))]) fr_rf (fr_up hE1) (M1 := []) rfl rfl) (hf4) rfl rfl) (fr_ua hE13) rfl rfl) (hf15) rfl rfl) (by omega))
    · skip
      refine JcI (z := (-11)) (show mx_Sn _ _ 17 (mx_const (.int (-11)) 19) from sn_215 17) rfl ?_
      have eq36 : Z1 57 1 = Z 57 1 := (up_nk hE1 rfl)
      have b37 : 0 ≤ Z 57 1 ∧ Z 57 1 ≤ 18 := by have hq := GI_ex hG 57 1; replace hq : f57 (1 % 962) (Z 57 1) := hq; unfold f57 at hq; omega
      have b38 : (-2147483648) ≤ Z 57 1 ∧ Z 57 1 ≤ 2147483647 := hG.pr 57 1
      have eq39 : Z1 57 963 = Z 57 963 := (up_nk hE1 rfl)
      have b40 : 0 ≤ Z 57 963 ∧ Z 57 963 ≤ 18 := by have hq := GI_ex hG 57 963; replace hq : f57 (963 % 962) (Z 57 963) := hq; unfold f57 at hq; omega
      have b41 : (-2147483648) ≤ Z 57 963 ∧ Z 57 963 ≤ 2147483647 := hG.pr 57 963
      have eq42 : Z1 57 1925 = Z 57 1925 := (up_nk hE1 rfl)
      have b43 : 0 ≤ Z 57 1925 ∧ Z 57 1925 ≤ 18 := by have hq := GI_ex hG 57 1925; replace hq : f57 (1925 % 962) (Z 57 1925) := hq; unfold f57 at hq; omega
      have b44 : (-2147483648) ≤ Z 57 1925 ∧ Z 57 1925 ≤ 2147483647 := hG.pr 57 1925
      have eq45 : Z1 57 1 = Z 57 1 := (up_nk hE1 rfl)
      have eq46 : Z1 57 963 = Z 57 963 := (up_nk hE1 rfl)
      have eq47 : Z1 57 1925 = Z 57 1925 := (up_nk hE1 rfl)
      exact mx_J.ret (sn_215 19) (fun _ _ => rfl) (hP (-11) Z1 h1 hx1 hG1 (fr_tr (M := [(56, 0), (57, (-1)), (66, (-1))]) fr_rf (fr_up hE1) (M1 := []) rfl rfl) (by omega))
theorem ct_215_56 {l : Launch} {D : va_G} {b0 : Nat} {ad : Nat → Nat} {Hb : Heap} {tau : Nat → Int64} {d n s : Nat} {S : Nat → xS} {Z : xZ} {h : mx_H} (hx : XH n s S Z h) (hG : GI n S Z)  {x0 : Int} (p0 : (-2147483648) ≤ x0 ∧ x0 ≤ 2147483647) : ∃ (z : Int) (Z' : xZ) (h' : mx_H), mx_Ca (tB l D b0 ad Hb tau) (d + 2) 215 [.ref 56, xI x0] h (some (xI z), h') ∧ XH n s S Z' h' ∧ GI n S Z' ∧ fr' [(56, 0), (57, (-1)), (66, (-1))] Z Z' ∧ ((-2147483648) ≤ z ∧ z ≤ 2147483647 ∧ (Z' 57 1 = Z 57 1 ∧ Z' 57 963 = Z 57 963 ∧ Z' 57 1925 = Z 57 1925)) := by
  obtain ⟨r, hca, z, Z', h', e, q⟩ := Jmt (B := tB l D b0 ad Hb tau) (M := mt_215) (mi := 215) (as := [.ref 56, xI x0]) (d := d + 1) (ls := [some (.ref 56), some (xI x0)]) rfl rfl rfl rfl rfl rfl (cw_215_56 (l := l) (D := D) (b0 := b0) (ad := ad) (Hb := Hb) (tau := tau) (d := d) (Post := fun r => ∃ (z : Int) (Z' : xZ) (h' : mx_H), r = (some (xI z), h') ∧ XH n s S Z' h' ∧ GI n S Z' ∧ fr' [(56, 0), (57, (-1)), (66, (-1))] Z Z' ∧ ((-2147483648) ≤ z ∧ z ≤ 2147483647 ∧ (Z' 57 1 = Z 57 1 ∧ Z' 57 963 = Z 57 963 ∧ Z' 57 1925 = Z 57 1925))) hx hG p0 (fun z Z' h' q1 q2 q3 q4 => ⟨z, Z', h', rfl, q1, q2, q3, q4⟩))
  subst e; exact ⟨z, Z', h', hca, q⟩
set_option maxRecDepth 100000 in
theorem cw_216_56 {l : Launch} {D : va_G} {b0 : Nat} {ad : Nat → Nat} {Hb : Heap} {tau : Nat → Int64} {d n s : Nat} {S : Nat → xS} {Z : xZ} {h : mx_H} {Post : mx_R → Prop} (hx : XH n s S Z h) (hG : GI n S Z)  {x0 : Int} (p0 : (-2147483648) ≤ x0 ∧ x0 ≤ 2147483647) (hP : ∀ (z : Int) (Z' : xZ) (h' : mx_H), XH n s S Z' h' → GI n S Z' → fr' [(56, 0), (57, (-1))] Z Z' → (-3) ≤ z ∧ z ≤ 10 ∧ (Z' 57 1 = Z 57 1 ∧ Z' 57 963 = Z 57 963 ∧ Z' 57 1925 = Z 57 1925) → Post (some (xI z), h')) : mx_J (tB l D b0 ad Hb tau) mt_216 (d + 1) 0 [some (.ref 56), some (xI x0), none] [] h Post := by
    have a56 : 56 < n := lt83 (GI_n hG) rfl
    have s56 : S 56 = .inl (12, [0, 2, 2, 2, 2, 0, 0, 0, 0, 0, 0, 0, 0, 0, 0, 2, 2, 2, 0, 2, 2, 2, 0, 0, 2, 2, 2, 2, 2, 2, 0, 0, 2, 2, 2, 2, 2, 2, 2, 2, 2, 2]) := GI_s hG 56 rfl
    have a57 : 57 < n := lt83 (GI_n hG) rfl
    have s57 : S 57 = .inr (.int, 2886, 0) := GI_s hG 57 rfl
    refine mx_J.step (sn_216 0) (fun _ _ => rfl) ?_
    refine JcI (z := 0) (show mx_Sn _ _ 1 (mx_const (.int 0) 2) from sn_216 1) rfl ?_
    refine JputI (g := 0) hx (show mx_Sn _ _ 2 (mx_putf 1 12 0 (.int) 5) from sn_216 2) a56 s56 rfl rfl rfl rfl (fun Z1 h1 hx1 hE1 => ?_)
    have hG1 := GI_up hG hE1 (show (-2147483648) ≤ 0 ∧ 0 ≤ 2147483647 by omega) trivial rfl
    refine mx_J.step (sn_216 5) (fun _ _ => rfl) ?_
    refine Ji2l (show mx_Sn _ _ 6 (mx_i2l 7) from sn_216 6) (by omega) ?_
    refine JcL (z := 1) (show mx_Sn _ _ 7 (mx_const (.long 1) 8) from sn_216 7) rfl ?_
    refine JcL (z := 10) (show mx_Sn _ _ 8 (mx_const (.long 10) 11) from sn_216 8) rfl ?_
    obtain ⟨z2, hc2, b2⟩ := ct_154_ (d := d + 0) (l := l) (D := D) (b0 := b0) (ad := ad) (Hb := Hb) (tau := tau) hx1 hG1 (show (-9223372036854775808) ≤ x0 ∧ x0 ≤ 9223372036854775807 by omega) (show (-9223372036854775808) ≤ 1 ∧ 1 ≤ 9223372036854775807 by omega) (show (-9223372036854775808) ≤ 10 ∧ 10 ≤ 9223372036854775807 by omega)
    refine Jcs (show mx_Sn _ _ 11 (mx_calls 154 3 14) from sn_216 11) hc2 rfl rfl rfl ?_
    have c28 : mx_J (tB l D b0 ad Hb tau) mt_216 (d + 1) 28 [some (.ref 56), some (xI x0), none] [] h1 Post := by
      refine JcI (z := (-3)) (show mx_Sn _ _ 28 (mx_const (.int (-3)) 30) from sn_216 28) rfl ?_
      have eq4 : Z1 57 1 = Z 57 1 := (up_nk hE1 rfl)
      have b5 : 0 ≤ Z 57 1 ∧ Z 57 1 ≤ 18 := by have hq := GI_ex hG 57 1; replace hq : f57 (1 % 962) (Z 57 1) := hq; unfold f57 at hq; omega
      have b6 : (-2147483648) ≤ Z 57 1 ∧ Z 57 1 ≤ 2147483647 := hG.pr 57 1
      have eq7 : Z1 57 963 = Z 57 963 := (up_nk hE1 rfl)
      have b8 : 0 ≤ Z 57 963 ∧ Z 57 963 ≤ 18 := by have hq := GI_ex hG 57 963; replace hq : f57 (963 % 962) (Z 57 963) := hq; unfold f57 at hq; omega
      have b9 : (-2147483648) ≤ Z 57 963 ∧ Z 57 963 ≤ 2147483647 := hG.pr 57 963
      have eq10 : Z1 57 1925 = Z 57 1925 := (up_nk hE1 rfl)
      have b11 : 0 ≤ Z 57 1925 ∧ Z 57 1925 ≤ 18 := by have hq := GI_ex hG 57 1925; replace hq : f57 (1925 % 962) (Z 57 1925) := hq; unfold f57 at hq; omega
      have b12 : (-2147483648) ≤ Z 57 1925 ∧ Z 57 1925 ≤ 2147483647 := hG.pr 57 1925
      have eq13 : Z1 57 1 = Z 57 1 := (up_nk hE1 rfl)
      have eq14 : Z1 57 963 = Z 57 963 := (up_nk hE1 rfl)
      have eq15 : Z1 57 1925 = Z 57 1925 := (up_nk hE1 rfl)
      exact mx_J.ret (sn_216 30) (fun _ _ => rfl) (hP (-3) Z1 h1 hx1 hG1 (fr_tr (M := [(56, 0), (57, (-1))]) fr_rf (fr_up hE1) (M1 := []) rfl rfl) (by omega))
    refine Jif_eq (show mx_Sn _ _ 14 (mx_if_eq 28 17) from sn_216 14) (by omega) (fun q16 => ?_) (fun q16 => ?_)
    · skip
      exact c28 
    · skip
      refine mx_J.step (sn_216 17) (fun _ _ => rfl) ?_
      refine mx_J.step (sn_216 18) (fun _ _ => rfl) ?_
      refine JgetR (g := 1) (b := 57) hx1 (show mx_Sn _ _ 19 (mx_getf 12 1 22) from sn_216 19) a56 s56 rfl rfl (hG1.prr 56 1 rfl) ?_
      refine JcI (z := 30) (show mx_Sn _ _ 22 (mx_const (.int 30) 24) from sn_216 22) rfl ?_
      have b18 : 0 ≤ Z 57 30 ∧ Z 57 30 ≤ 10 := by have hq := GI_ex hG 57 30; replace hq : f57 (30 % 962) (Z 57 30) := hq; unfold f57 at hq; omega
      have b19 : (-2147483648) ≤ Z 57 30 ∧ Z 57 30 ≤ 2147483647 := hG.pr 57 30
      refine JialdI (z := Z 57 30) hx1 (show mx_Sn _ _ 24 (mx_iald 25) from sn_216 24) a57 s57 (by omega) (up_nk hE1 rfl) ?_
      refine Jicmp_le (show mx_Sn _ _ 25 (mx_icmp_le 31 28) from sn_216 25) (by omega) (by omega) (fun q20 => ?_) (fun q20 => ?_)
      · skip
        refine mx_J.step (sn_216 31) (fun _ _ => rfl) ?_
        refine JgetR (g := 1) (b := 57) hx1 (show mx_Sn _ _ 32 (mx_getf 12 1 35) from sn_216 32) a56 s56 rfl rfl (hG1.prr 56 1 rfl) ?_
        refine JcI (z := 30) (show mx_Sn _ _ 35 (mx_const (.int 30) 37) from sn_216 35) rfl ?_
        refine mx_J.step (sn_216 37) (fun _ _ => rfl) ?_
        refine JialdI (z := Z 57 30) hx1 (show mx_Sn _ _ 38 (mx_iald 39) from sn_216 38) a57 s57 (by omega) (up_nk hE1 rfl) ?_
        refine mx_J.step (sn_216 39) (fun _ _ => rfl) ?_
        refine Jisub (show mx_Sn _ _ 40 (mx_isub 41) from sn_216 40) ?_
        refine JiastI hx1 (show mx_Sn _ _ 41 (mx_iast 1 42) from sn_216 41) a57 s57 rfl (by omega) (fun Z22 h22 hx22 hE22 => ?_)
        have eq23 : Z1 56 18 = Z 56 18 := (up_ni hE1 (by decide))
        have b24 : 0 ≤ Z 56 18 ∧ Z 56 18 ≤ 385 := hG.pr 56 18
        have hG22 := GI_up57 hG1 hE22 (show (-2147483648) ≤ (Z 57 30) - x0 ∧ (Z 57 30) - x0 ≤ 2147483647 by omega) (show f57 ((30) % 962) ((Z 57 30) - x0) by first | assumption | (unfold f57; omega) | (unfold f57 at *; omega)) (by omega) (by omega)
        refine JcI (z := 0) (show mx_Sn _ _ 42 (mx_const (.int 0) 43) from sn_216 42) rfl ?_
        refine mx_J.step (ls2 := [some (.ref 56), some (xI x0), some (xI 0)]) (sn_216 43) (fun _ _ => rfl) ?_
        refine mx_J.step (sn_216 44) (fun _ _ => rfl) ?_
        refine JcI (z := 3) (show mx_Sn _ _ 45 (mx_const (.int 3) 46) from sn_216 45) rfl ?_
        refine Jicmp_ge (show mx_Sn _ _ 46 (mx_icmp_ge 83 49) from sn_216 46) (by omega) (by omega) (fun q25 => absurd q25 (by omega)) (fun q25 => ?_)
        refine mx_J.step (sn_216 49) (fun _ _ => rfl) ?_
        refine JgetR (g := 1) (b := 57) hx22 (show mx_Sn _ _ 50 (mx_getf 12 1 53) from sn_216 50) a56 s56 rfl rfl (hG22.prr 56 1 rfl) ?_
        refine JcI (z := 27) (show mx_Sn _ _ 53 (mx_const (.int 27) 55) from sn_216 53) rfl ?_
        refine mx_J.step (sn_216 55) (fun _ _ => rfl) ?_
        refine JiaddE (r := 27) (show mx_Sn _ _ 56 (mx_iadd 57) from sn_216 56) (by decide) ?_
        refine mx_J.step (sn_216 57) (fun _ _ => rfl) ?_
        refine JgetR (g := 1) (b := 57) hx22 (show mx_Sn _ _ 58 (mx_getf 12 1 61) from sn_216 58) a56 s56 rfl rfl (hG22.prr 56 1 rfl) ?_
        refine JcI (z := 31) (show mx_Sn _ _ 61 (mx_const (.int 31) 63) from sn_216 61) rfl ?_
        refine JcI (z := 3) (show mx_Sn _ _ 63 (mx_const (.int 3) 64) from sn_216 63) rfl ?_
        refine mx_J.step (sn_216 64) (fun _ _ => rfl) ?_
        refine JgetR (g := 1) (b := 57) hx22 (show mx_Sn _ _ 65 (mx_getf 12 1 68) from sn_216 65) a56 s56 rfl rfl (hG22.prr 56 1 rfl) ?_
        refine JcI (z := 30) (show mx_Sn _ _ 68 (mx_const (.int 30) 70) from sn_216 68) rfl ?_
        refine JialdI (z := (Z 57 30) - x0) hx22 (show mx_Sn _ _ 70 (mx_iald 71) from sn_216 70) a57 s57 (by omega) (up_at hE22) ?_
        refine Jimul (show mx_Sn _ _ 71 (mx_imul 72) from sn_216 71) ?_
        refine Jiadd (show mx_Sn _ _ 72 (mx_iadd 73) from sn_216 72) ?_
        refine mx_J.step (sn_216 73) (fun _ _ => rfl) ?_
        refine Jiadd (show mx_Sn _ _ 74 (mx_iadd 75) from sn_216 74) ?_
        have b29 := GI_st hG22 ((31 + (3 * ((Z 57 30) - x0))) + 0)
        have eq30 : Z22 56 18 = Z 56 18 := ((up_nk hE22 rfl).trans (up_ni hE1 (by decide)))
        have b31 : f57 (((31 + (3 * ((Z 57 30) - x0))) + 0) % 962) (Z22 57 ((31 + (3 * ((Z 57 30) - x0))) + 0)) := GI_ex hG22 57 ((31 + (3 * ((Z 57 30) - x0))) + 0)
        have b32 : (-2147483648) ≤ Z22 57 ((31 + (3 * ((Z 57 30) - x0))) + 0) ∧ Z22 57 ((31 + (3 * ((Z 57 30) - x0))) + 0) ≤ 2147483647 := hG22.pr 57 ((31 + (3 * ((Z 57 30) - x0))) + 0)
        refine JialdI (z := Z22 57 ((31 + (3 * ((Z 57 30) - x0))) + 0)) hx22 (show mx_Sn _ _ 75 (mx_iald 76) from sn_216 75) a57 s57 (by omega) rfl ?_
        refine JiastI hx22 (show mx_Sn _ _ 76 (mx_iast 1 77) from sn_216 76) a57 s57 rfl (by omega) (fun Z33 h33 hx33 hE33 => ?_)
        have eq34 : Z22 56 18 = Z 56 18 := ((up_nk hE22 rfl).trans (up_ni hE1 (by decide)))
        have hG33 := GI_up57 hG22 hE33 (show (-2147483648) ≤ Z22 57 ((31 + (3 * ((Z 57 30) - x0))) + 0) ∧ Z22 57 ((31 + (3 * ((Z 57 30) - x0))) + 0) ≤ 2147483647 by omega) (show f57 ((27) % 962) (Z22 57 ((31 + (3 * ((Z 57 30) - x0))) + 0)) by first | exact f57_m0 (by assumption) (by omega) (by omega) | exact f57_m1 (by assumption) (by omega) (by omega) | exact f57_m2 | (have hq := GI_ex hG22 57 ((31 + (3 * ((Z 57 30) - x0))) + 0); replace hq : f57 (((31 + (3 * ((Z 57 30) - x0))) + 0) % 962) (Z22 57 ((31 + (3 * ((Z 57 30) - x0))) + 0)) := hq; rw [Int.emod_eq_of_lt (a := ((31 + (3 * ((Z 57 30) - x0))) + 0)) (by omega) (by omega)] at hq; show f57 27 (Z22 57 ((31 + (3 * ((Z 57 30) - x0))) + 0)); unfold f57 at hq; unfold f57; omega) | assumption | (unfold f57; omega) | (unfold f57 at *; omega)) (by omega) (by omega)
        refine Jiinc (z := 0) (cz := 1) (ls2 := [some (.ref 56), some (xI x0), some (xI 1)]) (show mx_Sn _ _ 77 (mx_iinc 2 1 80) from sn_216 77) rfl rfl rfl rfl ?_
        refine mx_J.step (sn_216 80) (fun _ _ => rfl) ?_
        refine mx_J.step (sn_216 44) (fun _ _ => rfl) ?_
        refine JcI (z := 3) (show mx_Sn _ _ 45 (mx_const (.int 3) 46) from sn_216 45) rfl ?_
        refine Jicmp_ge (show mx_Sn _ _ 46 (mx_icmp_ge 83 49) from sn_216 46) (by omega) (by omega) (fun q35 => absurd q35 (by omega)) (fun q35 => ?_)
        refine mx_J.step (sn_216 49) (fun _ _ => rfl) ?_
        refine JgetR (g := 1) (b := 57) hx33 (show mx_Sn _ _ 50 (mx_getf 12 1 53) from sn_216 50) a56 s56 rfl rfl (hG33.prr 56 1 rfl) ?_
        refine JcI (z := 27) (show mx_Sn _ _ 53 (mx_const (.int 27) 55) from sn_216 53) rfl ?_
        refine mx_J.step (sn_216 55) (fun _ _ => rfl) ?_
        refine JiaddE (r := 28) (show mx_Sn _ _ 56 (mx_iadd 57) from sn_216 56) (by decide) ?_
        refine mx_J.step (sn_216 57) (fun _ _ => rfl) ?_
        refine JgetR (g := 1) (b := 57) hx33 (show mx_Sn _ _ 58 (mx_getf 12 1 61) from sn_216 58) a56 s56 rfl rfl (hG33.prr 56 1 rfl) ?_
        refine JcI (z := 31) (show mx_Sn _ _ 61 (mx_const (.int 31) 63) from sn_216 61) rfl ?_
        refine JcI (z := 3) (show mx_Sn _ _ 63 (mx_const (.int 3) 64) from sn_216 63) rfl ?_
        refine mx_J.step (sn_216 64) (fun _ _ => rfl) ?_
        refine JgetR (g := 1) (b := 57) hx33 (show mx_Sn _ _ 65 (mx_getf 12 1 68) from sn_216 65) a56 s56 rfl rfl (hG33.prr 56 1 rfl) ?_
        refine JcI (z := 30) (show mx_Sn _ _ 68 (mx_const (.int 30) 70) from sn_216 68) rfl ?_
        refine JialdI (z := (Z 57 30) - x0) hx33 (show mx_Sn _ _ 70 (mx_iald 71) from sn_216 70) a57 s57 (by omega) ((up_ni hE33 (by decide)).trans (up_at hE22)) ?_
        refine Jimul (show mx_Sn _ _ 71 (mx_imul 72) from sn_216 71) ?_
        refine Jiadd (show mx_Sn _ _ 72 (mx_iadd 73) from sn_216 72) ?_
        refine mx_J.step (sn_216 73) (fun _ _ => rfl) ?_
        refine Jiadd (show mx_Sn _ _ 74 (mx_iadd 75) from sn_216 74) ?_
        have b39 := GI_st hG33 ((31 + (3 * ((Z 57 30) - x0))) + 1)
        have eq40 : Z33 56 18 = Z 56 18 := ((up_nk hE33 rfl).trans ((up_nk hE22 rfl).trans (up_ni hE1 (by decide))))
        have b41 : f57 (((31 + (3 * ((Z 57 30) - x0))) + 1) % 962) (Z33 57 ((31 + (3 * ((Z 57 30) - x0))) + 1)) := GI_ex hG33 57 ((31 + (3 * ((Z 57 30) - x0))) + 1)
        have b42 : (-2147483648) ≤ Z33 57 ((31 + (3 * ((Z 57 30) - x0))) + 1) ∧ Z33 57 ((31 + (3 * ((Z 57 30) - x0))) + 1) ≤ 2147483647 := hG33.pr 57 ((31 + (3 * ((Z 57 30) - x0))) + 1)
        refine JialdI (z := Z33 57 ((31 + (3 * ((Z 57 30) - x0))) + 1)) hx33 (show mx_Sn _ _ 75 (mx_iald 76) from sn_216 75) a57 s57 (by omega) rfl ?_
        refine JiastI hx33 (show mx_Sn _ _ 76 (mx_iast 1 77) from sn_216 76) a57 s57 rfl (by omega) (fun Z43 h43 hx43 hE43 => ?_)
        have eq44 : Z33 56 18 = Z 56 18 := ((up_nk hE33 rfl).trans ((up_nk hE22 rfl).trans (up_ni hE1 (by decide))))
        have hG43 := GI_up57 hG33 hE43 (show (-2147483648) ≤ Z33 57 ((31 + (3 * ((Z 57 30) - x0))) + 1) ∧ Z33 57 ((31 + (3 * ((Z 57 30) - x0))) + 1) ≤ 2147483647 by omega) (show f57 ((28) % 962) (Z33 57 ((31 + (3 * ((Z 57 30) - x0))) + 1)) by first | exact f57_m0 (by assumption) (by omega) (by omega) | exact f57_m1 (by assumption) (by omega) (by omega) | exact f57_m2 | (have hq := GI_ex hG33 57 ((31 + (3 * ((Z 57 30) - x0))) + 1); replace hq : f57 (((31 + (3 * ((Z 57 30) - x0))) + 1) % 962) (Z33 57 ((31 + (3 * ((Z 57 30) - x0))) + 1)) := hq; rw [Int.emod_eq_of_lt (a := ((31 + (3 * ((Z 57 30) - x0))) + 1)) (by omega) (by omega)] at hq; show f57 28 (Z33 57 ((31 + (3 * ((Z 57 30) - x0))) + 1)); unfold f57 at hq; unfold f57; omega) | assumption | (unfold f57; omega) | (unfold f57 at *; omega)) (by omega) (by omega)
        refine Jiinc (z := 1) (cz := 1) (ls2 := [some (.ref 56), some (xI x0), some (xI 2)]) (show mx_Sn _ _ 77 (mx_iinc 2 1 80) from sn_216 77) rfl rfl rfl rfl ?_
        refine mx_J.step (sn_216 80) (fun _ _ => rfl) ?_
        refine mx_J.step (sn_216 44) (fun _ _ => rfl) ?_
        refine JcI (z := 3) (show mx_Sn _ _ 45 (mx_const (.int 3) 46) from sn_216 45) rfl ?_
        refine Jicmp_ge (show mx_Sn _ _ 46 (mx_icmp_ge 83 49) from sn_216 46) (by omega) (by omega) (fun q45 => absurd q45 (by omega)) (fun q45 => ?_)
        refine mx_J.step (sn_216 49) (fun _ _ => rfl) ?_
        refine JgetR (g := 1) (b := 57) hx43 (show mx_Sn _ _ 50 (mx_getf 12 1 53) from sn_216 50) a56 s56 rfl rfl (hG43.prr 56 1 rfl) ?_
        refine JcI (z := 27) (show mx_Sn _ _ 53 (mx_const (.int 27) 55) from sn_216 53) rfl ?_
        refine mx_J.step (sn_216 55) (fun _ _ => rfl) ?_
        refine JiaddE (r := 29) (show mx_Sn _ _ 56 (mx_iadd 57) from sn_216 56) (by decide) ?_
        refine mx_J.step (sn_216 57) (fun _ _ => rfl) ?_
        refine JgetR (g := 1) (b := 57) hx43 (show mx_Sn _ _ 58 (mx_getf 12 1 61) from sn_216 58) a56 s56 rfl rfl (hG43.prr 56 1 rfl) ?_
        refine JcI (z := 31) (show mx_Sn _ _ 61 (mx_const (.int 31) 63) from sn_216 61) rfl ?_
        refine JcI (z := 3) (show mx_Sn _ _ 63 (mx_const (.int 3) 64) from sn_216 63) rfl ?_
        refine mx_J.step (sn_216 64) (fun _ _ => rfl) ?_
        refine JgetR (g := 1) (b := 57) hx43 (show mx_Sn _ _ 65 (mx_getf 12 1 68) from sn_216 65) a56 s56 rfl rfl (hG43.prr 56 1 rfl) ?_
        refine JcI (z := 30) (show mx_Sn _ _ 68 (mx_const (.int 30) 70) from sn_216 68) rfl ?_
        refine JialdI (z := (Z 57 30) - x0) hx43 (show mx_Sn _ _ 70 (mx_iald 71) from sn_216 70) a57 s57 (by omega) ((up_ni hE43 (by decide)).trans ((up_ni hE33 (by decide)).trans (up_at hE22))) ?_
        refine Jimul (show mx_Sn _ _ 71 (mx_imul 72) from sn_216 71) ?_
        refine Jiadd (show mx_Sn _ _ 72 (mx_iadd 73) from sn_216 72) ?_
        refine mx_J.step (sn_216 73) (fun _ _ => rfl) ?_
        refine Jiadd (show mx_Sn _ _ 74 (mx_iadd 75) from sn_216 74) ?_
        have b49 := GI_st hG43 ((31 + (3 * ((Z 57 30) - x0))) + 2)
        have eq50 : Z43 56 18 = Z 56 18 := ((up_nk hE43 rfl).trans ((up_nk hE33 rfl).trans ((up_nk hE22 rfl).trans (up_ni hE1 (by decide)))))
        have b51 : f57 (((31 + (3 * ((Z 57 30) - x0))) + 2) % 962) (Z43 57 ((31 + (3 * ((Z 57 30) - x0))) + 2)) := GI_ex hG43 57 ((31 + (3 * ((Z 57 30) - x0))) + 2)
        have b52 : (-2147483648) ≤ Z43 57 ((31 + (3 * ((Z 57 30) - x0))) + 2) ∧ Z43 57 ((31 + (3 * ((Z 57 30) - x0))) + 2) ≤ 2147483647 := hG43.pr 57 ((31 + (3 * ((Z 57 30) - x0))) + 2)
        refine JialdI (z := Z43 57 ((31 + (3 * ((Z 57 30) - x0))) + 2)) hx43 (show mx_Sn _ _ 75 (mx_iald 76) from sn_216 75) a57 s57 (by omega) rfl ?_
        refine JiastI hx43 (show mx_Sn _ _ 76 (mx_iast 1 77) from sn_216 76) a57 s57 rfl (by omega) (fun Z53 h53 hx53 hE53 => ?_)
        have eq54 : Z43 56 18 = Z 56 18 := ((up_nk hE43 rfl).trans ((up_nk hE33 rfl).trans ((up_nk hE22 rfl).trans (up_ni hE1 (by decide)))))
        have hG53 := GI_up57 hG43 hE53 (show (-2147483648) ≤ Z43 57 ((31 + (3 * ((Z 57 30) - x0))) + 2) ∧ Z43 57 ((31 + (3 * ((Z 57 30) - x0))) + 2) ≤ 2147483647 by omega) (show f57 ((29) % 962) (Z43 57 ((31 + (3 * ((Z 57 30) - x0))) + 2)) by first | exact f57_m0 (by assumption) (by omega) (by omega) | exact f57_m1 (by assumption) (by omega) (by omega) | exact f57_m2 | (have hq := GI_ex hG43 57 ((31 + (3 * ((Z 57 30) - x0))) + 2); replace hq : f57 (((31 + (3 * ((Z 57 30) - x0))) + 2) % 962) (Z43 57 ((31 + (3 * ((Z 57 30) - x0))) + 2)) := hq; rw [Int.emod_eq_of_lt (a := ((31 + (3 * ((Z 57 30) - x0))) + 2)) (by omega) (by omega)] at hq; show f57 29 (Z43 57 ((31 + (3 * ((Z 57 30) - x0))) + 2)); unfold f57 at hq; unfold f57; omega) | assumption | (unfold f57; omega) | (unfold f57 at *; omega)) (by omega) (by omega)
        refine Jiinc (z := 2) (cz := 1) (ls2 := [some (.ref 56), some (xI x0), some (xI 3)]) (show mx_Sn _ _ 77 (mx_iinc 2 1 80) from sn_216 77) rfl rfl rfl rfl ?_
        refine mx_J.step (sn_216 80) (fun _ _ => rfl) ?_
        refine mx_J.step (sn_216 44) (fun _ _ => rfl) ?_
        refine JcI (z := 3) (show mx_Sn _ _ 45 (mx_const (.int 3) 46) from sn_216 45) rfl ?_
        refine Jicmp_ge (show mx_Sn _ _ 46 (mx_icmp_ge 83 49) from sn_216 46) (by omega) (by omega) (fun q55 => ?_) (fun q55 => absurd q55 (by omega))
        refine mx_J.step (sn_216 83) (fun _ _ => rfl) ?_
        refine JgetR (g := 1) (b := 57) hx53 (show mx_Sn _ _ 84 (mx_getf 12 1 87) from sn_216 84) a56 s56 rfl rfl (hG53.prr 56 1 rfl) ?_
        refine JcI (z := 30) (show mx_Sn _ _ 87 (mx_const (.int 30) 89) from sn_216 87) rfl ?_
        refine JialdI (z := (Z 57 30) - x0) hx53 (show mx_Sn _ _ 89 (mx_iald 90) from sn_216 89) a57 s57 (by omega) ((up_ni hE53 (by decide)).trans ((up_ni hE43 (by decide)).trans ((up_ni hE33 (by decide)).trans (up_at hE22)))) ?_
        have eq57 : Z53 57 1 = Z 57 1 := ((up_ni hE53 (by decide)).trans ((up_ni hE43 (by decide)).trans ((up_ni hE33 (by decide)).trans ((up_ni hE22 (by decide)).trans (up_nk hE1 rfl)))))
        have b58 : 0 ≤ Z 57 1 ∧ Z 57 1 ≤ 18 := by have hq := GI_ex hG 57 1; replace hq : f57 (1 % 962) (Z 57 1) := hq; unfold f57 at hq; omega
        have b59 : (-2147483648) ≤ Z 57 1 ∧ Z 57 1 ≤ 2147483647 := hG.pr 57 1
        have eq60 : Z53 57 963 = Z 57 963 := ((up_ni hE53 (by decide)).trans ((up_ni hE43 (by decide)).trans ((up_ni hE33 (by decide)).trans ((up_ni hE22 (by decide)).trans (up_nk hE1 rfl)))))
        have b61 : 0 ≤ Z 57 963 ∧ Z 57 963 ≤ 18 := by have hq := GI_ex hG 57 963; replace hq : f57 (963 % 962) (Z 57 963) := hq; unfold f57 at hq; omega
        have b62 : (-2147483648) ≤ Z 57 963 ∧ Z 57 963 ≤ 2147483647 := hG.pr 57 963
        have eq63 : Z53 57 1925 = Z 57 1925 := ((up_ni hE53 (by decide)).trans ((up_ni hE43 (by decide)).trans ((up_ni hE33 (by decide)).trans ((up_ni hE22 (by decide)).trans (up_nk hE1 rfl)))))
        have b64 : 0 ≤ Z 57 1925 ∧ Z 57 1925 ≤ 18 := by have hq := GI_ex hG 57 1925; replace hq : f57 (1925 % 962) (Z 57 1925) := hq; unfold f57 at hq; omega
        have b65 : (-2147483648) ≤ Z 57 1925 ∧ Z 57 1925 ≤ 2147483647 := hG.pr 57 1925
        have eq66 : Z53 57 1 = Z 57 1 := ((up_ni hE53 (by decide)).trans ((up_ni hE43 (by decide)).trans ((up_ni hE33 (by decide)).trans ((up_ni hE22 (by decide)).trans (up_nk hE1 rfl)))))
        have eq67 : Z53 57 963 = Z 57 963 := ((up_ni hE53 (by decide)).trans ((up_ni hE43 (by decide)).trans ((up_ni hE33 (by decide)).trans ((up_ni hE22 (by decide)).trans (up_nk hE1 rfl)))))
        have eq68 : Z53 57 1925 = Z 57 1925 := ((up_ni hE53 (by decide)).trans ((up_ni hE43 (by decide)).trans ((up_ni hE33 (by decide)).trans ((up_ni hE22 (by decide)).trans (up_nk hE1 rfl)))))
        exact mx_J.ret (sn_216 90) (fun _ _ => rfl) (hP ((Z 57 30) - x0) Z53 h53 hx53 hG53 (fr_tr (M := [(56, 0), (57, (-1))]) (fr_tr (M := [(56, 0), (57, (-1))]) (fr_tr (M := [(56, 0), (57, (-1))]) (fr_tr (M := [(56, 0), (57, (-1))]) (fr_tr (M := [(56, 0), (57, (-1))]) fr_rf (fr_up hE1) (M1 := []) rfl rfl) (fr_ua hE22) rfl rfl) (fr_ua hE33) rfl rfl) (fr_ua hE43) rfl rfl) (fr_ua hE53) rfl rfl) (by omega))
      · skip
        exact c28 
theorem ct_216_56 {l : Launch} {D : va_G} {b0 : Nat} {ad : Nat → Nat} {Hb : Heap} {tau : Nat → Int64} {d n s : Nat} {S : Nat → xS} {Z : xZ} {h : mx_H} (hx : XH n s S Z h) (hG : GI n S Z)  {x0 : Int} (p0 : (-2147483648) ≤ x0 ∧ x0 ≤ 2147483647) : ∃ (z : Int) (Z' : xZ) (h' : mx_H), mx_Ca (tB l D b0 ad Hb tau) (d + 2) 216 [.ref 56, xI x0] h (some (xI z), h') ∧ XH n s S Z' h' ∧ GI n S Z' ∧ fr' [(56, 0), (57, (-1))] Z Z' ∧ ((-3) ≤ z ∧ z ≤ 10 ∧ (Z' 57 1 = Z 57 1 ∧ Z' 57 963 = Z 57 963 ∧ Z' 57 1925 = Z 57 1925)) := by
  obtain ⟨r, hca, z, Z', h', e, q⟩ := Jmt (B := tB l D b0 ad Hb tau) (M := mt_216) (mi := 216) (as := [.ref 56, xI x0]) (d := d + 1) (ls := [some (.ref 56), some (xI x0), none]) rfl rfl rfl rfl rfl rfl (cw_216_56 (l := l) (D := D) (b0 := b0) (ad := ad) (Hb := Hb) (tau := tau) (d := d) (Post := fun r => ∃ (z : Int) (Z' : xZ) (h' : mx_H), r = (some (xI z), h') ∧ XH n s S Z' h' ∧ GI n S Z' ∧ fr' [(56, 0), (57, (-1))] Z Z' ∧ ((-3) ≤ z ∧ z ≤ 10 ∧ (Z' 57 1 = Z 57 1 ∧ Z' 57 963 = Z 57 963 ∧ Z' 57 1925 = Z 57 1925))) hx hG p0 (fun z Z' h' q1 q2 q3 q4 => ⟨z, Z', h', rfl, q1, q2, q3, q4⟩))
  subst e; exact ⟨z, Z', h', hca, q⟩
set_option maxRecDepth 100000 in
theorem cw_217_56 {l : Launch} {D : va_G} {b0 : Nat} {ad : Nat → Nat} {Hb : Heap} {tau : Nat → Int64} {d n s : Nat} {S : Nat → xS} {Z : xZ} {h : mx_H} {Post : mx_R → Prop} (hx : XH n s S Z h) (hG : GI n S Z)  {x0 : Int} (p0 : (-9223372036854775808) ≤ x0 ∧ x0 ≤ 9223372036854775807) (hP : ∀ z : Int, 0 ≤ z ∧ z ≤ 2 ∧ (z = 0 → ((0 ≤ x0 ∧ x0 ≤ 18) ∨ (20 ≤ x0 ∧ x0 ≤ 29) ∨ (1000 ≤ x0 ∧ x0 ≤ 2999 ∧ 1 ≤ (x0 - 1000) / 100 ∧ 1 ≤ x0 % 100 ∧ x0 % 100 ≤ (x0 - 1000) / 100 - 1 ∧ (x0 - 1000) / 100 ≤ 18 ∧ hv Z (Z 57 27) ((x0 - 1000) / 100) = 1) ∨ (3000 ≤ x0 ∧ x0 ≤ 4999 ∧ 1 ≤ (x0 - 3000) / 100 ∧ (x0 - 3000) / 100 ≤ 18 ∧ 1 ≤ x0 % 100 ∧ x0 % 100 ≤ 18 ∧ hv Z (Z 57 27) ((x0 - 3000) / 100) = 1 ∧ hv Z (Z 57 27) (x0 % 100) = 1))) → Post (some (xI z), h)) : mx_J (tB l D b0 ad Hb tau) mt_217 (d + 3) 0 [some (.ref 56), some (xL x0), none] [] h Post := by
    have a56 : 56 < n := lt83 (GI_n hG) rfl
    have s56 : S 56 = .inl (12, [0, 2, 2, 2, 2, 0, 0, 0, 0, 0, 0, 0, 0, 0, 0, 2, 2, 2, 0, 2, 2, 2, 0, 0, 2, 2, 2, 2, 2, 2, 0, 0, 2, 2, 2, 2, 2, 2, 2, 2, 2, 2]) := GI_s hG 56 rfl
    have a57 : 57 < n := lt83 (GI_n hG) rfl
    have s57 : S 57 = .inr (.int, 2886, 0) := GI_s hG 57 rfl
    refine mx_J.step (sn_217 0) (fun _ _ => rfl) ?_
    refine JcL (z := 0) (show mx_Sn _ _ 1 (mx_const (.long 0) 2) from sn_217 1) rfl ?_
    refine JcL (z := 18) (show mx_Sn _ _ 2 (mx_const (.long 18) 5) from sn_217 2) rfl ?_
    obtain ⟨z1, hc1, b1⟩ := ct_154_ (d := d + 2) (l := l) (D := D) (b0 := b0) (ad := ad) (Hb := Hb) (tau := tau) hx hG (show (-9223372036854775808) ≤ x0 ∧ x0 ≤ 9223372036854775807 by omega) (show (-9223372036854775808) ≤ 0 ∧ 0 ≤ 9223372036854775807 by omega) (show (-9223372036854775808) ≤ 18 ∧ 18 ≤ 9223372036854775807 by omega)
    refine Jcs (show mx_Sn _ _ 5 (mx_calls 154 3 8) from sn_217 5) hc1 rfl rfl rfl ?_
    refine Jif_eq (show mx_Sn _ _ 8 (mx_if_eq 33 11) from sn_217 8) (by omega) (fun q2 => ?_) (fun q2 => ?_)
    · skip
      refine mx_J.step (sn_217 33) (fun _ _ => rfl) ?_
      refine JcL (z := 20) (show mx_Sn _ _ 34 (mx_const (.long 20) 37) from sn_217 34) rfl ?_
      refine JcL (z := 29) (show mx_Sn _ _ 37 (mx_const (.long 29) 40) from sn_217 37) rfl ?_
      obtain ⟨z3, hc3, b3⟩ := ct_154_ (d := d + 2) (l := l) (D := D) (b0 := b0) (ad := ad) (Hb := Hb) (tau := tau) hx hG (show (-9223372036854775808) ≤ x0 ∧ x0 ≤ 9223372036854775807 by omega) (show (-9223372036854775808) ≤ 20 ∧ 20 ≤ 9223372036854775807 by omega) (show (-9223372036854775808) ≤ 29 ∧ 29 ≤ 9223372036854775807 by omega)
      refine Jcs (show mx_Sn _ _ 40 (mx_calls 154 3 43) from sn_217 40) hc3 rfl rfl rfl ?_
      refine Jif_eq (show mx_Sn _ _ 43 (mx_if_eq 48 46) from sn_217 43) (by omega) (fun q4 => ?_) (fun q4 => ?_)
      · skip
        refine mx_J.step (sn_217 48) (fun _ _ => rfl) ?_
        refine JcL (z := 1000) (show mx_Sn _ _ 49 (mx_const (.long 1000) 52) from sn_217 49) rfl ?_
        refine JcL (z := 2999) (show mx_Sn _ _ 52 (mx_const (.long 2999) 55) from sn_217 52) rfl ?_
        obtain ⟨z5, hc5, b5⟩ := ct_154_ (d := d + 2) (l := l) (D := D) (b0 := b0) (ad := ad) (Hb := Hb) (tau := tau) hx hG (show (-9223372036854775808) ≤ x0 ∧ x0 ≤ 9223372036854775807 by omega) (show (-9223372036854775808) ≤ 1000 ∧ 1000 ≤ 9223372036854775807 by omega) (show (-9223372036854775808) ≤ 2999 ∧ 2999 ≤ 9223372036854775807 by omega)
        refine Jcs (show mx_Sn _ _ 55 (mx_calls 154 3 58) from sn_217 55) hc5 rfl rfl rfl ?_
        refine Jif_eq (show mx_Sn _ _ 58 (mx_if_eq 80 61) from sn_217 58) (by omega) (fun q6 => ?_) (fun q6 => ?_)
        · skip
          refine mx_J.step (sn_217 80) (fun _ _ => rfl) ?_
          refine JcL (z := 3000) (show mx_Sn _ _ 81 (mx_const (.long 3000) 84) from sn_217 81) rfl ?_
          refine JcL (z := 4999) (show mx_Sn _ _ 84 (mx_const (.long 4999) 87) from sn_217 84) rfl ?_
          obtain ⟨z7, hc7, b7⟩ := ct_154_ (d := d + 2) (l := l) (D := D) (b0 := b0) (ad := ad) (Hb := Hb) (tau := tau) hx hG (show (-9223372036854775808) ≤ x0 ∧ x0 ≤ 9223372036854775807 by omega) (show (-9223372036854775808) ≤ 3000 ∧ 3000 ≤ 9223372036854775807 by omega) (show (-9223372036854775808) ≤ 4999 ∧ 4999 ≤ 9223372036854775807 by omega)
          refine Jcs (show mx_Sn _ _ 87 (mx_calls 154 3 90) from sn_217 87) hc7 rfl rfl rfl ?_
          have c115 : ∀ (k8_0 : Int), 0 ≤ k8_0 ∧ k8_0 ≤ 2 → (k8_0 = 0 → 3000 ≤ x0 ∧ x0 ≤ 4999 ∧ 1 ≤ (x0 - 3000) / 100 ∧ (x0 - 3000) / 100 ≤ 18 ∧ 1 ≤ x0 % 100 ∧ x0 % 100 ≤ 18 ∧ hv Z (Z 57 27) ((x0 - 3000) / 100) = 1 ∧ hv Z (Z 57 27) (x0 % 100) = 1) → mx_J (tB l D b0 ad Hb tau) mt_217 (d + 3) 115 [some (.ref 56), some (xL x0), none] [xI k8_0] h Post := by
            intro k8_0 f8_0 f8_1
            have b9 := GI_st hG 27
            have b10 : 0 ≤ Z 56 18 ∧ Z 56 18 ≤ 385 := hG.pr 56 18
            have b11 : 0 ≤ Z 57 27 ∧ Z 57 27 ≤ 384 := by have hq := GI_ex hG 57 27; replace hq : f57 (27 % 962) (Z 57 27) := hq; unfold f57 at hq; omega
            have b12 : (-2147483648) ≤ Z 57 27 ∧ Z 57 27 ≤ 2147483647 := hG.pr 57 27
            exact mx_J.ret (sn_217 115) (fun _ _ => rfl) (hP k8_0 (by omega))
          refine Jif_eq (show mx_Sn _ _ 90 (mx_if_eq 114 93) from sn_217 90) (by omega) (fun q13 => ?_) (fun q13 => ?_)
          · skip
            refine JcI (z := 1) (show mx_Sn _ _ 114 (mx_const (.int 1) 115) from sn_217 114) rfl ?_
            exact c115 1 (by omega) (by omega)
          · skip
            refine mx_J.step (sn_217 93) (fun _ _ => rfl) ?_
            refine mx_J.step (sn_217 94) (fun _ _ => rfl) ?_
            refine JcL (z := 3000) (show mx_Sn _ _ 95 (mx_const (.long 3000) 98) from sn_217 95) rfl ?_
            refine Jlsub (show mx_Sn _ _ 98 (mx_lsub 99) from sn_217 98) ?_
            refine Jl2i (show mx_Sn _ _ 99 (mx_l2i 100) from sn_217 99) ?_
            refine JcI (z := 100) (show mx_Sn _ _ 100 (mx_const (.int 100) 102) from sn_217 100) rfl ?_
            refine Jidiv (show mx_Sn _ _ 102 (mx_idiv 103) from sn_217 102) (by omega) (by omega) ?_
            refine mx_J.step (sn_217 103) (fun _ _ => rfl) ?_
            refine Jl2i (show mx_Sn _ _ 104 (mx_l2i 105) from sn_217 104) ?_
            refine JcI (z := 100) (show mx_Sn _ _ 105 (mx_const (.int 100) 107) from sn_217 105) rfl ?_
            refine Jirem (show mx_Sn _ _ 107 (mx_irem 108) from sn_217 107) (by omega) (by omega) ?_
            have b15 := GI_st hG 27
            have b16 : 0 ≤ Z 56 18 ∧ Z 56 18 ≤ 385 := hG.pr 56 18
            have b17 : 0 ≤ Z 57 27 ∧ Z 57 27 ≤ 384 := by have hq := GI_ex hG 57 27; replace hq : f57 (27 % 962) (Z 57 27) := hq; unfold f57 at hq; omega
            have b18 : (-2147483648) ≤ Z 57 27 ∧ Z 57 27 ≤ 2147483647 := hG.pr 57 27
            obtain ⟨z14, hc14, b14⟩ := ct_212_56 (d := d + 0) (l := l) (D := D) (b0 := b0) (ad := ad) (Hb := Hb) (tau := tau) hx hG (show (-2147483648) ≤ (x0 - 3000) / 100 ∧ (x0 - 3000) / 100 ≤ 2147483647 by omega) (show (-2147483648) ≤ x0 % 100 ∧ x0 % 100 ≤ 2147483647 by omega)
            refine Jcv hx (show mx_Sn _ _ 108 (mx_callv 212 3 12 111) from sn_217 108) a56 s56 hc14 rfl rfl rfl ?_
            refine mx_J.step (sn_217 111) (fun _ _ => rfl) ?_
            exact c115 z14 (by omega) (by omega)
        · skip
          refine mx_J.step (sn_217 61) (fun _ _ => rfl) ?_
          refine mx_J.step (sn_217 62) (fun _ _ => rfl) ?_
          refine JcL (z := 1000) (show mx_Sn _ _ 63 (mx_const (.long 1000) 66) from sn_217 63) rfl ?_
          refine Jlsub (show mx_Sn _ _ 66 (mx_lsub 67) from sn_217 66) ?_
          refine Jl2i (show mx_Sn _ _ 67 (mx_l2i 68) from sn_217 67) ?_
          refine JcI (z := 100) (show mx_Sn _ _ 68 (mx_const (.int 100) 70) from sn_217 68) rfl ?_
          refine Jidiv (show mx_Sn _ _ 70 (mx_idiv 71) from sn_217 70) (by omega) (by omega) ?_
          refine mx_J.step (sn_217 71) (fun _ _ => rfl) ?_
          refine Jl2i (show mx_Sn _ _ 72 (mx_l2i 73) from sn_217 72) ?_
          refine JcI (z := 100) (show mx_Sn _ _ 73 (mx_const (.int 100) 75) from sn_217 73) rfl ?_
          refine Jirem (show mx_Sn _ _ 75 (mx_irem 76) from sn_217 75) (by omega) (by omega) ?_
          have b20 := GI_st hG 27
          have b21 : 0 ≤ Z 56 18 ∧ Z 56 18 ≤ 385 := hG.pr 56 18
          have b22 : 0 ≤ Z 57 27 ∧ Z 57 27 ≤ 384 := by have hq := GI_ex hG 57 27; replace hq : f57 (27 % 962) (Z 57 27) := hq; unfold f57 at hq; omega
          have b23 : (-2147483648) ≤ Z 57 27 ∧ Z 57 27 ≤ 2147483647 := hG.pr 57 27
          obtain ⟨z19, hc19, b19⟩ := ct_209_56 (d := d + 0) (l := l) (D := D) (b0 := b0) (ad := ad) (Hb := Hb) (tau := tau) hx hG (show (-2147483648) ≤ (x0 - 1000) / 100 ∧ (x0 - 1000) / 100 ≤ 2147483647 by omega) (show (-2147483648) ≤ x0 % 100 ∧ x0 % 100 ≤ 2147483647 by omega)
          refine Jcv hx (show mx_Sn _ _ 76 (mx_callv 209 3 12 79) from sn_217 76) a56 s56 hc19 rfl rfl rfl ?_
          exact mx_J.ret (sn_217 79) (fun _ _ => rfl) (hP z19 (by omega))
      · skip
        refine JcI (z := 0) (show mx_Sn _ _ 46 (mx_const (.int 0) 47) from sn_217 46) rfl ?_
        have b24 := GI_st hG 27
        have b25 : 0 ≤ Z 56 18 ∧ Z 56 18 ≤ 385 := hG.pr 56 18
        have b26 : 0 ≤ Z 57 27 ∧ Z 57 27 ≤ 384 := by have hq := GI_ex hG 57 27; replace hq : f57 (27 % 962) (Z 57 27) := hq; unfold f57 at hq; omega
        have b27 : (-2147483648) ≤ Z 57 27 ∧ Z 57 27 ≤ 2147483647 := hG.pr 57 27
        exact mx_J.ret (sn_217 47) (fun _ _ => rfl) (hP 0 (by omega))
    · skip
      refine mx_J.step (sn_217 11) (fun _ _ => rfl) ?_
      refine mx_J.step (sn_217 12) (fun _ _ => rfl) ?_
      refine JgetR (g := 1) (b := 57) hx (show mx_Sn _ _ 13 (mx_getf 12 1 16) from sn_217 13) a56 s56 rfl rfl (hG.prr 56 1 rfl) ?_
      refine JcI (z := 27) (show mx_Sn _ _ 16 (mx_const (.int 27) 18) from sn_217 16) rfl ?_
      have b29 := GI_st hG 27
      have b30 : 0 ≤ Z 56 18 ∧ Z 56 18 ≤ 385 := hG.pr 56 18
      have b31 : 0 ≤ Z 57 27 ∧ Z 57 27 ≤ 384 := by have hq := GI_ex hG 57 27; replace hq : f57 (27 % 962) (Z 57 27) := hq; unfold f57 at hq; omega
      have b32 : (-2147483648) ≤ Z 57 27 ∧ Z 57 27 ≤ 2147483647 := hG.pr 57 27
      refine JialdI (z := Z 57 27) hx (show mx_Sn _ _ 18 (mx_iald 19) from sn_217 18) a57 s57 (by omega) rfl ?_
      refine mx_J.step (sn_217 19) (fun _ _ => rfl) ?_
      refine Jl2i (show mx_Sn _ _ 20 (mx_l2i 21) from sn_217 20) ?_
      obtain ⟨z33, hc33, b33⟩ := ct_197_56 (d := d + 0) (l := l) (D := D) (b0 := b0) (ad := ad) (Hb := Hb) (tau := tau) hx hG (show 0 ≤ Z 57 27 ∧ Z 57 27 ≤ 384 by omega) (show (-2147483648) ≤ x0 ∧ x0 ≤ 2147483647 by omega)
      refine Jcv hx (show mx_Sn _ _ 21 (mx_callv 197 3 12 24) from sn_217 21) a56 s56 hc33 rfl rfl rfl ?_
      have c32 : ∀ (k34_0 : Int), 0 ≤ k34_0 ∧ k34_0 ≤ 2 → (k34_0 = 0 ∨ k34_0 = 2) → mx_J (tB l D b0 ad Hb tau) mt_217 (d + 3) 32 [some (.ref 56), some (xL x0), none] [xI k34_0] h Post := by
        intro k34_0 f34_0 f34_1
        exact mx_J.ret (sn_217 32) (fun _ _ => rfl) (hP k34_0 (by omega))
      refine Jif_eq (show mx_Sn _ _ 24 (mx_if_eq 31 27) from sn_217 24) (by omega) (fun q35 => ?_) (fun q35 => ?_)
      · skip
        refine JcI (z := 2) (show mx_Sn _ _ 31 (mx_const (.int 2) 32) from sn_217 31) rfl ?_
        exact c32 2 (by omega) (by omega)
      · skip
        refine JcI (z := 0) (show mx_Sn _ _ 27 (mx_const (.int 0) 28) from sn_217 27) rfl ?_
        refine mx_J.step (sn_217 28) (fun _ _ => rfl) ?_
        exact c32 0 (by omega) (by omega)
theorem ct_217_56 {l : Launch} {D : va_G} {b0 : Nat} {ad : Nat → Nat} {Hb : Heap} {tau : Nat → Int64} {d n s : Nat} {S : Nat → xS} {Z : xZ} {h : mx_H} (hx : XH n s S Z h) (hG : GI n S Z)  {x0 : Int} (p0 : (-9223372036854775808) ≤ x0 ∧ x0 ≤ 9223372036854775807) : ∃ z : Int, mx_Ca (tB l D b0 ad Hb tau) (d + 4) 217 [.ref 56, xL x0] h (some (xI z), h) ∧ (0 ≤ z ∧ z ≤ 2 ∧ (z = 0 → ((0 ≤ x0 ∧ x0 ≤ 18) ∨ (20 ≤ x0 ∧ x0 ≤ 29) ∨ (1000 ≤ x0 ∧ x0 ≤ 2999 ∧ 1 ≤ (x0 - 1000) / 100 ∧ 1 ≤ x0 % 100 ∧ x0 % 100 ≤ (x0 - 1000) / 100 - 1 ∧ (x0 - 1000) / 100 ≤ 18 ∧ hv Z (Z 57 27) ((x0 - 1000) / 100) = 1) ∨ (3000 ≤ x0 ∧ x0 ≤ 4999 ∧ 1 ≤ (x0 - 3000) / 100 ∧ (x0 - 3000) / 100 ≤ 18 ∧ 1 ≤ x0 % 100 ∧ x0 % 100 ≤ 18 ∧ hv Z (Z 57 27) ((x0 - 3000) / 100) = 1 ∧ hv Z (Z 57 27) (x0 % 100) = 1)))) := by
  obtain ⟨r, hca, z, e, hp⟩ := Jmt (B := tB l D b0 ad Hb tau) (M := mt_217) (mi := 217) (as := [.ref 56, xL x0]) (d := d + 3) (ls := [some (.ref 56), some (xL x0), none]) rfl rfl rfl rfl rfl rfl (cw_217_56 (l := l) (D := D) (b0 := b0) (ad := ad) (Hb := Hb) (tau := tau) (d := d) (Post := fun r => ∃ z : Int, r = (some (xI z), h) ∧ (0 ≤ z ∧ z ≤ 2 ∧ (z = 0 → ((0 ≤ x0 ∧ x0 ≤ 18) ∨ (20 ≤ x0 ∧ x0 ≤ 29) ∨ (1000 ≤ x0 ∧ x0 ≤ 2999 ∧ 1 ≤ (x0 - 1000) / 100 ∧ 1 ≤ x0 % 100 ∧ x0 % 100 ≤ (x0 - 1000) / 100 - 1 ∧ (x0 - 1000) / 100 ≤ 18 ∧ hv Z (Z 57 27) ((x0 - 1000) / 100) = 1) ∨ (3000 ≤ x0 ∧ x0 ≤ 4999 ∧ 1 ≤ (x0 - 3000) / 100 ∧ (x0 - 3000) / 100 ≤ 18 ∧ 1 ≤ x0 % 100 ∧ x0 % 100 ≤ 18 ∧ hv Z (Z 57 27) ((x0 - 3000) / 100) = 1 ∧ hv Z (Z 57 27) (x0 % 100) = 1))))) hx hG p0 (fun z hz => ⟨z, rfl, hz⟩))
  subst e; exact ⟨z, hca, hp⟩
set_option maxRecDepth 100000 in
theorem cw_218_56 {l : Launch} {D : va_G} {b0 : Nat} {ad : Nat → Nat} {Hb : Heap} {tau : Nat → Int64} {d n s : Nat} {S : Nat → xS} {Z : xZ} {h : mx_H} {Post : mx_R → Prop} (hx : XH n s S Z h) (hG : GI n S Z)  {x0 : Int} (p0 : 0 ≤ x0 ∧ x0 ≤ 4999) (k0 : ((0 ≤ x0 ∧ x0 ≤ 18) ∨ (20 ≤ x0 ∧ x0 ≤ 29) ∨ (1000 ≤ x0 ∧ x0 ≤ 2999 ∧ 1 ≤ (x0 - 1000) / 100 ∧ 1 ≤ x0 % 100 ∧ x0 % 100 ≤ (x0 - 1000) / 100 - 1 ∧ (x0 - 1000) / 100 ≤ 18 ∧ hv Z (Z 57 27) ((x0 - 1000) / 100) = 1) ∨ (3000 ≤ x0 ∧ x0 ≤ 4999 ∧ 1 ≤ (x0 - 3000) / 100 ∧ (x0 - 3000) / 100 ≤ 18 ∧ 1 ≤ x0 % 100 ∧ x0 % 100 ≤ 18 ∧ hv Z (Z 57 27) ((x0 - 3000) / 100) = 1 ∧ hv Z (Z 57 27) (x0 % 100) = 1))) (hP : ∀ (Z' : xZ) (h' : mx_H), XH n s S Z' h' → GI n S Z' → fr' [(57, (-1)), (62, (-1)), (64, (-1)), (65, (-1))] Z Z' → (Z' 57 1 = Z 57 1 ∧ Z' 57 963 = Z 57 963 ∧ Z' 57 1925 = Z 57 1925) → Post (none, h')) : mx_J (tB l D b0 ad Hb tau) mt_218 (d + 6) 0 [some (.ref 56), some (xI x0)] [] h Post := by
    have a56 : 56 < n := lt83 (GI_n hG) rfl
    have s56 : S 56 = .inl (12, [0, 2, 2, 2, 2, 0, 0, 0, 0, 0, 0, 0, 0, 0, 0, 2, 2, 2, 0, 2, 2, 2, 0, 0, 2, 2, 2, 2, 2, 2, 0, 0, 2, 2, 2, 2, 2, 2, 2, 2, 2, 2]) := GI_s hG 56 rfl
    have a57 : 57 < n := lt83 (GI_n hG) rfl
    have s57 : S 57 = .inr (.int, 2886, 0) := GI_s hG 57 rfl
    refine mx_J.step (sn_218 0) (fun _ _ => rfl) ?_
    refine JcI (z := 18) (show mx_Sn _ _ 1 (mx_const (.int 18) 3) from sn_218 1) rfl ?_
    have c76 : ∀  (Z2 : xZ) (h2 : mx_H), (Z2 57 1 = Z 57 1 ∧ Z2 57 963 = Z 57 963 ∧ Z2 57 1925 = Z 57 1925) → XH n s S Z2 h2 → GI n S Z2 → fr' [(57, (-1)), (62, (-1)), (64, (-1)), (65, (-1))] Z Z2 → mx_J (tB l D b0 ad Hb tau) mt_218 (d + 6) 76 [some (.ref 56), some (xI x0)] [] h2 Post := by
      intro Z2 h2 f1_0 hx2 hG2 hf2
      have b3 : 0 ≤ Z2 57 1 ∧ Z2 57 1 ≤ 18 := by have hq := GI_ex hG2 57 1; replace hq : f57 (1 % 962) (Z2 57 1) := hq; unfold f57 at hq; omega
      have b4 : (-2147483648) ≤ Z2 57 1 ∧ Z2 57 1 ≤ 2147483647 := hG2.pr 57 1
      have b5 : 0 ≤ Z2 57 963 ∧ Z2 57 963 ≤ 18 := by have hq := GI_ex hG2 57 963; replace hq : f57 (963 % 962) (Z2 57 963) := hq; unfold f57 at hq; omega
      have b6 : (-2147483648) ≤ Z2 57 963 ∧ Z2 57 963 ≤ 2147483647 := hG2.pr 57 963
      have b7 : 0 ≤ Z2 57 1925 ∧ Z2 57 1925 ≤ 18 := by have hq := GI_ex hG2 57 1925; replace hq : f57 (1925 % 962) (Z2 57 1925) := hq; unfold f57 at hq; omega
      have b8 : (-2147483648) ≤ Z2 57 1925 ∧ Z2 57 1925 ≤ 2147483647 := hG2.pr 57 1925
      have b9 := GI_st hG2 27
      have eq10 : Z2 56 18 = Z 56 18 := (hf2 56 18 rfl)
      have b11 : 0 ≤ Z 56 18 ∧ Z 56 18 ≤ 385 := hG.pr 56 18
      have b12 : 0 ≤ Z2 57 27 ∧ Z2 57 27 ≤ 384 := by have hq := GI_ex hG2 57 27; replace hq : f57 (27 % 962) (Z2 57 27) := hq; unfold f57 at hq; omega
      have b13 : (-2147483648) ≤ Z2 57 27 ∧ Z2 57 27 ≤ 2147483647 := hG2.pr 57 27
      have eq14 : hv Z2 (Z2 57 27) ((x0 - 1000) / 100) = hv Z (Z2 57 27) ((x0 - 1000) / 100) := (hv_c (fun i => hf2 61 i rfl))
      have eq15 : hv Z2 (Z2 57 27) ((x0 - 3000) / 100) = hv Z (Z2 57 27) ((x0 - 3000) / 100) := (hv_c (fun i => hf2 61 i rfl))
      have eq16 : hv Z2 (Z2 57 27) (x0 % 100) = hv Z (Z2 57 27) (x0 % 100) := (hv_c (fun i => hf2 61 i rfl))
      exact mx_J.ret (sn_218 76) (fun _ _ => rfl) (hP Z2 h2 hx2 hG2 (fr_tr (M := [(57, (-1)), (62, (-1)), (64, (-1)), (65, (-1))]) fr_rf (hf2) (M1 := []) rfl rfl) (by omega))
    refine Jicmp_gt (show mx_Sn _ _ 3 (mx_icmp_gt 14 6) from sn_218 3) (by omega) (by omega) (fun q17 => ?_) (fun q17 => ?_)
    · skip
      refine mx_J.step (sn_218 14) (fun _ _ => rfl) ?_
      refine JcI (z := 30) (show mx_Sn _ _ 15 (mx_const (.int 30) 17) from sn_218 15) rfl ?_
      refine Jicmp_ge (show mx_Sn _ _ 17 (mx_icmp_ge 34 20) from sn_218 17) (by omega) (by omega) (fun q18 => ?_) (fun q18 => ?_)
      · skip
        refine mx_J.step (sn_218 34) (fun _ _ => rfl) ?_
        refine JcI (z := 3000) (show mx_Sn _ _ 35 (mx_const (.int 3000) 38) from sn_218 35) rfl ?_
        refine Jicmp_ge (show mx_Sn _ _ 38 (mx_icmp_ge 60 41) from sn_218 38) (by omega) (by omega) (fun q19 => ?_) (fun q19 => ?_)
        · skip
          refine mx_J.step (sn_218 60) (fun _ _ => rfl) ?_
          refine mx_J.step (sn_218 61) (fun _ _ => rfl) ?_
          refine JcI (z := 3000) (show mx_Sn _ _ 62 (mx_const (.int 3000) 65) from sn_218 62) rfl ?_
          refine Jisub (show mx_Sn _ _ 65 (mx_isub 66) from sn_218 65) ?_
          refine JcI (z := 100) (show mx_Sn _ _ 66 (mx_const (.int 100) 68) from sn_218 66) rfl ?_
          refine Jidiv (show mx_Sn _ _ 68 (mx_idiv 69) from sn_218 68) (by omega) (by omega) ?_
          refine mx_J.step (sn_218 69) (fun _ _ => rfl) ?_
          refine JcI (z := 100) (show mx_Sn _ _ 70 (mx_const (.int 100) 72) from sn_218 70) rfl ?_
          refine Jirem (show mx_Sn _ _ 72 (mx_irem 73) from sn_218 72) (by omega) (by omega) ?_
          have b21 := GI_st hG 27
          have b22 : 0 ≤ Z 56 18 ∧ Z 56 18 ≤ 385 := hG.pr 56 18
          have b23 : 0 ≤ Z 57 27 ∧ Z 57 27 ≤ 384 := by have hq := GI_ex hG 57 27; replace hq : f57 (27 % 962) (Z 57 27) := hq; unfold f57 at hq; omega
          have b24 : (-2147483648) ≤ Z 57 27 ∧ Z 57 27 ≤ 2147483647 := hG.pr 57 27
          have b25 : 0 ≤ Z 57 1 ∧ Z 57 1 ≤ 18 := by have hq := GI_ex hG 57 1; replace hq : f57 (1 % 962) (Z 57 1) := hq; unfold f57 at hq; omega
          have b26 : (-2147483648) ≤ Z 57 1 ∧ Z 57 1 ≤ 2147483647 := hG.pr 57 1
          have b27 : 0 ≤ Z 57 963 ∧ Z 57 963 ≤ 18 := by have hq := GI_ex hG 57 963; replace hq : f57 (963 % 962) (Z 57 963) := hq; unfold f57 at hq; omega
          have b28 : (-2147483648) ≤ Z 57 963 ∧ Z 57 963 ≤ 2147483647 := hG.pr 57 963
          have b29 : 0 ≤ Z 57 1925 ∧ Z 57 1925 ≤ 18 := by have hq := GI_ex hG 57 1925; replace hq : f57 (1925 % 962) (Z 57 1925) := hq; unfold f57 at hq; omega
          have b30 : (-2147483648) ≤ Z 57 1925 ∧ Z 57 1925 ≤ 2147483647 := hG.pr 57 1925
          obtain ⟨Z20, h20, hc20, hx20, hG20, hf20, b20⟩ := ct_213_56 (d := d + 3) (l := l) (D := D) (b0 := b0) (ad := ad) (Hb := Hb) (tau := tau) hx hG (show 1 ≤ (x0 - 3000) / 100 ∧ (x0 - 3000) / 100 ≤ 18 by omega) (show 1 ≤ x0 % 100 ∧ x0 % 100 ≤ 18 by omega) (show hv Z (Z 57 27) ((x0 - 3000) / 100) = 1 by omega) (show hv Z (Z 57 27) (x0 % 100) = 1 by omega)
          have b31 : 0 ≤ Z20 57 1 ∧ Z20 57 1 ≤ 18 := by have hq := GI_ex hG20 57 1; replace hq : f57 (1 % 962) (Z20 57 1) := hq; unfold f57 at hq; omega
          have b32 : (-2147483648) ≤ Z20 57 1 ∧ Z20 57 1 ≤ 2147483647 := hG20.pr 57 1
          have b33 : 0 ≤ Z20 57 963 ∧ Z20 57 963 ≤ 18 := by have hq := GI_ex hG20 57 963; replace hq : f57 (963 % 962) (Z20 57 963) := hq; unfold f57 at hq; omega
          have b34 : (-2147483648) ≤ Z20 57 963 ∧ Z20 57 963 ≤ 2147483647 := hG20.pr 57 963
          have b35 : 0 ≤ Z20 57 1925 ∧ Z20 57 1925 ≤ 18 := by have hq := GI_ex hG20 57 1925; replace hq : f57 (1925 % 962) (Z20 57 1925) := hq; unfold f57 at hq; omega
          have b36 : (-2147483648) ≤ Z20 57 1925 ∧ Z20 57 1925 ≤ 2147483647 := hG20.pr 57 1925
          refine Jcv0 hx (show mx_Sn _ _ 73 (mx_callv 213 3 12 76) from sn_218 73) a56 s56 hc20 rfl rfl rfl ?_
          exact c76 Z20 h20 (by omega) hx20 hG20 (fr_tr (M := [(57, (-1)), (62, (-1)), (64, (-1)), (65, (-1))]) fr_rf (hf20) (M1 := []) rfl rfl)
        · skip
          refine mx_J.step (sn_218 41) (fun _ _ => rfl) ?_
          refine mx_J.step (sn_218 42) (fun _ _ => rfl) ?_
          refine JcI (z := 1000) (show mx_Sn _ _ 43 (mx_const (.int 1000) 46) from sn_218 43) rfl ?_
          refine Jisub (show mx_Sn _ _ 46 (mx_isub 47) from sn_218 46) ?_
          refine JcI (z := 100) (show mx_Sn _ _ 47 (mx_const (.int 100) 49) from sn_218 47) rfl ?_
          refine Jidiv (show mx_Sn _ _ 49 (mx_idiv 50) from sn_218 49) (by omega) (by omega) ?_
          refine mx_J.step (sn_218 50) (fun _ _ => rfl) ?_
          refine JcI (z := 100) (show mx_Sn _ _ 51 (mx_const (.int 100) 53) from sn_218 51) rfl ?_
          refine Jirem (show mx_Sn _ _ 53 (mx_irem 54) from sn_218 53) (by omega) (by omega) ?_
          have b38 := GI_st hG 27
          have b39 : 0 ≤ Z 56 18 ∧ Z 56 18 ≤ 385 := hG.pr 56 18
          have b40 : 0 ≤ Z 57 27 ∧ Z 57 27 ≤ 384 := by have hq := GI_ex hG 57 27; replace hq : f57 (27 % 962) (Z 57 27) := hq; unfold f57 at hq; omega
          have b41 : (-2147483648) ≤ Z 57 27 ∧ Z 57 27 ≤ 2147483647 := hG.pr 57 27
          have b42 : 0 ≤ Z 57 1 ∧ Z 57 1 ≤ 18 := by have hq := GI_ex hG 57 1; replace hq : f57 (1 % 962) (Z 57 1) := hq; unfold f57 at hq; omega
          have b43 : (-2147483648) ≤ Z 57 1 ∧ Z 57 1 ≤ 2147483647 := hG.pr 57 1
          have b44 : 0 ≤ Z 57 963 ∧ Z 57 963 ≤ 18 := by have hq := GI_ex hG 57 963; replace hq : f57 (963 % 962) (Z 57 963) := hq; unfold f57 at hq; omega
          have b45 : (-2147483648) ≤ Z 57 963 ∧ Z 57 963 ≤ 2147483647 := hG.pr 57 963
          have b46 : 0 ≤ Z 57 1925 ∧ Z 57 1925 ≤ 18 := by have hq := GI_ex hG 57 1925; replace hq : f57 (1925 % 962) (Z 57 1925) := hq; unfold f57 at hq; omega
          have b47 : (-2147483648) ≤ Z 57 1925 ∧ Z 57 1925 ≤ 2147483647 := hG.pr 57 1925
          obtain ⟨Z37, h37, hc37, hx37, hG37, hf37, b37⟩ := ct_210_56 (d := d + 3) (l := l) (D := D) (b0 := b0) (ad := ad) (Hb := Hb) (tau := tau) hx hG (show 1 ≤ (x0 - 1000) / 100 ∧ (x0 - 1000) / 100 ≤ 18 by omega) (show 1 ≤ x0 % 100 ∧ x0 % 100 ≤ 17 by omega) (show hv Z (Z 57 27) ((x0 - 1000) / 100) = 1 by omega)
          have b48 : 0 ≤ Z37 57 1 ∧ Z37 57 1 ≤ 18 := by have hq := GI_ex hG37 57 1; replace hq : f57 (1 % 962) (Z37 57 1) := hq; unfold f57 at hq; omega
          have b49 : (-2147483648) ≤ Z37 57 1 ∧ Z37 57 1 ≤ 2147483647 := hG37.pr 57 1
          have b50 : 0 ≤ Z37 57 963 ∧ Z37 57 963 ≤ 18 := by have hq := GI_ex hG37 57 963; replace hq : f57 (963 % 962) (Z37 57 963) := hq; unfold f57 at hq; omega
          have b51 : (-2147483648) ≤ Z37 57 963 ∧ Z37 57 963 ≤ 2147483647 := hG37.pr 57 963
          have b52 : 0 ≤ Z37 57 1925 ∧ Z37 57 1925 ≤ 18 := by have hq := GI_ex hG37 57 1925; replace hq : f57 (1925 % 962) (Z37 57 1925) := hq; unfold f57 at hq; omega
          have b53 : (-2147483648) ≤ Z37 57 1925 ∧ Z37 57 1925 ≤ 2147483647 := hG37.pr 57 1925
          refine Jcv0 hx (show mx_Sn _ _ 54 (mx_callv 210 3 12 57) from sn_218 54) a56 s56 hc37 rfl rfl rfl ?_
          refine mx_J.step (sn_218 57) (fun _ _ => rfl) ?_
          exact c76 Z37 h37 (by omega) hx37 hG37 (fr_tr (M := [(57, (-1)), (62, (-1)), (64, (-1)), (65, (-1))]) fr_rf (hf37) (M1 := []) rfl rfl)
      · skip
        refine mx_J.step (sn_218 20) (fun _ _ => rfl) ?_
        refine JgetR (g := 1) (b := 57) hx (show mx_Sn _ _ 21 (mx_getf 12 1 24) from sn_218 21) a56 s56 rfl rfl (hG.prr 56 1 rfl) ?_
        refine JcI (z := 28) (show mx_Sn _ _ 24 (mx_const (.int 28) 26) from sn_218 24) rfl ?_
        refine mx_J.step (sn_218 26) (fun _ _ => rfl) ?_
        refine JcI (z := 20) (show mx_Sn _ _ 27 (mx_const (.int 20) 29) from sn_218 27) rfl ?_
        refine Jisub (show mx_Sn _ _ 29 (mx_isub 30) from sn_218 29) ?_
        refine JiastI hx (show mx_Sn _ _ 30 (mx_iast 1 31) from sn_218 30) a57 s57 rfl (by omega) (fun Z55 h55 hx55 hE55 => ?_)
        have b56 : 0 ≤ Z 56 18 ∧ Z 56 18 ≤ 385 := hG.pr 56 18
        have hG55 := GI_up57 hG hE55 (show (-2147483648) ≤ x0 - 20 ∧ x0 - 20 ≤ 2147483647 by omega) (show f57 ((28) % 962) (x0 - 20) by first | assumption | (unfold f57; omega) | (unfold f57 at *; omega)) (by omega) (by omega)
        refine mx_J.step (sn_218 31) (fun _ _ => rfl) ?_
        have eq57 : Z55 57 1 = Z 57 1 := (up_ni hE55 (by decide))
        have b58 : 0 ≤ Z 57 1 ∧ Z 57 1 ≤ 18 := by have hq := GI_ex hG 57 1; replace hq : f57 (1 % 962) (Z 57 1) := hq; unfold f57 at hq; omega
        have b59 : (-2147483648) ≤ Z 57 1 ∧ Z 57 1 ≤ 2147483647 := hG.pr 57 1
        have eq60 : Z55 57 963 = Z 57 963 := (up_ni hE55 (by decide))
        have b61 : 0 ≤ Z 57 963 ∧ Z 57 963 ≤ 18 := by have hq := GI_ex hG 57 963; replace hq : f57 (963 % 962) (Z 57 963) := hq; unfold f57 at hq; omega
        have b62 : (-2147483648) ≤ Z 57 963 ∧ Z 57 963 ≤ 2147483647 := hG.pr 57 963
        have eq63 : Z55 57 1925 = Z 57 1925 := (up_ni hE55 (by decide))
        have b64 : 0 ≤ Z 57 1925 ∧ Z 57 1925 ≤ 18 := by have hq := GI_ex hG 57 1925; replace hq : f57 (1925 % 962) (Z 57 1925) := hq; unfold f57 at hq; omega
        have b65 : (-2147483648) ≤ Z 57 1925 ∧ Z 57 1925 ≤ 2147483647 := hG.pr 57 1925
        exact c76 Z55 h55 (by omega) hx55 hG55 (fr_tr (M := [(57, (-1)), (62, (-1)), (64, (-1)), (65, (-1))]) fr_rf (fr_ua hE55) (M1 := []) rfl rfl)
    · skip
      refine mx_J.step (sn_218 6) (fun _ _ => rfl) ?_
      refine mx_J.step (sn_218 7) (fun _ _ => rfl) ?_
      have b67 : 0 ≤ Z 57 1 ∧ Z 57 1 ≤ 18 := by have hq := GI_ex hG 57 1; replace hq : f57 (1 % 962) (Z 57 1) := hq; unfold f57 at hq; omega
      have b68 : (-2147483648) ≤ Z 57 1 ∧ Z 57 1 ≤ 2147483647 := hG.pr 57 1
      have b69 : 0 ≤ Z 57 963 ∧ Z 57 963 ≤ 18 := by have hq := GI_ex hG 57 963; replace hq : f57 (963 % 962) (Z 57 963) := hq; unfold f57 at hq; omega
      have b70 : (-2147483648) ≤ Z 57 963 ∧ Z 57 963 ≤ 2147483647 := hG.pr 57 963
      have b71 : 0 ≤ Z 57 1925 ∧ Z 57 1925 ≤ 18 := by have hq := GI_ex hG 57 1925; replace hq : f57 (1925 % 962) (Z 57 1925) := hq; unfold f57 at hq; omega
      have b72 : (-2147483648) ≤ Z 57 1925 ∧ Z 57 1925 ≤ 2147483647 := hG.pr 57 1925
      obtain ⟨Z66, h66, hc66, hx66, hG66, hf66, b66⟩ := ct_205_56 (d := d + 0) (l := l) (D := D) (b0 := b0) (ad := ad) (Hb := Hb) (tau := tau) hx hG (show (-2147483648) ≤ x0 ∧ x0 ≤ 2147483647 by omega)
      have b73 : 0 ≤ Z66 57 1 ∧ Z66 57 1 ≤ 18 := by have hq := GI_ex hG66 57 1; replace hq : f57 (1 % 962) (Z66 57 1) := hq; unfold f57 at hq; omega
      have b74 : (-2147483648) ≤ Z66 57 1 ∧ Z66 57 1 ≤ 2147483647 := hG66.pr 57 1
      have b75 : 0 ≤ Z66 57 963 ∧ Z66 57 963 ≤ 18 := by have hq := GI_ex hG66 57 963; replace hq : f57 (963 % 962) (Z66 57 963) := hq; unfold f57 at hq; omega
      have b76 : (-2147483648) ≤ Z66 57 963 ∧ Z66 57 963 ≤ 2147483647 := hG66.pr 57 963
      have b77 : 0 ≤ Z66 57 1925 ∧ Z66 57 1925 ≤ 18 := by have hq := GI_ex hG66 57 1925; replace hq : f57 (1925 % 962) (Z66 57 1925) := hq; unfold f57 at hq; omega
      have b78 : (-2147483648) ≤ Z66 57 1925 ∧ Z66 57 1925 ≤ 2147483647 := hG66.pr 57 1925
      refine Jcv0 hx (show mx_Sn _ _ 8 (mx_callv 205 2 12 11) from sn_218 8) a56 s56 hc66 rfl rfl rfl ?_
      refine mx_J.step (sn_218 11) (fun _ _ => rfl) ?_
      exact c76 Z66 h66 (by omega) hx66 hG66 (fr_tr (M := [(57, (-1)), (62, (-1)), (64, (-1)), (65, (-1))]) fr_rf (hf66) (M1 := []) rfl rfl)
theorem ct_218_56 {l : Launch} {D : va_G} {b0 : Nat} {ad : Nat → Nat} {Hb : Heap} {tau : Nat → Int64} {d n s : Nat} {S : Nat → xS} {Z : xZ} {h : mx_H} (hx : XH n s S Z h) (hG : GI n S Z)  {x0 : Int} (p0 : 0 ≤ x0 ∧ x0 ≤ 4999) (k0 : ((0 ≤ x0 ∧ x0 ≤ 18) ∨ (20 ≤ x0 ∧ x0 ≤ 29) ∨ (1000 ≤ x0 ∧ x0 ≤ 2999 ∧ 1 ≤ (x0 - 1000) / 100 ∧ 1 ≤ x0 % 100 ∧ x0 % 100 ≤ (x0 - 1000) / 100 - 1 ∧ (x0 - 1000) / 100 ≤ 18 ∧ hv Z (Z 57 27) ((x0 - 1000) / 100) = 1) ∨ (3000 ≤ x0 ∧ x0 ≤ 4999 ∧ 1 ≤ (x0 - 3000) / 100 ∧ (x0 - 3000) / 100 ≤ 18 ∧ 1 ≤ x0 % 100 ∧ x0 % 100 ≤ 18 ∧ hv Z (Z 57 27) ((x0 - 3000) / 100) = 1 ∧ hv Z (Z 57 27) (x0 % 100) = 1))) : ∃ (Z' : xZ) (h' : mx_H), mx_Ca (tB l D b0 ad Hb tau) (d + 7) 218 [.ref 56, xI x0] h (none, h') ∧ XH n s S Z' h' ∧ GI n S Z' ∧ fr' [(57, (-1)), (62, (-1)), (64, (-1)), (65, (-1))] Z Z' ∧ ((Z' 57 1 = Z 57 1 ∧ Z' 57 963 = Z 57 963 ∧ Z' 57 1925 = Z 57 1925)) := by
  obtain ⟨r, hca, Z', h', e, q⟩ := Jmt (B := tB l D b0 ad Hb tau) (M := mt_218) (mi := 218) (as := [.ref 56, xI x0]) (d := d + 6) (ls := [some (.ref 56), some (xI x0)]) rfl rfl rfl rfl rfl rfl (cw_218_56 (l := l) (D := D) (b0 := b0) (ad := ad) (Hb := Hb) (tau := tau) (d := d) (Post := fun r => ∃ (Z' : xZ) (h' : mx_H), r = (none, h') ∧ XH n s S Z' h' ∧ GI n S Z' ∧ fr' [(57, (-1)), (62, (-1)), (64, (-1)), (65, (-1))] Z Z' ∧ ((Z' 57 1 = Z 57 1 ∧ Z' 57 963 = Z 57 963 ∧ Z' 57 1925 = Z 57 1925))) hx hG p0 k0 (fun Z' h' q1 q2 q3 q4 => ⟨Z', h', rfl, q1, q2, q3, q4⟩))
  subst e; exact ⟨Z', h', hca, q⟩
set_option maxRecDepth 100000 in
theorem cw_219_56 {l : Launch} {D : va_G} {b0 : Nat} {ad : Nat → Nat} {Hb : Heap} {tau : Nat → Int64} {d n s : Nat} {S : Nat → xS} {Z : xZ} {h : mx_H} {Post : mx_R → Prop} (hx : XH n s S Z h) (hG : GI n S Z)  {x0 : Int} (p0 : 0 ≤ x0 ∧ x0 ≤ 3) (hP : ∀ (z : Int) (Z' : xZ) (h' : mx_H), XH n s S Z' h' → GI n S Z' → fr' [(56, 22), (57, (-1)), (62, (-1)), (64, (-1)), (65, (-1))] Z Z' → 0 ≤ z ∧ z ≤ 40 ∧ (Z' 57 1 = Z 57 1 ∧ Z' 57 963 = Z 57 963 ∧ Z' 57 1925 = Z 57 1925) → Post (some (xI z), h')) : mx_J (tB l D b0 ad Hb tau) mt_219 (d + 7) 0 [some (.ref 56), some (xI x0), none] [] h Post := by
    have a56 : 56 < n := lt83 (GI_n hG) rfl
    have s56 : S 56 = .inl (12, [0, 2, 2, 2, 2, 0, 0, 0, 0, 0, 0, 0, 0, 0, 0, 2, 2, 2, 0, 2, 2, 2, 0, 0, 2, 2, 2, 2, 2, 2, 0, 0, 2, 2, 2, 2, 2, 2, 2, 2, 2, 2]) := GI_s hG 56 rfl
    have a81 : 81 < n := lt83 (GI_n hG) rfl
    have s81 : S 81 = .inr (.int, 4, 0) := GI_s hG 81 rfl
    have a82 : 82 < n := lt83 (GI_n hG) rfl
    have s82 : S 82 = .inr (.long, 160, 1) := GI_s hG 82 rfl
    refine mx_J.step (sn_219 0) (fun _ _ => rfl) ?_
    refine JcI (z := 0) (show mx_Sn _ _ 1 (mx_const (.int 0) 2) from sn_219 1) rfl ?_
    refine JputI (g := 22) hx (show mx_Sn _ _ 2 (mx_putf 1 12 22 (.int) 5) from sn_219 2) a56 s56 rfl rfl rfl rfl (fun Z1 h1 hx1 hE1 => ?_)
    have hG1 := GI_up hG hE1 (show 0 ≤ 0 ∧ 0 ≤ 2 by omega) trivial rfl
    refine JcI (z := 0) (show mx_Sn _ _ 5 (mx_const (.int 0) 6) from sn_219 5) rfl ?_
    refine mx_J.step (ls2 := [some (.ref 56), some (xI x0), some (xI 0)]) (sn_219 6) (fun _ _ => rfl) ?_
    have c7 : ∀ (m2 : Nat) (w2_2 : Int) (Z3 : xZ) (h3 : mx_H), 40 - w2_2 < (m2 : Int) → 0 ≤ w2_2 ∧ w2_2 ≤ 40 → (Z3 57 1 = Z 57 1 ∧ Z3 57 963 = Z 57 963 ∧ Z3 57 1925 = Z 57 1925) → XH n s S Z3 h3 → GI n S Z3 → fr' [(56, 22), (57, (-1)), (62, (-1)), (64, (-1)), (65, (-1))] Z1 Z3 → mx_J (tB l D b0 ad Hb tau) mt_219 (d + 7) 7 [some (.ref 56), some (xI x0), some (xI w2_2)] [] h3 Post := by
      intro m2
      induction m2 with
      | zero => intro w2_2 Z3 h3 q2 f2_0 f2_1 hx3 hG3 hf3; exact absurd q2 (by omega)
      | succ m2 ih2 =>
        intro w2_2 Z3 h3 q2 f2_0 f2_1 hx3 hG3 hf3
        have b4 : 0 ≤ Z3 57 1 ∧ Z3 57 1 ≤ 18 := by have hq := GI_ex hG3 57 1; replace hq : f57 (1 % 962) (Z3 57 1) := hq; unfold f57 at hq; omega
        have b5 : (-2147483648) ≤ Z3 57 1 ∧ Z3 57 1 ≤ 2147483647 := hG3.pr 57 1
        have b6 : 0 ≤ Z3 57 963 ∧ Z3 57 963 ≤ 18 := by have hq := GI_ex hG3 57 963; replace hq : f57 (963 % 962) (Z3 57 963) := hq; unfold f57 at hq; omega
        have b7 : (-2147483648) ≤ Z3 57 963 ∧ Z3 57 963 ≤ 2147483647 := hG3.pr 57 963
        have b8 : 0 ≤ Z3 57 1925 ∧ Z3 57 1925 ≤ 18 := by have hq := GI_ex hG3 57 1925; replace hq : f57 (1925 % 962) (Z3 57 1925) := hq; unfold f57 at hq; omega
        have b9 : (-2147483648) ≤ Z3 57 1925 ∧ Z3 57 1925 ≤ 2147483647 := hG3.pr 57 1925
        refine mx_J.step (sn_219 7) (fun _ _ => rfl) ?_
        refine mx_J.step (sn_219 8) (fun _ _ => rfl) ?_
        refine JgetR (g := 40) (b := 81) hx3 (show mx_Sn _ _ 9 (mx_getf 12 40 12) from sn_219 9) a56 s56 rfl rfl (hG3.prr 56 40 rfl) ?_
        refine mx_J.step (sn_219 12) (fun _ _ => rfl) ?_
        have b11 : 0 ≤ Z 81 x0 ∧ Z 81 x0 ≤ 40 := hG.pr 81 x0
        refine JialdI (z := Z 81 x0) hx3 (show mx_Sn _ _ 13 (mx_iald 14) from sn_219 13) a81 s81 (by omega) ((hf3 81 x0 rfl).trans (up_nk hE1 rfl)) ?_
        refine Jicmp_ge (show mx_Sn _ _ 14 (mx_icmp_ge 67 17) from sn_219 14) (by omega) (by omega) (fun q12 => ?_) (fun q12 => ?_)
        · skip
          refine mx_J.step (sn_219 67) (fun _ _ => rfl) ?_
          refine JgetR (g := 40) (b := 81) hx3 (show mx_Sn _ _ 68 (mx_getf 12 40 71) from sn_219 68) a56 s56 rfl rfl (hG3.prr 56 40 rfl) ?_
          refine mx_J.step (sn_219 71) (fun _ _ => rfl) ?_
          refine JialdI (z := Z 81 x0) hx3 (show mx_Sn _ _ 72 (mx_iald 73) from sn_219 72) a81 s81 (by omega) ((hf3 81 x0 rfl).trans (up_nk hE1 rfl)) ?_
          exact mx_J.ret (sn_219 73) (fun _ _ => rfl) (hP (Z 81 x0) Z3 h3 hx3 hG3 (fr_tr (M := [(56, 22), (57, (-1)), (62, (-1)), (64, (-1)), (65, (-1))]) (fr_tr (M := [(56, 22), (57, (-1)), (62, (-1)), (64, (-1)), (65, (-1))]) fr_rf (fr_up hE1) (M1 := []) rfl rfl) (hf3) rfl rfl) (by omega))
        · skip
          refine mx_J.step (sn_219 17) (fun _ _ => rfl) ?_
          refine mx_J.step (sn_219 18) (fun _ _ => rfl) ?_
          refine mx_J.step (sn_219 19) (fun _ _ => rfl) ?_
          refine JgetR (g := 41) (b := 82) hx3 (show mx_Sn _ _ 20 (mx_getf 12 41 23) from sn_219 20) a56 s56 rfl rfl (hG3.prr 56 41 rfl) ?_
          refine JcI (z := 40) (show mx_Sn _ _ 23 (mx_const (.int 40) 25) from sn_219 23) rfl ?_
          refine mx_J.step (sn_219 25) (fun _ _ => rfl) ?_
          refine Jimul (show mx_Sn _ _ 26 (mx_imul 27) from sn_219 26) ?_
          refine mx_J.step (sn_219 27) (fun _ _ => rfl) ?_
          refine Jiadd (show mx_Sn _ _ 28 (mx_iadd 29) from sn_219 28) ?_
          have b15 : (-9223372036854775808) ≤ Z 82 ((40 * x0) + w2_2) ∧ Z 82 ((40 * x0) + w2_2) ≤ 9223372036854775807 := hG.pr 82 ((40 * x0) + w2_2)
          refine JlaldL (z := Z 82 ((40 * x0) + w2_2)) hx3 (show mx_Sn _ _ 29 (mx_lald 30) from sn_219 29) a82 s82 (by omega) ((hf3 82 ((40 * x0) + w2_2) rfl).trans (up_nk hE1 rfl)) ?_
          have b17 := GI_st hG3 27
          have eq18 : Z3 56 18 = Z 56 18 := ((hf3 56 18 rfl).trans (up_ni hE1 (by decide)))
          have b19 : 0 ≤ Z 56 18 ∧ Z 56 18 ≤ 385 := hG.pr 56 18
          have b20 : 0 ≤ Z3 57 27 ∧ Z3 57 27 ≤ 384 := by have hq := GI_ex hG3 57 27; replace hq : f57 (27 % 962) (Z3 57 27) := hq; unfold f57 at hq; omega
          have b21 : (-2147483648) ≤ Z3 57 27 ∧ Z3 57 27 ≤ 2147483647 := hG3.pr 57 27
          have eq22 : hv Z3 (Z3 57 27) (((Z 82 ((40 * x0) + w2_2)) - 1000) / 100) = hv Z (Z3 57 27) (((Z 82 ((40 * x0) + w2_2)) - 1000) / 100) := ((hv_c (fun i => hf3 61 i rfl)).trans (hv_c (fun i => up_nk hE1 rfl)))
          have eq23 : hv Z3 (Z3 57 27) (((Z 82 ((40 * x0) + w2_2)) - 3000) / 100) = hv Z (Z3 57 27) (((Z 82 ((40 * x0) + w2_2)) - 3000) / 100) := ((hv_c (fun i => hf3 61 i rfl)).trans (hv_c (fun i => up_nk hE1 rfl)))
          have eq24 : hv Z3 (Z3 57 27) ((Z 82 ((40 * x0) + w2_2)) % 100) = hv Z (Z3 57 27) ((Z 82 ((40 * x0) + w2_2)) % 100) := ((hv_c (fun i => hf3 61 i rfl)).trans (hv_c (fun i => up_nk hE1 rfl)))
          obtain ⟨z16, hc16, b16⟩ := ct_217_56 (d := d + 3) (l := l) (D := D) (b0 := b0) (ad := ad) (Hb := Hb) (tau := tau) hx3 hG3 (show (-9223372036854775808) ≤ Z 82 ((40 * x0) + w2_2) ∧ Z 82 ((40 * x0) + w2_2) ≤ 9223372036854775807 by omega)
          refine Jcv hx3 (show mx_Sn _ _ 30 (mx_callv 217 2 12 33) from sn_219 30) a56 s56 hc16 rfl rfl rfl ?_
          refine JputI (g := 22) hx3 (show mx_Sn _ _ 33 (mx_putf 1 12 22 (.int) 36) from sn_219 33) a56 s56 rfl rfl rfl rfl (fun Z25 h25 hx25 hE25 => ?_)
          have hG25 := GI_up hG3 hE25 (show 0 ≤ z16 ∧ z16 ≤ 2 by omega) trivial rfl
          refine mx_J.step (sn_219 36) (fun _ _ => rfl) ?_
          refine JgetI (g := 22) (z := z16) hx25 (show mx_Sn _ _ 37 (mx_getf 12 22 40) from sn_219 37) a56 s56 rfl rfl (up_at hE25) ?_
          refine Jif_eq (show mx_Sn _ _ 40 (mx_if_eq 45 43) from sn_219 40) (by omega) (fun q27 => ?_) (fun q27 => ?_)
          · skip
            refine mx_J.step (sn_219 45) (fun _ _ => rfl) ?_
            refine mx_J.step (sn_219 46) (fun _ _ => rfl) ?_
            refine JgetR (g := 41) (b := 82) hx25 (show mx_Sn _ _ 47 (mx_getf 12 41 50) from sn_219 47) a56 s56 rfl rfl (hG25.prr 56 41 rfl) ?_
            refine JcI (z := 40) (show mx_Sn _ _ 50 (mx_const (.int 40) 52) from sn_219 50) rfl ?_
            refine mx_J.step (sn_219 52) (fun _ _ => rfl) ?_
            refine Jimul (show mx_Sn _ _ 53 (mx_imul 54) from sn_219 53) ?_
            refine mx_J.step (sn_219 54) (fun _ _ => rfl) ?_
            refine Jiadd (show mx_Sn _ _ 55 (mx_iadd 56) from sn_219 55) ?_
            refine JlaldL (z := Z 82 ((40 * x0) + w2_2)) hx25 (show mx_Sn _ _ 56 (mx_lald 57) from sn_219 56) a82 s82 (by omega) ((up_nk hE25 rfl).trans ((hf3 82 ((40 * x0) + w2_2) rfl).trans (up_nk hE1 rfl))) ?_
            refine Jl2i (show mx_Sn _ _ 57 (mx_l2i 58) from sn_219 57) ?_
            have eq30 : Z25 57 27 = Z3 57 27 := (up_nk hE25 rfl)
            have eq31 : hv Z25 (Z25 57 27) (((Z 82 ((40 * x0) + w2_2)) - 1000) / 100) = hv Z (Z3 57 27) (((Z 82 ((40 * x0) + w2_2)) - 1000) / 100) := by rw [(show Z25 57 27 = Z3 57 27 from (up_nk hE25 rfl))]; exact ((hv_c (fun i => up_nk hE25 rfl)).trans ((hv_c (fun i => hf3 61 i rfl)).trans (hv_c (fun i => up_nk hE1 rfl))))
            have eq32 : hv Z25 (Z3 57 27) (((Z 82 ((40 * x0) + w2_2)) - 1000) / 100) = hv Z (Z3 57 27) (((Z 82 ((40 * x0) + w2_2)) - 1000) / 100) := ((hv_c (fun i => up_nk hE25 rfl)).trans ((hv_c (fun i => hf3 61 i rfl)).trans (hv_c (fun i => up_nk hE1 rfl))))
            have eq33 : hv Z25 (Z25 57 27) (((Z 82 ((40 * x0) + w2_2)) - 3000) / 100) = hv Z (Z3 57 27) (((Z 82 ((40 * x0) + w2_2)) - 3000) / 100) := by rw [(show Z25 57 27 = Z3 57 27 from (up_nk hE25 rfl))]; exact ((hv_c (fun i => up_nk hE25 rfl)).trans ((hv_c (fun i => hf3 61 i rfl)).trans (hv_c (fun i => up_nk hE1 rfl))))
            have eq34 : hv Z25 (Z3 57 27) (((Z 82 ((40 * x0) + w2_2)) - 3000) / 100) = hv Z (Z3 57 27) (((Z 82 ((40 * x0) + w2_2)) - 3000) / 100) := ((hv_c (fun i => up_nk hE25 rfl)).trans ((hv_c (fun i => hf3 61 i rfl)).trans (hv_c (fun i => up_nk hE1 rfl))))
            have eq35 : hv Z25 (Z25 57 27) ((Z 82 ((40 * x0) + w2_2)) % 100) = hv Z (Z3 57 27) ((Z 82 ((40 * x0) + w2_2)) % 100) := by rw [(show Z25 57 27 = Z3 57 27 from (up_nk hE25 rfl))]; exact ((hv_c (fun i => up_nk hE25 rfl)).trans ((hv_c (fun i => hf3 61 i rfl)).trans (hv_c (fun i => up_nk hE1 rfl))))
            have eq36 : hv Z25 (Z3 57 27) ((Z 82 ((40 * x0) + w2_2)) % 100) = hv Z (Z3 57 27) ((Z 82 ((40 * x0) + w2_2)) % 100) := ((hv_c (fun i => up_nk hE25 rfl)).trans ((hv_c (fun i => hf3 61 i rfl)).trans (hv_c (fun i => up_nk hE1 rfl))))
            have eq37 : Z25 57 1 = Z3 57 1 := (up_nk hE25 rfl)
            have eq38 : Z25 57 963 = Z3 57 963 := (up_nk hE25 rfl)
            have eq39 : Z25 57 1925 = Z3 57 1925 := (up_nk hE25 rfl)
            obtain ⟨Z29, h29, hc29, hx29, hG29, hf29, b29⟩ := ct_218_56 (d := d + 0) (l := l) (D := D) (b0 := b0) (ad := ad) (Hb := Hb) (tau := tau) hx25 hG25 (show 0 ≤ Z 82 ((40 * x0) + w2_2) ∧ Z 82 ((40 * x0) + w2_2) ≤ 4999 by omega) (show ((0 ≤ (Z 82 ((40 * x0) + w2_2)) ∧ (Z 82 ((40 * x0) + w2_2)) ≤ 18) ∨ (20 ≤ (Z 82 ((40 * x0) + w2_2)) ∧ (Z 82 ((40 * x0) + w2_2)) ≤ 29) ∨ (1000 ≤ (Z 82 ((40 * x0) + w2_2)) ∧ (Z 82 ((40 * x0) + w2_2)) ≤ 2999 ∧ 1 ≤ ((Z 82 ((40 * x0) + w2_2)) - 1000) / 100 ∧ 1 ≤ (Z 82 ((40 * x0) + w2_2)) % 100 ∧ (Z 82 ((40 * x0) + w2_2)) % 100 ≤ ((Z 82 ((40 * x0) + w2_2)) - 1000) / 100 - 1 ∧ ((Z 82 ((40 * x0) + w2_2)) - 1000) / 100 ≤ 18 ∧ hv Z25 (Z25 57 27) (((Z 82 ((40 * x0) + w2_2)) - 1000) / 100) = 1) ∨ (3000 ≤ (Z 82 ((40 * x0) + w2_2)) ∧ (Z 82 ((40 * x0) + w2_2)) ≤ 4999 ∧ 1 ≤ ((Z 82 ((40 * x0) + w2_2)) - 3000) / 100 ∧ ((Z 82 ((40 * x0) + w2_2)) - 3000) / 100 ≤ 18 ∧ 1 ≤ (Z 82 ((40 * x0) + w2_2)) % 100 ∧ (Z 82 ((40 * x0) + w2_2)) % 100 ≤ 18 ∧ hv Z25 (Z25 57 27) (((Z 82 ((40 * x0) + w2_2)) - 3000) / 100) = 1 ∧ hv Z25 (Z25 57 27) ((Z 82 ((40 * x0) + w2_2)) % 100) = 1)) by first | omega | (simp only [eq30, eq37, eq38, eq39]; omega))
            try rw [eq30] at b29
            try rw [eq37] at b29
            try rw [eq38] at b29
            try rw [eq39] at b29
            have b40 : 0 ≤ Z29 57 1 ∧ Z29 57 1 ≤ 18 := by have hq := GI_ex hG29 57 1; replace hq : f57 (1 % 962) (Z29 57 1) := hq; unfold f57 at hq; omega
            have b41 : (-2147483648) ≤ Z29 57 1 ∧ Z29 57 1 ≤ 2147483647 := hG29.pr 57 1
            have b42 : 0 ≤ Z29 57 963 ∧ Z29 57 963 ≤ 18 := by have hq := GI_ex hG29 57 963; replace hq : f57 (963 % 962) (Z29 57 963) := hq; unfold f57 at hq; omega
            have b43 : (-2147483648) ≤ Z29 57 963 ∧ Z29 57 963 ≤ 2147483647 := hG29.pr 57 963
            have b44 : 0 ≤ Z29 57 1925 ∧ Z29 57 1925 ≤ 18 := by have hq := GI_ex hG29 57 1925; replace hq : f57 (1925 % 962) (Z29 57 1925) := hq; unfold f57 at hq; omega
            have b45 : (-2147483648) ≤ Z29 57 1925 ∧ Z29 57 1925 ≤ 2147483647 := hG29.pr 57 1925
            refine Jcv0 hx25 (show mx_Sn _ _ 58 (mx_callv 218 2 12 61) from sn_219 58) a56 s56 hc29 rfl rfl rfl ?_
            refine Jiinc (z := w2_2) (cz := 1) (ls2 := [some (.ref 56), some (xI x0), some (xI (w2_2 + 1))]) (show mx_Sn _ _ 61 (mx_iinc 2 1 64) from sn_219 61) rfl rfl rfl rfl ?_
            refine mx_J.step (sn_219 64) (fun _ _ => rfl) ?_
            exact ih2 (w2_2 + 1) Z29 h29 (by omega) (by omega) (by omega) hx29 hG29 (fr_tr (M := [(56, 22), (57, (-1)), (62, (-1)), (64, (-1)), (65, (-1))]) (fr_tr (M := [(56, 22), (57, (-1)), (62, (-1)), (64, (-1)), (65, (-1))]) (fr_tr (M := [(56, 22), (57, (-1)), (62, (-1)), (64, (-1)), (65, (-1))]) fr_rf (hf3) (M1 := []) rfl rfl) (fr_up hE25) rfl rfl) (hf29) rfl rfl)
          · skip
            refine mx_J.step (sn_219 43) (fun _ _ => rfl) ?_
            have eq46 : Z25 57 1 = Z3 57 1 := (up_nk hE25 rfl)
            have eq47 : Z25 57 963 = Z3 57 963 := (up_nk hE25 rfl)
            have eq48 : Z25 57 1925 = Z3 57 1925 := (up_nk hE25 rfl)
            have eq49 : Z25 57 1 = Z3 57 1 := (up_nk hE25 rfl)
            have eq50 : Z25 57 963 = Z3 57 963 := (up_nk hE25 rfl)
            have eq51 : Z25 57 1925 = Z3 57 1925 := (up_nk hE25 rfl)
            exact mx_J.ret (sn_219 44) (fun _ _ => rfl) (hP w2_2 Z25 h25 hx25 hG25 (fr_tr (M := [(56, 22), (57, (-1)), (62, (-1)), (64, (-1)), (65, (-1))]) (fr_tr (M := [(56, 22), (57, (-1)), (62, (-1)), (64, (-1)), (65, (-1))]) (fr_tr (M := [(56, 22), (57, (-1)), (62, (-1)), (64, (-1)), (65, (-1))]) fr_rf (fr_up hE1) (M1 := []) rfl rfl) (hf3) rfl rfl) (fr_up hE25) rfl rfl) (by omega))
    have eq52 : Z1 57 1 = Z 57 1 := (up_nk hE1 rfl)
    have b53 : 0 ≤ Z 57 1 ∧ Z 57 1 ≤ 18 := by have hq := GI_ex hG 57 1; replace hq : f57 (1 % 962) (Z 57 1) := hq; unfold f57 at hq; omega
    have b54 : (-2147483648) ≤ Z 57 1 ∧ Z 57 1 ≤ 2147483647 := hG.pr 57 1
    have eq55 : Z1 57 963 = Z 57 963 := (up_nk hE1 rfl)
    have b56 : 0 ≤ Z 57 963 ∧ Z 57 963 ≤ 18 := by have hq := GI_ex hG 57 963; replace hq : f57 (963 % 962) (Z 57 963) := hq; unfold f57 at hq; omega
    have b57 : (-2147483648) ≤ Z 57 963 ∧ Z 57 963 ≤ 2147483647 := hG.pr 57 963
    have eq58 : Z1 57 1925 = Z 57 1925 := (up_nk hE1 rfl)
    have b59 : 0 ≤ Z 57 1925 ∧ Z 57 1925 ≤ 18 := by have hq := GI_ex hG 57 1925; replace hq : f57 (1925 % 962) (Z 57 1925) := hq; unfold f57 at hq; omega
    have b60 : (-2147483648) ≤ Z 57 1925 ∧ Z 57 1925 ≤ 2147483647 := hG.pr 57 1925
    exact c7 (Int.toNat (40 - 0) + 1) 0 Z1 h1 (by omega) (by omega) (by omega) hx1 hG1 fr_rf
theorem ct_219_56 {l : Launch} {D : va_G} {b0 : Nat} {ad : Nat → Nat} {Hb : Heap} {tau : Nat → Int64} {d n s : Nat} {S : Nat → xS} {Z : xZ} {h : mx_H} (hx : XH n s S Z h) (hG : GI n S Z)  {x0 : Int} (p0 : 0 ≤ x0 ∧ x0 ≤ 3) : ∃ (z : Int) (Z' : xZ) (h' : mx_H), mx_Ca (tB l D b0 ad Hb tau) (d + 8) 219 [.ref 56, xI x0] h (some (xI z), h') ∧ XH n s S Z' h' ∧ GI n S Z' ∧ fr' [(56, 22), (57, (-1)), (62, (-1)), (64, (-1)), (65, (-1))] Z Z' ∧ (0 ≤ z ∧ z ≤ 40 ∧ (Z' 57 1 = Z 57 1 ∧ Z' 57 963 = Z 57 963 ∧ Z' 57 1925 = Z 57 1925)) := by
  obtain ⟨r, hca, z, Z', h', e, q⟩ := Jmt (B := tB l D b0 ad Hb tau) (M := mt_219) (mi := 219) (as := [.ref 56, xI x0]) (d := d + 7) (ls := [some (.ref 56), some (xI x0), none]) rfl rfl rfl rfl rfl rfl (cw_219_56 (l := l) (D := D) (b0 := b0) (ad := ad) (Hb := Hb) (tau := tau) (d := d) (Post := fun r => ∃ (z : Int) (Z' : xZ) (h' : mx_H), r = (some (xI z), h') ∧ XH n s S Z' h' ∧ GI n S Z' ∧ fr' [(56, 22), (57, (-1)), (62, (-1)), (64, (-1)), (65, (-1))] Z Z' ∧ (0 ≤ z ∧ z ≤ 40 ∧ (Z' 57 1 = Z 57 1 ∧ Z' 57 963 = Z 57 963 ∧ Z' 57 1925 = Z 57 1925))) hx hG p0 (fun z Z' h' q1 q2 q3 q4 => ⟨z, Z', h', rfl, q1, q2, q3, q4⟩))
  subst e; exact ⟨z, Z', h', hca, q⟩
