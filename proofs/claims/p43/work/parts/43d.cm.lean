set_option maxRecDepth 100000 in
theorem cw_194_56_i1 {l : Launch} {D : va_G} {b0 : Nat} {ad : Nat → Nat} {Hb : Heap} {tau : Nat → Int64} {d n s : Nat} {S : Nat → xS} {Z : xZ} {h : mx_H} {Post : mx_R → Prop} (hx : XH n s S Z h) (hG : GI n S Z)   (k0 : Z 57 22 = 1) (hP : ∀ (z : Int) (Z' : xZ) (h' : mx_H), XH n s S Z' h' → GI n S Z' → fr' [(64, (-1))] Z Z' → (-2147483648) ≤ z ∧ z ≤ 2147483647 → Post (some (xI z), h')) : mx_J (tB l D b0 ad Hb tau) mt_194 (d + 1) 0 [some (.ref 56), some (xI 1), none, none, none] [] h Post := by
    have a56 : 56 < n := lt83 (GI_n hG) rfl
    have s56 : S 56 = .inl (12, [0, 2, 2, 2, 2, 0, 0, 0, 0, 0, 0, 0, 0, 0, 0, 2, 2, 2, 0, 2, 2, 2, 0, 0, 2, 2, 2, 2, 2, 2, 0, 0, 2, 2, 2, 2, 2, 2, 2, 2, 2, 2]) := GI_s hG 56 rfl
    have a57 : 57 < n := lt83 (GI_n hG) rfl
    have s57 : S 57 = .inr (.int, 2886, 0) := GI_s hG 57 rfl
    have a64 : 64 < n := lt83 (GI_n hG) rfl
    have s64 : S 64 = .inr (.int, 900, 0) := GI_s hG 64 rfl
    have a65 : 65 < n := lt83 (GI_n hG) rfl
    have s65 : S 65 = .inr (.int, 5, 0) := GI_s hG 65 rfl
    refine JcI (z := 0) (show mx_Sn _ _ 0 (mx_const (.int 0) 1) from sn_194 0) rfl ?_
    refine mx_J.step (ls2 := [some (.ref 56), some (xI 1), some (xI 0), none, none]) (sn_194 1) (fun _ _ => rfl) ?_
    refine JcI (z := 0) (show mx_Sn _ _ 2 (mx_const (.int 0) 3) from sn_194 2) rfl ?_
    refine mx_J.step (ls2 := [some (.ref 56), some (xI 1), some (xI 0), some (xI 0), none]) (sn_194 3) (fun _ _ => rfl) ?_
    have c4 : ∀ (m1 : Nat) (w1_2 : Int) (w1_3 : Int) (u1_4 : Option Value) (Z2 : xZ) (h2 : mx_H), 900 - w1_3 < (m1 : Int) → 0 ≤ w1_2 ∧ w1_2 ≤ 900 → 0 ≤ w1_3 ∧ w1_3 ≤ 900 → (w1_2 = dp Z 1 w1_3 ∧ 0 ≤ w1_2 ∧ w1_2 ≤ w1_3 ∧ 0 ≤ w1_3) → XH n s S Z2 h2 → GI n S Z2 → fr' [(64, (-1))] Z Z2 → mx_J (tB l D b0 ad Hb tau) mt_194 (d + 1) 4 [some (.ref 56), some (xI 1), some (xI w1_2), some (xI w1_3), u1_4] [] h2 Post := by
      intro m1
      induction m1 with
      | zero => intro w1_2 w1_3 u1_4 Z2 h2 q1 f1_0 f1_1 f1_2 hx2 hG2 hf2; exact absurd q1 (by omega)
      | succ m1 ih1 =>
        intro w1_2 w1_3 u1_4 Z2 h2 q1 f1_0 f1_1 f1_2 hx2 hG2 hf2
        have wm := WF_m1 (GI_wf hG) k0
        refine mx_J.step (sn_194 4) (fun _ _ => rfl) ?_
        refine mx_J.step (sn_194 5) (fun _ _ => rfl) ?_
        refine JgetR (g := 1) (b := 57) hx2 (show mx_Sn _ _ 6 (mx_getf 12 1 9) from sn_194 6) a56 s56 rfl rfl (hG2.prr 56 1 rfl) ?_
        refine JcI (z := 25) (show mx_Sn _ _ 9 (mx_const (.int 25) 11) from sn_194 9) rfl ?_
        refine mx_J.step (sn_194 11) (fun _ _ => rfl) ?_
        refine JiaddE (r := 26) (show mx_Sn _ _ 12 (mx_iadd 13) from sn_194 12) (by decide) ?_
        have b4 : 0 ≤ Z 57 26 ∧ Z 57 26 ≤ 900 := by have hq := GI_ex hG 57 26; replace hq : f57 (26 % 962) (Z 57 26) := hq; unfold f57 at hq; omega
        have b5 : (-2147483648) ≤ Z 57 26 ∧ Z 57 26 ≤ 2147483647 := hG.pr 57 26
        refine JialdI (z := Z 57 26) hx2 (show mx_Sn _ _ 13 (mx_iald 14) from sn_194 13) a57 s57 (by omega) (hf2 57 26 rfl) ?_
        refine Jicmp_ge (show mx_Sn _ _ 14 (mx_icmp_ge 198 17) from sn_194 14) (by omega) (by omega) (fun q6 => ?_) (fun q6 => ?_)
        · skip
          refine mx_J.step (sn_194 198) (fun _ _ => rfl) ?_
          refine JgetR (g := 19) (b := 64) hx2 (show mx_Sn _ _ 199 (mx_getf 12 19 202) from sn_194 199) a56 s56 rfl rfl (hG2.prr 56 19 rfl) ?_
          refine JcI (z := 0) (show mx_Sn _ _ 202 (mx_const (.int 0) 203) from sn_194 202) rfl ?_
          have b8 : (-2147483648) ≤ Z2 64 0 ∧ Z2 64 0 ≤ 2147483647 := hG2.pr 64 0
          refine JialdI (z := Z2 64 0) hx2 (show mx_Sn _ _ 203 (mx_iald 204) from sn_194 203) a64 s64 (by omega) rfl ?_
          have eq9 : Z2 57 22 = Z 57 22 := (hf2 57 22 rfl)
          have b10 : 0 ≤ Z 57 22 ∧ Z 57 22 ≤ 1 := by have hq := GI_ex hG 57 22; replace hq : f57 (22 % 962) (Z 57 22) := hq; unfold f57 at hq; omega
          have b11 : (-2147483648) ≤ Z 57 22 ∧ Z 57 22 ≤ 2147483647 := hG.pr 57 22
          exact mx_J.ret (sn_194 204) (fun _ _ => rfl) (hP (Z2 64 0) Z2 h2 hx2 hG2 (fr_tr (M := [(64, (-1))]) fr_rf (hf2) (M1 := []) rfl rfl) (by omega))
        · skip
          refine mx_J.step (sn_194 17) (fun _ _ => rfl) ?_
          refine JgetR (g := 1) (b := 57) hx2 (show mx_Sn _ _ 18 (mx_getf 12 1 21) from sn_194 18) a56 s56 rfl rfl (hG2.prr 56 1 rfl) ?_
          refine JcI (z := 62) (show mx_Sn _ _ 21 (mx_const (.int 62) 23) from sn_194 21) rfl ?_
          refine mx_J.step (sn_194 23) (fun _ _ => rfl) ?_
          refine JgetR (g := 1) (b := 57) hx2 (show mx_Sn _ _ 24 (mx_getf 12 1 27) from sn_194 24) a56 s56 rfl rfl (hG2.prr 56 1 rfl) ?_
          refine JcI (z := 23) (show mx_Sn _ _ 27 (mx_const (.int 23) 29) from sn_194 27) rfl ?_
          refine mx_J.step (sn_194 29) (fun _ _ => rfl) ?_
          refine JiaddE (r := 24) (show mx_Sn _ _ 30 (mx_iadd 31) from sn_194 30) (by decide) ?_
          have b14 : 0 ≤ Z 57 24 ∧ Z 57 24 ≤ 900 := by have hq := GI_ex hG 57 24; replace hq : f57 (24 % 962) (Z 57 24) := hq; unfold f57 at hq; omega
          have b15 : (-2147483648) ≤ Z 57 24 ∧ Z 57 24 ≤ 2147483647 := hG.pr 57 24
          refine JialdI (z := Z 57 24) hx2 (show mx_Sn _ _ 31 (mx_iald 32) from sn_194 31) a57 s57 (by omega) (hf2 57 24 rfl) ?_
          refine Jiadd (show mx_Sn _ _ 32 (mx_iadd 33) from sn_194 32) ?_
          refine mx_J.step (sn_194 33) (fun _ _ => rfl) ?_
          refine Jiadd (show mx_Sn _ _ 34 (mx_iadd 35) from sn_194 34) ?_
          have b16 := GI_st hG ((62 + (Z 57 24)) + w1_3)
          have b17 : 0 ≤ Z 56 18 ∧ Z 56 18 ≤ 385 := hG.pr 56 18
          have b18 : f57 (((62 + (Z 57 24)) + w1_3) % 962) (Z 57 ((62 + (Z 57 24)) + w1_3)) := GI_ex hG 57 ((62 + (Z 57 24)) + w1_3)
          have b19 : (-2147483648) ≤ Z 57 ((62 + (Z 57 24)) + w1_3) ∧ Z 57 ((62 + (Z 57 24)) + w1_3) ≤ 2147483647 := hG.pr 57 ((62 + (Z 57 24)) + w1_3)
          refine JialdI (z := Z 57 ((62 + (Z 57 24)) + w1_3)) hx2 (show mx_Sn _ _ 35 (mx_iald 36) from sn_194 35) a57 s57 (by omega) (hf2 57 ((62 + (Z 57 24)) + w1_3) rfl) ?_
          refine mx_J.step (ls2 := [some (.ref 56), some (xI 1), some (xI w1_2), some (xI w1_3), some (xI (Z 57 ((62 + (Z 57 24)) + w1_3)))]) (sn_194 36) (fun _ _ => rfl) ?_
          have wl := WF_l1 (GI_wf hG) (k := w1_3) k0 (by omega)
          refine mx_J.step (sn_194 38) (fun _ _ => rfl) ?_
          refine JcI (z := 3000) (show mx_Sn _ _ 40 (mx_const (.int 3000) 43) from sn_194 40) rfl ?_
          have c192 : ∀ (w20_2 : Int) (Z21 : xZ) (h21 : mx_H), 0 ≤ w20_2 ∧ w20_2 ≤ 900 → (w20_2 = dp Z 1 (w1_3 + 1) ∧ 0 ≤ w20_2 ∧ w20_2 ≤ w1_3 + 1) → XH n s S Z21 h21 → GI n S Z21 → fr' [(64, (-1))] Z2 Z21 → mx_J (tB l D b0 ad Hb tau) mt_194 (d + 1) 192 [some (.ref 56), some (xI 1), some (xI w20_2), some (xI w1_3), some (xI (Z 57 ((62 + (Z 57 24)) + w1_3)))] [] h21 Post := by
            intro w20_2 Z21 h21 f20_0 f20_1 hx21 hG21 hf21
            refine Jiinc (z := w1_3) (cz := 1) (ls2 := [some (.ref 56), some (xI 1), some (xI w20_2), some (xI (w1_3 + 1)), some (xI (Z 57 ((62 + (Z 57 24)) + w1_3)))]) (show mx_Sn _ _ 192 (mx_iinc 3 1 195) from sn_194 192) rfl rfl rfl rfl ?_
            refine mx_J.step (sn_194 195) (fun _ _ => rfl) ?_
            exact ih1 w20_2 (w1_3 + 1) (some (xI (Z 57 ((62 + (Z 57 24)) + w1_3)))) Z21 h21 (by omega) (by omega) (by omega) (by first | exact ⟨dp_01.symm, by omega, by omega, by omega⟩ | omega) hx21 hG21 (fr_tr (M := [(64, (-1))]) (fr_tr (M := [(64, (-1))]) fr_rf (hf2) (M1 := []) rfl rfl) (hf21) rfl rfl)
          refine Jicmp_ge (show mx_Sn _ _ 43 (mx_icmp_ge 82 46) from sn_194 43) (by omega) (by omega) (fun q22 => ?_) (fun q22 => ?_)
          · skip
            refine mx_J.step (sn_194 82) (fun _ _ => rfl) ?_
            refine JcI (z := 3006) (show mx_Sn _ _ 84 (mx_const (.int 3006) 87) from sn_194 84) rfl ?_
            refine Jicmp_ne (show mx_Sn _ _ 87 (mx_icmp_ne 111 90) from sn_194 87) (by omega) (by omega) (fun q23 => ?_) (fun q23 => ?_)
            · skip
              refine mx_J.step (sn_194 111) (fun _ _ => rfl) ?_
              refine JcI (z := 3009) (show mx_Sn _ _ 113 (mx_const (.int 3009) 116) from sn_194 113) rfl ?_
              refine Jicmp_ne (show mx_Sn _ _ 116 (mx_icmp_ne 162 119) from sn_194 116) (by omega) (by omega) (fun q24 => ?_) (fun q24 => ?_)
              · skip
                refine Jiinc (z := w1_2) (cz := (-1)) (ls2 := [some (.ref 56), some (xI 1), some (xI (w1_2 + (-1))), some (xI w1_3), some (xI (Z 57 ((62 + (Z 57 24)) + w1_3)))]) (show mx_Sn _ _ 162 (mx_iinc 2 (-1) 165) from sn_194 162) rfl rfl rfl rfl ?_
                refine mx_J.step (sn_194 165) (fun _ _ => rfl) ?_
                refine JgetR (g := 19) (b := 64) hx2 (show mx_Sn _ _ 166 (mx_getf 12 19 169) from sn_194 166) a56 s56 rfl rfl (hG2.prr 56 19 rfl) ?_
                refine mx_J.step (sn_194 169) (fun _ _ => rfl) ?_
                refine JcI (z := 1) (show mx_Sn _ _ 170 (mx_const (.int 1) 171) from sn_194 170) rfl ?_
                refine Jisub (show mx_Sn _ _ 171 (mx_isub 172) from sn_194 171) ?_
                refine mx_J.step (sn_194 172) (fun _ _ => rfl) ?_
                refine mx_J.step (sn_194 174) (fun _ _ => rfl) ?_
                refine JgetR (g := 19) (b := 64) hx2 (show mx_Sn _ _ 175 (mx_getf 12 19 178) from sn_194 175) a56 s56 rfl rfl (hG2.prr 56 19 rfl) ?_
                refine mx_J.step (sn_194 178) (fun _ _ => rfl) ?_
                refine JcI (z := 1) (show mx_Sn _ _ 179 (mx_const (.int 1) 180) from sn_194 179) rfl ?_
                refine Jisub (show mx_Sn _ _ 180 (mx_isub 181) from sn_194 180) ?_
                have b27 : (-2147483648) ≤ Z2 64 ((w1_2 + (-1)) - 1) ∧ Z2 64 ((w1_2 + (-1)) - 1) ≤ 2147483647 := hG2.pr 64 ((w1_2 + (-1)) - 1)
                refine JialdI (z := Z2 64 ((w1_2 + (-1)) - 1)) hx2 (show mx_Sn _ _ 181 (mx_iald 182) from sn_194 181) a64 s64 (by omega) rfl ?_
                refine mx_J.step (sn_194 182) (fun _ _ => rfl) ?_
                refine JgetR (g := 19) (b := 64) hx2 (show mx_Sn _ _ 183 (mx_getf 12 19 186) from sn_194 183) a56 s56 rfl rfl (hG2.prr 56 19 rfl) ?_
                refine mx_J.step (sn_194 186) (fun _ _ => rfl) ?_
                have b29 : (-2147483648) ≤ Z2 64 (w1_2 + (-1)) ∧ Z2 64 (w1_2 + (-1)) ≤ 2147483647 := hG2.pr 64 (w1_2 + (-1))
                refine JialdI (z := Z2 64 (w1_2 + (-1))) hx2 (show mx_Sn _ _ 187 (mx_iald 188) from sn_194 187) a64 s64 (by omega) rfl ?_
                obtain ⟨z30, hc30, b30⟩ := ct_193_ (d := d + 0) (l := l) (D := D) (b0 := b0) (ad := ad) (Hb := Hb) (tau := tau) hx2 hG2 (show (-2147483648) ≤ Z 57 ((62 + (Z 57 24)) + w1_3) ∧ Z 57 ((62 + (Z 57 24)) + w1_3) ≤ 2147483647 by omega) (show (-2147483648) ≤ Z2 64 ((w1_2 + (-1)) - 1) ∧ Z2 64 ((w1_2 + (-1)) - 1) ≤ 2147483647 by omega) (show (-2147483648) ≤ Z2 64 (w1_2 + (-1)) ∧ Z2 64 (w1_2 + (-1)) ≤ 2147483647 by omega)
                refine Jcs (show mx_Sn _ _ 188 (mx_calls 193 3 191) from sn_194 188) hc30 rfl rfl rfl ?_
                refine JiastI hx2 (show mx_Sn _ _ 191 (mx_iast 1 192) from sn_194 191) a64 s64 rfl (by omega) (fun Z31 h31 hx31 hE31 => ?_)
                have hG31 := GI_up hG2 hE31 (show (-2147483648) ≤ z30 ∧ z30 ≤ 2147483647 by omega) trivial rfl
                exact c192 (w1_2 + (-1)) Z31 h31 (by omega) (by omega) hx31 hG31 (fr_tr (M := [(64, (-1))]) fr_rf (fr_ua hE31) (M1 := []) rfl rfl)
              · skip
                refine Jiinc (z := w1_2) (cz := (-2)) (ls2 := [some (.ref 56), some (xI 1), some (xI (w1_2 + (-2))), some (xI w1_3), some (xI (Z 57 ((62 + (Z 57 24)) + w1_3)))]) (show mx_Sn _ _ 119 (mx_iinc 2 (-2) 122) from sn_194 119) rfl rfl rfl rfl ?_
                refine mx_J.step (sn_194 122) (fun _ _ => rfl) ?_
                refine JgetR (g := 19) (b := 64) hx2 (show mx_Sn _ _ 123 (mx_getf 12 19 126) from sn_194 123) a56 s56 rfl rfl (hG2.prr 56 19 rfl) ?_
                refine mx_J.step (sn_194 126) (fun _ _ => rfl) ?_
                refine JcI (z := 1) (show mx_Sn _ _ 127 (mx_const (.int 1) 128) from sn_194 127) rfl ?_
                refine Jisub (show mx_Sn _ _ 128 (mx_isub 129) from sn_194 128) ?_
                refine mx_J.step (sn_194 129) (fun _ _ => rfl) ?_
                refine JgetR (g := 19) (b := 64) hx2 (show mx_Sn _ _ 130 (mx_getf 12 19 133) from sn_194 130) a56 s56 rfl rfl (hG2.prr 56 19 rfl) ?_
                refine mx_J.step (sn_194 133) (fun _ _ => rfl) ?_
                refine JcI (z := 1) (show mx_Sn _ _ 134 (mx_const (.int 1) 135) from sn_194 134) rfl ?_
                refine Jisub (show mx_Sn _ _ 135 (mx_isub 136) from sn_194 135) ?_
                have b34 : (-2147483648) ≤ Z2 64 ((w1_2 + (-2)) - 1) ∧ Z2 64 ((w1_2 + (-2)) - 1) ≤ 2147483647 := hG2.pr 64 ((w1_2 + (-2)) - 1)
                refine JialdI (z := Z2 64 ((w1_2 + (-2)) - 1)) hx2 (show mx_Sn _ _ 136 (mx_iald 137) from sn_194 136) a64 s64 (by omega) rfl ?_
                refine JcI (z := 1) (show mx_Sn _ _ 137 (mx_const (.int 1) 138) from sn_194 137) rfl ?_
                have c158 : ∀ (k35_2 : Int), (-2147483648) ≤ k35_2 ∧ k35_2 ≤ 2147483647 → mx_J (tB l D b0 ad Hb tau) mt_194 (d + 1) 158 [some (.ref 56), some (xI 1), some (xI (w1_2 + (-2))), some (xI w1_3), some (xI (Z 57 ((62 + (Z 57 24)) + w1_3)))] [xI k35_2, xI ((w1_2 + (-2)) - 1), .ref 64] h2 Post := by
                  intro k35_2 f35_0
                  refine JiastI hx2 (show mx_Sn _ _ 158 (mx_iast 1 159) from sn_194 158) a64 s64 rfl (by omega) (fun Z36 h36 hx36 hE36 => ?_)
                  have hG36 := GI_up hG2 hE36 (show (-2147483648) ≤ k35_2 ∧ k35_2 ≤ 2147483647 by omega) trivial rfl
                  refine mx_J.step (sn_194 159) (fun _ _ => rfl) ?_
                  exact c192 (w1_2 + (-2)) Z36 h36 (by omega) (by omega) hx36 hG36 (fr_tr (M := [(64, (-1))]) fr_rf (fr_ua hE36) (M1 := []) rfl rfl)
                refine Jicmp_ne (show mx_Sn _ _ 138 (mx_icmp_ne 150 141) from sn_194 138) (by omega) (by omega) (fun q37 => ?_) (fun q37 => ?_)
                · skip
                  refine mx_J.step (sn_194 150) (fun _ _ => rfl) ?_
                  refine JgetR (g := 19) (b := 64) hx2 (show mx_Sn _ _ 151 (mx_getf 12 19 154) from sn_194 151) a56 s56 rfl rfl (hG2.prr 56 19 rfl) ?_
                  refine mx_J.step (sn_194 154) (fun _ _ => rfl) ?_
                  refine JcI (z := 1) (show mx_Sn _ _ 155 (mx_const (.int 1) 156) from sn_194 155) rfl ?_
                  refine Jiadd (show mx_Sn _ _ 156 (mx_iadd 157) from sn_194 156) ?_
                  have b39 : (-2147483648) ≤ Z2 64 ((w1_2 + (-2)) + 1) ∧ Z2 64 ((w1_2 + (-2)) + 1) ≤ 2147483647 := hG2.pr 64 ((w1_2 + (-2)) + 1)
                  refine JialdI (z := Z2 64 ((w1_2 + (-2)) + 1)) hx2 (show mx_Sn _ _ 157 (mx_iald 158) from sn_194 157) a64 s64 (by omega) rfl ?_
                  exact c158 (Z2 64 ((w1_2 + (-2)) + 1)) (by omega)
                · skip
                  refine mx_J.step (sn_194 141) (fun _ _ => rfl) ?_
                  refine JgetR (g := 19) (b := 64) hx2 (show mx_Sn _ _ 142 (mx_getf 12 19 145) from sn_194 142) a56 s56 rfl rfl (hG2.prr 56 19 rfl) ?_
                  refine mx_J.step (sn_194 145) (fun _ _ => rfl) ?_
                  have b41 : (-2147483648) ≤ Z2 64 (w1_2 + (-2)) ∧ Z2 64 (w1_2 + (-2)) ≤ 2147483647 := hG2.pr 64 (w1_2 + (-2))
                  refine JialdI (z := Z2 64 (w1_2 + (-2))) hx2 (show mx_Sn _ _ 146 (mx_iald 147) from sn_194 146) a64 s64 (by omega) rfl ?_
                  refine mx_J.step (sn_194 147) (fun _ _ => rfl) ?_
                  exact c158 (Z2 64 (w1_2 + (-2))) (by omega)
            · skip
              refine mx_J.step (sn_194 90) (fun _ _ => rfl) ?_
              refine JgetR (g := 19) (b := 64) hx2 (show mx_Sn _ _ 91 (mx_getf 12 19 94) from sn_194 91) a56 s56 rfl rfl (hG2.prr 56 19 rfl) ?_
              refine mx_J.step (sn_194 94) (fun _ _ => rfl) ?_
              refine JcI (z := 1) (show mx_Sn _ _ 95 (mx_const (.int 1) 96) from sn_194 95) rfl ?_
              refine Jisub (show mx_Sn _ _ 96 (mx_isub 97) from sn_194 96) ?_
              refine JcI (z := 1) (show mx_Sn _ _ 97 (mx_const (.int 1) 98) from sn_194 97) rfl ?_
              refine mx_J.step (sn_194 98) (fun _ _ => rfl) ?_
              refine JgetR (g := 19) (b := 64) hx2 (show mx_Sn _ _ 99 (mx_getf 12 19 102) from sn_194 99) a56 s56 rfl rfl (hG2.prr 56 19 rfl) ?_
              refine mx_J.step (sn_194 102) (fun _ _ => rfl) ?_
              refine JcI (z := 1) (show mx_Sn _ _ 103 (mx_const (.int 1) 104) from sn_194 103) rfl ?_
              refine Jisub (show mx_Sn _ _ 104 (mx_isub 105) from sn_194 104) ?_
              have b44 : (-2147483648) ≤ Z2 64 (w1_2 - 1) ∧ Z2 64 (w1_2 - 1) ≤ 2147483647 := hG2.pr 64 (w1_2 - 1)
              refine JialdI (z := Z2 64 (w1_2 - 1)) hx2 (show mx_Sn _ _ 105 (mx_iald 106) from sn_194 105) a64 s64 (by omega) rfl ?_
              refine JisubN (show mx_Sn _ _ 106 (mx_isub 107) from sn_194 106) (fun y45 hy45 hq45 => ?_)
              refine JiastI hx2 (show mx_Sn _ _ 107 (mx_iast 1 108) from sn_194 107) a64 s64 rfl (by omega) (fun Z46 h46 hx46 hE46 => ?_)
              have hG46 := GI_up hG2 hE46 (show (-2147483648) ≤ y45 ∧ y45 ≤ 2147483647 by omega) trivial rfl
              refine mx_J.step (sn_194 108) (fun _ _ => rfl) ?_
              exact c192 w1_2 Z46 h46 (by omega) (by omega) hx46 hG46 (fr_tr (M := [(64, (-1))]) fr_rf (fr_ua hE46) (M1 := []) rfl rfl)
          · skip
            refine mx_J.step (sn_194 46) (fun _ _ => rfl) ?_
            refine JgetR (g := 19) (b := 64) hx2 (show mx_Sn _ _ 47 (mx_getf 12 19 50) from sn_194 47) a56 s56 rfl rfl (hG2.prr 56 19 rfl) ?_
            refine mx_J.step (sn_194 50) (fun _ _ => rfl) ?_
            refine mx_J.step (sn_194 51) (fun _ _ => rfl) ?_
            refine JcI (z := 1000) (show mx_Sn _ _ 53 (mx_const (.int 1000) 56) from sn_194 53) rfl ?_
            have c75 : ∀ (k48_2 : Int), (-2147483648) ≤ k48_2 ∧ k48_2 ≤ 2147483647 → mx_J (tB l D b0 ad Hb tau) mt_194 (d + 1) 75 [some (.ref 56), some (xI 1), some (xI w1_2), some (xI w1_3), some (xI (Z 57 ((62 + (Z 57 24)) + w1_3)))] [xI k48_2, xI w1_2, .ref 64] h2 Post := by
              intro k48_2 f48_0
              refine JiastI hx2 (show mx_Sn _ _ 75 (mx_iast 1 76) from sn_194 75) a64 s64 rfl (by omega) (fun Z49 h49 hx49 hE49 => ?_)
              have hG49 := GI_up hG2 hE49 (show (-2147483648) ≤ k48_2 ∧ k48_2 ≤ 2147483647 by omega) trivial rfl
              refine Jiinc (z := w1_2) (cz := 1) (ls2 := [some (.ref 56), some (xI 1), some (xI (w1_2 + 1)), some (xI w1_3), some (xI (Z 57 ((62 + (Z 57 24)) + w1_3)))]) (show mx_Sn _ _ 76 (mx_iinc 2 1 79) from sn_194 76) rfl rfl rfl rfl ?_
              refine mx_J.step (sn_194 79) (fun _ _ => rfl) ?_
              exact c192 (w1_2 + 1) Z49 h49 (by omega) (by omega) hx49 hG49 (fr_tr (M := [(64, (-1))]) fr_rf (fr_ua hE49) (M1 := []) rfl rfl)
            refine Jicmp_ge (show mx_Sn _ _ 56 (mx_icmp_ge 64 59) from sn_194 56) (by omega) (by omega) (fun q50 => ?_) (fun q50 => ?_)
            · skip
              refine mx_J.step (sn_194 64) (fun _ _ => rfl) ?_
              refine JgetR (g := 20) (b := 65) hx2 (show mx_Sn _ _ 65 (mx_getf 12 20 68) from sn_194 65) a56 s56 rfl rfl (hG2.prr 56 20 rfl) ?_
              refine mx_J.step (sn_194 68) (fun _ _ => rfl) ?_
              refine JcI (z := 1000) (show mx_Sn _ _ 70 (mx_const (.int 1000) 73) from sn_194 70) rfl ?_
              refine Jisub (show mx_Sn _ _ 73 (mx_isub 74) from sn_194 73) ?_
              have b52 : (-2147483648) ≤ Z 65 ((Z 57 ((62 + (Z 57 24)) + w1_3)) - 1000) ∧ Z 65 ((Z 57 ((62 + (Z 57 24)) + w1_3)) - 1000) ≤ 2147483647 := hG.pr 65 ((Z 57 ((62 + (Z 57 24)) + w1_3)) - 1000)
              refine JialdI (z := Z 65 ((Z 57 ((62 + (Z 57 24)) + w1_3)) - 1000)) hx2 (show mx_Sn _ _ 74 (mx_iald 75) from sn_194 74) a65 s65 (by omega) (hf2 65 ((Z 57 ((62 + (Z 57 24)) + w1_3)) - 1000) rfl) ?_
              exact c75 (Z 65 ((Z 57 ((62 + (Z 57 24)) + w1_3)) - 1000)) (by omega)
            · skip
              refine mx_J.step (sn_194 59) (fun _ _ => rfl) ?_
              refine mx_J.step (sn_194 61) (fun _ _ => rfl) ?_
              exact c75 (Z 57 ((62 + (Z 57 24)) + w1_3)) (by omega)
    exact c4 (Int.toNat (900 - 0) + 1) 0 0 none Z h (by omega) (by omega) (by omega) (by first | exact ⟨dp_01.symm, by omega, by omega, by omega⟩ | omega) hx hG fr_rf
theorem ct_194_56_i1 {l : Launch} {D : va_G} {b0 : Nat} {ad : Nat → Nat} {Hb : Heap} {tau : Nat → Int64} {d n s : Nat} {S : Nat → xS} {Z : xZ} {h : mx_H} (hx : XH n s S Z h) (hG : GI n S Z)   (k0 : Z 57 22 = 1) : ∃ (z : Int) (Z' : xZ) (h' : mx_H), mx_Ca (tB l D b0 ad Hb tau) (d + 2) 194 [.ref 56, xI 1] h (some (xI z), h') ∧ XH n s S Z' h' ∧ GI n S Z' ∧ fr' [(64, (-1))] Z Z' ∧ ((-2147483648) ≤ z ∧ z ≤ 2147483647) := by
  obtain ⟨r, hca, z, Z', h', e, q⟩ := Jmt (B := tB l D b0 ad Hb tau) (M := mt_194) (mi := 194) (as := [.ref 56, xI 1]) (d := d + 1) (ls := [some (.ref 56), some (xI 1), none, none, none]) rfl rfl rfl rfl rfl rfl (cw_194_56_i1 (l := l) (D := D) (b0 := b0) (ad := ad) (Hb := Hb) (tau := tau) (d := d) (Post := fun r => ∃ (z : Int) (Z' : xZ) (h' : mx_H), r = (some (xI z), h') ∧ XH n s S Z' h' ∧ GI n S Z' ∧ fr' [(64, (-1))] Z Z' ∧ ((-2147483648) ≤ z ∧ z ≤ 2147483647)) hx hG k0 (fun z Z' h' q1 q2 q3 q4 => ⟨z, Z', h', rfl, q1, q2, q3, q4⟩))
  subst e; exact ⟨z, Z', h', hca, q⟩
set_option maxRecDepth 100000 in
theorem cw_195_56 {l : Launch} {D : va_G} {b0 : Nat} {ad : Nat → Nat} {Hb : Heap} {tau : Nat → Int64} {d n s : Nat} {S : Nat → xS} {Z : xZ} {h : mx_H} {Post : mx_R → Prop} (hx : XH n s S Z h) (hG : GI n S Z)  {x0 x1 x2 : Int} (p0 : 0 ≤ x0 ∧ x0 ≤ 384) (p1 : 0 ≤ x1 ∧ x1 ≤ 17) (p2 : 0 ≤ x2 ∧ x2 ≤ 9) (hP : ∀ (z : Int) (Z' : xZ) (h' : mx_H), XH n s S Z' h' → GI n S Z' → fr' [(64, (-1)), (65, (-1))] Z Z' → 0 ≤ z ∧ z ≤ 18 → Post (some (xI z), h')) : mx_J (tB l D b0 ad Hb tau) mt_195 (d + 2) 0 [some (.ref 56), some (xI x0), some (xI x1), some (xI x2), none] [] h Post := by
    have a56 : 56 < n := lt83 (GI_n hG) rfl
    have s56 : S 56 = .inl (12, [0, 2, 2, 2, 2, 0, 0, 0, 0, 0, 0, 0, 0, 0, 0, 2, 2, 2, 0, 2, 2, 2, 0, 0, 2, 2, 2, 2, 2, 2, 0, 0, 2, 2, 2, 2, 2, 2, 2, 2, 2, 2]) := GI_s hG 56 rfl
    have a57 : 57 < n := lt83 (GI_n hG) rfl
    have s57 : S 57 = .inr (.int, 2886, 0) := GI_s hG 57 rfl
    have a65 : 65 < n := lt83 (GI_n hG) rfl
    have s65 : S 65 = .inr (.int, 5, 0) := GI_s hG 65 rfl
    refine mx_J.step (sn_195 0) (fun _ _ => rfl) ?_
    refine JgetR (g := 20) (b := 65) hx (show mx_Sn _ _ 1 (mx_getf 12 20 4) from sn_195 1) a56 s56 rfl rfl (hG.prr 56 20 rfl) ?_
    refine JcI (z := 0) (show mx_Sn _ _ 4 (mx_const (.int 0) 5) from sn_195 4) rfl ?_
    refine mx_J.step (sn_195 5) (fun _ _ => rfl) ?_
    refine mx_J.step (sn_195 6) (fun _ _ => rfl) ?_
    refine mx_J.step (sn_195 7) (fun _ _ => rfl) ?_
    have b3 : 0 ≤ Z 61 (18 * x0 + x1) ∧ Z 61 (18 * x0 + x1) ≤ 18 := hG.pr 61 (18 * x0 + x1)
    obtain ⟨z2, hc2, b2⟩ := ct_190_56 (d := d + 1) (l := l) (D := D) (b0 := b0) (ad := ad) (Hb := Hb) (tau := tau) hx hG (show 0 ≤ x0 ∧ x0 ≤ 384 by omega) (show 0 ≤ x1 ∧ x1 ≤ 17 by omega)
    refine Jcv hx (show mx_Sn _ _ 8 (mx_callv 190 3 12 11) from sn_195 8) a56 s56 hc2 rfl rfl rfl ?_
    refine JiastI hx (show mx_Sn _ _ 11 (mx_iast 1 12) from sn_195 11) a65 s65 rfl (by omega) (fun Z4 h4 hx4 hE4 => ?_)
    have hG4 := GI_up hG hE4 (show (-2147483648) ≤ z2 ∧ z2 ≤ 2147483647 by omega) trivial rfl
    refine mx_J.step (sn_195 12) (fun _ _ => rfl) ?_
    refine JgetR (g := 20) (b := 65) hx4 (show mx_Sn _ _ 13 (mx_getf 12 20 16) from sn_195 13) a56 s56 rfl rfl (hG4.prr 56 20 rfl) ?_
    refine JcI (z := 1) (show mx_Sn _ _ 16 (mx_const (.int 1) 17) from sn_195 16) rfl ?_
    refine mx_J.step (sn_195 17) (fun _ _ => rfl) ?_
    refine JiastI hx4 (show mx_Sn _ _ 18 (mx_iast 1 19) from sn_195 18) a65 s65 rfl (by omega) (fun Z6 h6 hx6 hE6 => ?_)
    have hG6 := GI_up hG4 hE6 (show (-2147483648) ≤ x1 ∧ x1 ≤ 2147483647 by omega) trivial rfl
    refine mx_J.step (sn_195 19) (fun _ _ => rfl) ?_
    refine JgetR (g := 20) (b := 65) hx6 (show mx_Sn _ _ 20 (mx_getf 12 20 23) from sn_195 20) a56 s56 rfl rfl (hG6.prr 56 20 rfl) ?_
    refine JcI (z := 2) (show mx_Sn _ _ 23 (mx_const (.int 2) 24) from sn_195 23) rfl ?_
    refine mx_J.step (sn_195 24) (fun _ _ => rfl) ?_
    refine mx_J.step (sn_195 25) (fun _ _ => rfl) ?_
    have eq9 : mn Z6 x0 = mn Z x0 := ((mn_c (fun i => up_nk hE6 rfl)).trans (mn_c (fun i => up_nk hE4 rfl)))
    obtain ⟨z8, hc8, b8⟩ := ct_191_56 (d := d + 0) (l := l) (D := D) (b0 := b0) (ad := ad) (Hb := Hb) (tau := tau) hx6 hG6 (show 0 ≤ x0 ∧ x0 ≤ 384 by omega)
    refine Jcv hx6 (show mx_Sn _ _ 26 (mx_callv 191 2 12 29) from sn_195 26) a56 s56 hc8 rfl rfl rfl ?_
    refine JiastI hx6 (show mx_Sn _ _ 29 (mx_iast 1 30) from sn_195 29) a65 s65 rfl (by omega) (fun Z10 h10 hx10 hE10 => ?_)
    have hG10 := GI_up hG6 hE10 (show (-2147483648) ≤ z8 ∧ z8 ≤ 2147483647 by omega) trivial rfl
    refine mx_J.step (sn_195 30) (fun _ _ => rfl) ?_
    refine JgetR (g := 20) (b := 65) hx10 (show mx_Sn _ _ 31 (mx_getf 12 20 34) from sn_195 31) a56 s56 rfl rfl (hG10.prr 56 20 rfl) ?_
    refine JcI (z := 3) (show mx_Sn _ _ 34 (mx_const (.int 3) 35) from sn_195 34) rfl ?_
    refine mx_J.step (sn_195 35) (fun _ _ => rfl) ?_
    refine JgetR (g := 1) (b := 57) hx10 (show mx_Sn _ _ 36 (mx_getf 12 1 39) from sn_195 36) a56 s56 rfl rfl (hG10.prr 56 1 rfl) ?_
    refine JcI (z := 1) (show mx_Sn _ _ 39 (mx_const (.int 1) 40) from sn_195 39) rfl ?_
    have b13 : 0 ≤ Z 57 1 ∧ Z 57 1 ≤ 18 := by have hq := GI_ex hG 57 1; replace hq : f57 (1 % 962) (Z 57 1) := hq; unfold f57 at hq; omega
    have b14 : (-2147483648) ≤ Z 57 1 ∧ Z 57 1 ≤ 2147483647 := hG.pr 57 1
    refine JialdI (z := Z 57 1) hx10 (show mx_Sn _ _ 40 (mx_iald 41) from sn_195 40) a57 s57 (by omega) ((up_nk hE10 rfl).trans ((up_nk hE6 rfl).trans (up_nk hE4 rfl))) ?_
    refine JiastI hx10 (show mx_Sn _ _ 41 (mx_iast 1 42) from sn_195 41) a65 s65 rfl (by omega) (fun Z15 h15 hx15 hE15 => ?_)
    have hG15 := GI_up hG10 hE15 (show (-2147483648) ≤ Z 57 1 ∧ Z 57 1 ≤ 2147483647 by omega) trivial rfl
    refine mx_J.step (sn_195 42) (fun _ _ => rfl) ?_
    refine JgetR (g := 20) (b := 65) hx15 (show mx_Sn _ _ 43 (mx_getf 12 20 46) from sn_195 43) a56 s56 rfl rfl (hG15.prr 56 20 rfl) ?_
    refine JcI (z := 4) (show mx_Sn _ _ 46 (mx_const (.int 4) 47) from sn_195 46) rfl ?_
    refine mx_J.step (sn_195 47) (fun _ _ => rfl) ?_
    refine JiastI hx15 (show mx_Sn _ _ 48 (mx_iast 1 49) from sn_195 48) a65 s65 rfl (by omega) (fun Z17 h17 hx17 hE17 => ?_)
    have hG17 := GI_up hG15 hE17 (show (-2147483648) ≤ x2 ∧ x2 ≤ 2147483647 by omega) trivial rfl
    refine mx_J.step (sn_195 49) (fun _ _ => rfl) ?_
    refine JgetR (g := 1) (b := 57) hx17 (show mx_Sn _ _ 50 (mx_getf 12 1 53) from sn_195 50) a56 s56 rfl rfl (hG17.prr 56 1 rfl) ?_
    refine JcI (z := 22) (show mx_Sn _ _ 53 (mx_const (.int 22) 55) from sn_195 53) rfl ?_
    have b19 : 0 ≤ Z 57 22 ∧ Z 57 22 ≤ 1 := by have hq := GI_ex hG 57 22; replace hq : f57 (22 % 962) (Z 57 22) := hq; unfold f57 at hq; omega
    have b20 : (-2147483648) ≤ Z 57 22 ∧ Z 57 22 ≤ 2147483647 := hG.pr 57 22
    refine JialdI (z := Z 57 22) hx17 (show mx_Sn _ _ 55 (mx_iald 56) from sn_195 55) a57 s57 (by omega) ((up_nk hE17 rfl).trans ((up_nk hE15 rfl).trans ((up_nk hE10 rfl).trans ((up_nk hE6 rfl).trans (up_nk hE4 rfl))))) ?_
    refine JcI (z := 1) (show mx_Sn _ _ 56 (mx_const (.int 1) 57) from sn_195 56) rfl ?_
    have c70 : ∀  (Z22 : xZ) (h22 : mx_H), XH n s S Z22 h22 → GI n S Z22 → fr' [(64, (-1))] Z17 Z22 → mx_J (tB l D b0 ad Hb tau) mt_195 (d + 2) 70 [some (.ref 56), some (xI x0), some (xI x1), some (xI x2), none] [] h22 Post := by
      intro Z22 h22 hx22 hG22 hf22
      refine mx_J.step (sn_195 70) (fun _ _ => rfl) ?_
      refine JgetR (g := 1) (b := 57) hx22 (show mx_Sn _ _ 71 (mx_getf 12 1 74) from sn_195 71) a56 s56 rfl rfl (hG22.prr 56 1 rfl) ?_
      refine JcI (z := 21) (show mx_Sn _ _ 74 (mx_const (.int 21) 76) from sn_195 74) rfl ?_
      have b24 : 0 ≤ Z 57 21 ∧ Z 57 21 ≤ 1 := by have hq := GI_ex hG 57 21; replace hq : f57 (21 % 962) (Z 57 21) := hq; unfold f57 at hq; omega
      have b25 : (-2147483648) ≤ Z 57 21 ∧ Z 57 21 ≤ 2147483647 := hG.pr 57 21
      refine JialdI (z := Z 57 21) hx22 (show mx_Sn _ _ 76 (mx_iald 77) from sn_195 76) a57 s57 (by omega) ((hf22 57 21 rfl).trans ((up_nk hE17 rfl).trans ((up_nk hE15 rfl).trans ((up_nk hE10 rfl).trans ((up_nk hE6 rfl).trans (up_nk hE4 rfl)))))) ?_
      refine JcI (z := 1) (show mx_Sn _ _ 77 (mx_const (.int 1) 78) from sn_195 77) rfl ?_
      have c90 : ∀ (k26_0 : Int) (Z27 : xZ) (h27 : mx_H), (-2147483648) ≤ k26_0 ∧ k26_0 ≤ 2147483647 → XH n s S Z27 h27 → GI n S Z27 → fr' [(64, (-1))] Z22 Z27 → mx_J (tB l D b0 ad Hb tau) mt_195 (d + 2) 90 [some (.ref 56), some (xI x0), some (xI x1), some (xI x2), none] [xI k26_0] h27 Post := by
        intro k26_0 Z27 h27 f26_0 hx27 hG27 hf27
        refine mx_J.step (ls2 := [some (.ref 56), some (xI x0), some (xI x1), some (xI x2), some (xI k26_0)]) (sn_195 90) (fun _ _ => rfl) ?_
        refine mx_J.step (sn_195 92) (fun _ _ => rfl) ?_
        have c123 : ∀ (k28_0 : Int), 0 ≤ k28_0 ∧ k28_0 ≤ 18 → mx_J (tB l D b0 ad Hb tau) mt_195 (d + 2) 123 [some (.ref 56), some (xI x0), some (xI x1), some (xI x2), some (xI k26_0)] [xI k28_0] h27 Post := by
          intro k28_0 f28_0
          exact mx_J.ret (sn_195 123) (fun _ _ => rfl) (hP k28_0 Z27 h27 hx27 hG27 (fr_tr (M := [(64, (-1)), (65, (-1))]) (fr_tr (M := [(64, (-1)), (65, (-1))]) (fr_tr (M := [(64, (-1)), (65, (-1))]) (fr_tr (M := [(64, (-1)), (65, (-1))]) (fr_tr (M := [(64, (-1)), (65, (-1))]) (fr_tr (M := [(64, (-1)), (65, (-1))]) (fr_tr (M := [(64, (-1)), (65, (-1))]) fr_rf (fr_ua hE4) (M1 := []) rfl rfl) (fr_ua hE6) rfl rfl) (fr_ua hE10) rfl rfl) (fr_ua hE15) rfl rfl) (fr_ua hE17) rfl rfl) (hf22) rfl rfl) (hf27) rfl rfl) (by omega))
        refine Jif_ge (show mx_Sn _ _ 94 (mx_if_ge 101 97) from sn_195 94) (by omega) (fun q29 => ?_) (fun q29 => ?_)
        · skip
          refine mx_J.step (sn_195 101) (fun _ _ => rfl) ?_
          refine mx_J.step (sn_195 103) (fun _ _ => rfl) ?_
          refine JgetR (g := 20) (b := 65) hx27 (show mx_Sn _ _ 104 (mx_getf 12 20 107) from sn_195 104) a56 s56 rfl rfl (hG27.prr 56 20 rfl) ?_
          refine JcI (z := 0) (show mx_Sn _ _ 107 (mx_const (.int 0) 108) from sn_195 107) rfl ?_
          refine JialdI (z := z2) hx27 (show mx_Sn _ _ 108 (mx_iald 109) from sn_195 108) a65 s65 (by omega) ((hf27 65 0 rfl).trans ((hf22 65 0 rfl).trans ((up_ni hE17 (by decide)).trans ((up_ni hE15 (by decide)).trans ((up_ni hE10 (by decide)).trans ((up_ni hE6 (by decide)).trans (up_at hE4))))))) ?_
          refine Jicmp_le (show mx_Sn _ _ 109 (mx_icmp_le 121 112) from sn_195 109) (by omega) (by omega) (fun q31 => ?_) (fun q31 => ?_)
          · skip
            refine mx_J.step (sn_195 121) (fun _ _ => rfl) ?_
            exact c123 k26_0 (by omega)
          · skip
            refine mx_J.step (sn_195 112) (fun _ _ => rfl) ?_
            refine JgetR (g := 20) (b := 65) hx27 (show mx_Sn _ _ 113 (mx_getf 12 20 116) from sn_195 113) a56 s56 rfl rfl (hG27.prr 56 20 rfl) ?_
            refine JcI (z := 0) (show mx_Sn _ _ 116 (mx_const (.int 0) 117) from sn_195 116) rfl ?_
            refine JialdI (z := z2) hx27 (show mx_Sn _ _ 117 (mx_iald 118) from sn_195 117) a65 s65 (by omega) ((hf27 65 0 rfl).trans ((hf22 65 0 rfl).trans ((up_ni hE17 (by decide)).trans ((up_ni hE15 (by decide)).trans ((up_ni hE10 (by decide)).trans ((up_ni hE6 (by decide)).trans (up_at hE4))))))) ?_
            refine mx_J.step (sn_195 118) (fun _ _ => rfl) ?_
            exact c123 z2 (by omega)
        · skip
          refine JcI (z := 0) (show mx_Sn _ _ 97 (mx_const (.int 0) 98) from sn_195 97) rfl ?_
          refine mx_J.step (sn_195 98) (fun _ _ => rfl) ?_
          exact c123 0 (by omega)
      refine Jicmp_ne (show mx_Sn _ _ 78 (mx_icmp_ne 89 81) from sn_195 78) (by omega) (by omega) (fun q33 => ?_) (fun q33 => ?_)
      · skip
        refine JcI (z := 1) (show mx_Sn _ _ 89 (mx_const (.int 1) 90) from sn_195 89) rfl ?_
        exact c90 1 Z22 h22 (by omega) hx22 hG22 fr_rf
      · skip
        refine mx_J.step (sn_195 81) (fun _ _ => rfl) ?_
        refine JcI (z := 0) (show mx_Sn _ _ 82 (mx_const (.int 0) 83) from sn_195 82) rfl ?_
        have eq35 : Z22 57 21 = Z 57 21 := ((hf22 57 21 rfl).trans ((up_nk hE17 rfl).trans ((up_nk hE15 rfl).trans ((up_nk hE10 rfl).trans ((up_nk hE6 rfl).trans (up_nk hE4 rfl))))))
        obtain ⟨z34, Z34, h34, hc34, hx34, hG34, hf34, b34⟩ := ct_194_56_i0 (d := d + 0) (l := l) (D := D) (b0 := b0) (ad := ad) (Hb := Hb) (tau := tau) hx22 hG22  (show Z22 57 21 = 1 by first | omega | (simp only [eq35]; omega))
        try rw [eq35] at b34
        refine Jcv hx22 (show mx_Sn _ _ 83 (mx_callv 194 2 12 86) from sn_195 83) a56 s56 hc34 rfl rfl rfl ?_
        refine mx_J.step (sn_195 86) (fun _ _ => rfl) ?_
        exact c90 z34 Z34 h34 (by omega) hx34 hG34 (fr_tr (M := [(64, (-1))]) fr_rf (hf34) (M1 := []) rfl rfl)
    refine Jicmp_ne (show mx_Sn _ _ 57 (mx_icmp_ne 70 60) from sn_195 57) (by omega) (by omega) (fun q36 => ?_) (fun q36 => ?_)
    · skip
      exact c70 Z17 h17 hx17 hG17 fr_rf
    · skip
      refine mx_J.step (sn_195 60) (fun _ _ => rfl) ?_
      refine JcI (z := 1) (show mx_Sn _ _ 61 (mx_const (.int 1) 62) from sn_195 61) rfl ?_
      have eq38 : Z17 57 22 = Z 57 22 := ((up_nk hE17 rfl).trans ((up_nk hE15 rfl).trans ((up_nk hE10 rfl).trans ((up_nk hE6 rfl).trans (up_nk hE4 rfl)))))
      obtain ⟨z37, Z37, h37, hc37, hx37, hG37, hf37, b37⟩ := ct_194_56_i1 (d := d + 0) (l := l) (D := D) (b0 := b0) (ad := ad) (Hb := Hb) (tau := tau) hx17 hG17  (show Z17 57 22 = 1 by first | omega | (simp only [eq38]; omega))
      try rw [eq38] at b37
      refine Jcv hx17 (show mx_Sn _ _ 62 (mx_callv 194 2 12 65) from sn_195 62) a56 s56 hc37 rfl rfl rfl ?_
      refine Jif_ne (show mx_Sn _ _ 65 (mx_if_ne 70 68) from sn_195 65) (by omega) (fun q39 => ?_) (fun q39 => ?_)
      · skip
        exact c70 Z37 h37 hx37 hG37 (fr_tr (M := [(64, (-1))]) fr_rf (hf37) (M1 := []) rfl rfl)
      · skip
        refine JcI (z := 0) (show mx_Sn _ _ 68 (mx_const (.int 0) 69) from sn_195 68) rfl ?_
        exact mx_J.ret (sn_195 69) (fun _ _ => rfl) (hP 0 Z37 h37 hx37 hG37 (fr_tr (M := [(64, (-1)), (65, (-1))]) (fr_tr (M := [(64, (-1)), (65, (-1))]) (fr_tr (M := [(64, (-1)), (65, (-1))]) (fr_tr (M := [(64, (-1)), (65, (-1))]) (fr_tr (M := [(64, (-1)), (65, (-1))]) (fr_tr (M := [(64, (-1)), (65, (-1))]) fr_rf (fr_ua hE4) (M1 := []) rfl rfl) (fr_ua hE6) rfl rfl) (fr_ua hE10) rfl rfl) (fr_ua hE15) rfl rfl) (fr_ua hE17) rfl rfl) (hf37) rfl rfl) (by omega))
theorem ct_195_56 {l : Launch} {D : va_G} {b0 : Nat} {ad : Nat → Nat} {Hb : Heap} {tau : Nat → Int64} {d n s : Nat} {S : Nat → xS} {Z : xZ} {h : mx_H} (hx : XH n s S Z h) (hG : GI n S Z)  {x0 x1 x2 : Int} (p0 : 0 ≤ x0 ∧ x0 ≤ 384) (p1 : 0 ≤ x1 ∧ x1 ≤ 17) (p2 : 0 ≤ x2 ∧ x2 ≤ 9) : ∃ (z : Int) (Z' : xZ) (h' : mx_H), mx_Ca (tB l D b0 ad Hb tau) (d + 3) 195 [.ref 56, xI x0, xI x1, xI x2] h (some (xI z), h') ∧ XH n s S Z' h' ∧ GI n S Z' ∧ fr' [(64, (-1)), (65, (-1))] Z Z' ∧ (0 ≤ z ∧ z ≤ 18) := by
  obtain ⟨r, hca, z, Z', h', e, q⟩ := Jmt (B := tB l D b0 ad Hb tau) (M := mt_195) (mi := 195) (as := [.ref 56, xI x0, xI x1, xI x2]) (d := d + 2) (ls := [some (.ref 56), some (xI x0), some (xI x1), some (xI x2), none]) rfl rfl rfl rfl rfl rfl (cw_195_56 (l := l) (D := D) (b0 := b0) (ad := ad) (Hb := Hb) (tau := tau) (d := d) (Post := fun r => ∃ (z : Int) (Z' : xZ) (h' : mx_H), r = (some (xI z), h') ∧ XH n s S Z' h' ∧ GI n S Z' ∧ fr' [(64, (-1)), (65, (-1))] Z Z' ∧ (0 ≤ z ∧ z ≤ 18)) hx hG p0 p1 p2 (fun z Z' h' q1 q2 q3 q4 => ⟨z, Z', h', rfl, q1, q2, q3, q4⟩))
  subst e; exact ⟨z, Z', h', hca, q⟩
set_option maxRecDepth 100000 in
theorem cw_196_56 {l : Launch} {D : va_G} {b0 : Nat} {ad : Nat → Nat} {Hb : Heap} {tau : Nat → Int64} {d n s : Nat} {S : Nat → xS} {Z : xZ} {h : mx_H} {Post : mx_R → Prop} (hx : XH n s S Z h) (hG : GI n S Z)  {x0 x1 x2 : Int} (p0 : 0 ≤ x0 ∧ x0 ≤ 384) (p1 : (-2147483648) ≤ x1 ∧ x1 ≤ 2147483647) (p2 : 0 ≤ x2 ∧ x2 ≤ 9) (hP : ∀ (z : Int) (Z' : xZ) (h' : mx_H), XH n s S Z' h' → GI n S Z' → fr' [(62, (-1)), (64, (-1)), (65, (-1))] Z Z' → 0 ≤ z ∧ z ≤ 384 ∧ z < Z 56 18 → Post (some (xI z), h')) : mx_J (tB l D b0 ad Hb tau) mt_196 (d + 3) 0 [some (.ref 56), some (xI x0), some (xI x1), some (xI x2), none, none, none] [] h Post := by
    have a56 : 56 < n := lt83 (GI_n hG) rfl
    have s56 : S 56 = .inl (12, [0, 2, 2, 2, 2, 0, 0, 0, 0, 0, 0, 0, 0, 0, 0, 2, 2, 2, 0, 2, 2, 2, 0, 0, 2, 2, 2, 2, 2, 2, 0, 0, 2, 2, 2, 2, 2, 2, 2, 2, 2, 2]) := GI_s hG 56 rfl
    have a62 : 62 < n := lt83 (GI_n hG) rfl
    have s62 : S 62 = .inr (.int, 20, 0) := GI_s hG 62 rfl
    refine mx_J.step (sn_196 0) (fun _ _ => rfl) ?_
    obtain ⟨Z1, h1, hc1, hx1, hG1, hf1, b1⟩ := ct_186_56 (d := d + 2) (l := l) (D := D) (b0 := b0) (ad := ad) (Hb := Hb) (tau := tau) hx hG 
    have bs1_0 := b1
    clear b1
    refine Jcv0 hx (show mx_Sn _ _ 1 (mx_callv 186 1 12 4) from sn_196 1) a56 s56 hc1 rfl rfl rfl ?_
    refine JcI (z := 0) (show mx_Sn _ _ 4 (mx_const (.int 0) 5) from sn_196 4) rfl ?_
    refine mx_J.step (ls2 := [some (.ref 56), some (xI x0), some (xI x1), some (xI x2), some (xI 0), none, none]) (sn_196 5) (fun _ _ => rfl) ?_
    refine JcI (z := 0) (show mx_Sn _ _ 7 (mx_const (.int 0) 8) from sn_196 7) rfl ?_
    refine mx_J.step (ls2 := [some (.ref 56), some (xI x0), some (xI x1), some (xI x2), some (xI 0), some (xI 0), none]) (sn_196 8) (fun _ _ => rfl) ?_
    have c10 : ∀ (m2 : Nat) (w2_4 : Int) (w2_5 : Int) (u2_6 : Option Value) (Z3 : xZ) (h3 : mx_H), 18 - w2_5 < (m2 : Int) → (-2147483648) ≤ w2_4 ∧ w2_4 ≤ 2147483647 → 0 ≤ w2_5 ∧ w2_5 ≤ 18 → XH n s S Z3 h3 → GI n S Z3 → fr' [(62, (-1)), (64, (-1)), (65, (-1))] Z1 Z3 → mx_J (tB l D b0 ad Hb tau) mt_196 (d + 3) 10 [some (.ref 56), some (xI x0), some (xI x1), some (xI x2), some (xI w2_4), some (xI w2_5), u2_6] [] h3 Post := by
      intro m2
      induction m2 with
      | zero => intro w2_4 w2_5 u2_6 Z3 h3 q2 f2_0 f2_1 hx3 hG3 hf3; exact absurd q2 (by omega)
      | succ m2 ih2 =>
        intro w2_4 w2_5 u2_6 Z3 h3 q2 f2_0 f2_1 hx3 hG3 hf3
        refine mx_J.step (sn_196 10) (fun _ _ => rfl) ?_
        refine JcI (z := 18) (show mx_Sn _ _ 12 (mx_const (.int 18) 14) from sn_196 12) rfl ?_
        refine Jicmp_ge (show mx_Sn _ _ 14 (mx_icmp_ge 80 17) from sn_196 14) (by omega) (by omega) (fun q4 => ?_) (fun q4 => ?_)
        · skip
          refine mx_J.step (sn_196 80) (fun _ _ => rfl) ?_
          refine JgetR (g := 16) (b := 62) hx3 (show mx_Sn _ _ 81 (mx_getf 12 16 84) from sn_196 81) a56 s56 rfl rfl (hG3.prr 56 16 rfl) ?_
          refine JcI (z := 18) (show mx_Sn _ _ 84 (mx_const (.int 18) 86) from sn_196 84) rfl ?_
          refine mx_J.step (sn_196 86) (fun _ _ => rfl) ?_
          refine JiastI hx3 (show mx_Sn _ _ 88 (mx_iast 1 89) from sn_196 88) a62 s62 rfl (by omega) (fun Z6 h6 hx6 hE6 => ?_)
          have hG6 := GI_up hG3 hE6 (show (-2147483648) ≤ w2_4 ∧ w2_4 ≤ 2147483647 by omega) trivial rfl
          refine mx_J.step (sn_196 89) (fun _ _ => rfl) ?_
          have eq8 : Z6 56 18 = Z 56 18 := ((up_nk hE6 rfl).trans ((hf3 56 18 rfl).trans (hf1 56 18 rfl)))
          have b9 : 0 ≤ Z 56 18 ∧ Z 56 18 ≤ 385 := hG.pr 56 18
          obtain ⟨z7, Z7, h7, hc7, hx7, hG7, hf7, b7⟩ := ct_188_56 (d := d + 1) (l := l) (D := D) (b0 := b0) (ad := ad) (Hb := Hb) (tau := tau) hx6 hG6 
          try rw [eq8] at b7
          refine Jcv hx6 (show mx_Sn _ _ 90 (mx_callv 188 1 12 93) from sn_196 90) a56 s56 hc7 rfl rfl rfl ?_
          have eq10 : Z7 56 18 = Z 56 18 := ((hf7 56 18 rfl).trans ((up_nk hE6 rfl).trans ((hf3 56 18 rfl).trans (hf1 56 18 rfl))))
          exact mx_J.ret (sn_196 93) (fun _ _ => rfl) (hP z7 Z7 h7 hx7 hG7 (fr_tr (M := [(62, (-1)), (64, (-1)), (65, (-1))]) (fr_tr (M := [(62, (-1)), (64, (-1)), (65, (-1))]) (fr_tr (M := [(62, (-1)), (64, (-1)), (65, (-1))]) (fr_tr (M := [(62, (-1)), (64, (-1)), (65, (-1))]) fr_rf (hf1) (M1 := []) rfl rfl) (hf3) rfl rfl) (fr_ua hE6) rfl rfl) (hf7) rfl rfl) (by omega))
        · skip
          refine mx_J.step (sn_196 17) (fun _ _ => rfl) ?_
          refine mx_J.step (sn_196 18) (fun _ _ => rfl) ?_
          refine mx_J.step (sn_196 19) (fun _ _ => rfl) ?_
          have eq12 : Z3 61 (18 * x0 + w2_5) = Z 61 (18 * x0 + w2_5) := ((hf3 61 (18 * x0 + w2_5) rfl).trans (hf1 61 (18 * x0 + w2_5) rfl))
          have b13 : 0 ≤ Z 61 (18 * x0 + w2_5) ∧ Z 61 (18 * x0 + w2_5) ≤ 18 := hG.pr 61 (18 * x0 + w2_5)
          obtain ⟨z11, hc11, b11⟩ := ct_190_56 (d := d + 2) (l := l) (D := D) (b0 := b0) (ad := ad) (Hb := Hb) (tau := tau) hx3 hG3 (show 0 ≤ x0 ∧ x0 ≤ 384 by omega) (show 0 ≤ w2_5 ∧ w2_5 ≤ 17 by omega)
          try rw [eq12] at b11
          refine Jcv hx3 (show mx_Sn _ _ 21 (mx_callv 190 3 12 24) from sn_196 21) a56 s56 hc11 rfl rfl rfl ?_
          have c74 : ∀ (w14_4 : Int) (u14_6 : Option Value) (Z15 : xZ) (h15 : mx_H), (-2147483648) ≤ w14_4 ∧ w14_4 ≤ 2147483647 → XH n s S Z15 h15 → GI n S Z15 → fr' [(62, (-1)), (64, (-1)), (65, (-1))] Z3 Z15 → mx_J (tB l D b0 ad Hb tau) mt_196 (d + 3) 74 [some (.ref 56), some (xI x0), some (xI x1), some (xI x2), some (xI w14_4), some (xI w2_5), u14_6] [] h15 Post := by
            intro w14_4 u14_6 Z15 h15 f14_0 hx15 hG15 hf15
            refine Jiinc (z := w2_5) (cz := 1) (ls2 := [some (.ref 56), some (xI x0), some (xI x1), some (xI x2), some (xI w14_4), some (xI (w2_5 + 1)), u14_6]) (show mx_Sn _ _ 74 (mx_iinc 5 1 77) from sn_196 74) rfl rfl rfl rfl ?_
            refine mx_J.step (sn_196 77) (fun _ _ => rfl) ?_
            exact ih2 w14_4 (w2_5 + 1) u14_6 Z15 h15 (by omega) (by omega) (by omega) hx15 hG15 (fr_tr (M := [(62, (-1)), (64, (-1)), (65, (-1))]) (fr_tr (M := [(62, (-1)), (64, (-1)), (65, (-1))]) fr_rf (hf3) (M1 := []) rfl rfl) (hf15) rfl rfl)
          refine Jif_ne (show mx_Sn _ _ 24 (mx_if_ne 30 27) from sn_196 24) (by omega) (fun q16 => ?_) (fun q16 => ?_)
          · skip
            refine mx_J.step (sn_196 30) (fun _ _ => rfl) ?_
            refine mx_J.step (sn_196 32) (fun _ _ => rfl) ?_
            have c48 : ∀ (k17_0 : Int) (Z18 : xZ) (h18 : mx_H), 0 ≤ k17_0 ∧ k17_0 ≤ 18 → XH n s S Z18 h18 → GI n S Z18 → fr' [(64, (-1)), (65, (-1))] Z3 Z18 → mx_J (tB l D b0 ad Hb tau) mt_196 (d + 3) 48 [some (.ref 56), some (xI x0), some (xI x1), some (xI x2), some (xI w2_4), some (xI w2_5), u2_6] [xI k17_0] h18 Post := by
              intro k17_0 Z18 h18 f17_0 hx18 hG18 hf18
              refine mx_J.step (ls2 := [some (.ref 56), some (xI x0), some (xI x1), some (xI x2), some (xI w2_4), some (xI w2_5), some (xI k17_0)]) (sn_196 48) (fun _ _ => rfl) ?_
              refine mx_J.step (sn_196 50) (fun _ _ => rfl) ?_
              refine JgetR (g := 16) (b := 62) hx18 (show mx_Sn _ _ 51 (mx_getf 12 16 54) from sn_196 51) a56 s56 rfl rfl (hG18.prr 56 16 rfl) ?_
              refine mx_J.step (sn_196 54) (fun _ _ => rfl) ?_
              refine mx_J.step (sn_196 56) (fun _ _ => rfl) ?_
              refine mx_J.step (sn_196 57) (fun _ _ => rfl) ?_
              refine mx_J.step (sn_196 58) (fun _ _ => rfl) ?_
              have eq21 : Z18 61 (18 * x0 + w2_5) = Z 61 (18 * x0 + w2_5) := ((hf18 61 (18 * x0 + w2_5) rfl).trans ((hf3 61 (18 * x0 + w2_5) rfl).trans (hf1 61 (18 * x0 + w2_5) rfl)))
              obtain ⟨z20, hc20, b20⟩ := ct_190_56 (d := d + 2) (l := l) (D := D) (b0 := b0) (ad := ad) (Hb := Hb) (tau := tau) hx18 hG18 (show 0 ≤ x0 ∧ x0 ≤ 384 by omega) (show 0 ≤ w2_5 ∧ w2_5 ≤ 17 by omega)
              try rw [eq21] at b20
              refine Jcv hx18 (show mx_Sn _ _ 60 (mx_callv 190 3 12 63) from sn_196 60) a56 s56 hc20 rfl rfl rfl ?_
              refine mx_J.step (sn_196 63) (fun _ _ => rfl) ?_
              refine Jisub (show mx_Sn _ _ 65 (mx_isub 66) from sn_196 65) ?_
              refine JiastI hx18 (show mx_Sn _ _ 66 (mx_iast 1 67) from sn_196 66) a62 s62 rfl (by omega) (fun Z22 h22 hx22 hE22 => ?_)
              have hG22 := GI_up hG18 hE22 (show (-2147483648) ≤ z20 - k17_0 ∧ z20 - k17_0 ≤ 2147483647 by omega) trivial rfl
              refine mx_J.step (sn_196 67) (fun _ _ => rfl) ?_
              refine mx_J.step (sn_196 69) (fun _ _ => rfl) ?_
              refine JiaddN (show mx_Sn _ _ 71 (mx_iadd 72) from sn_196 71) (fun y23 hy23 hq23 => ?_)
              refine mx_J.step (ls2 := [some (.ref 56), some (xI x0), some (xI x1), some (xI x2), some (xI y23), some (xI w2_5), some (xI k17_0)]) (sn_196 72) (fun _ _ => rfl) ?_
              exact c74 y23 (some (xI k17_0)) Z22 h22 (by omega) hx22 hG22 (fr_tr (M := [(62, (-1)), (64, (-1)), (65, (-1))]) (fr_tr (M := [(62, (-1)), (64, (-1)), (65, (-1))]) fr_rf (hf18) (M1 := []) rfl rfl) (fr_ua hE22) rfl rfl)
            refine Jicmp_ne (show mx_Sn _ _ 33 (mx_icmp_ne 40 36) from sn_196 33) (by omega) (by omega) (fun q24 => ?_) (fun q24 => ?_)
            · skip
              refine mx_J.step (sn_196 40) (fun _ _ => rfl) ?_
              refine mx_J.step (sn_196 41) (fun _ _ => rfl) ?_
              refine mx_J.step (sn_196 42) (fun _ _ => rfl) ?_
              refine mx_J.step (sn_196 44) (fun _ _ => rfl) ?_
              obtain ⟨z25, Z25, h25, hc25, hx25, hG25, hf25, b25⟩ := ct_195_56 (d := d + 0) (l := l) (D := D) (b0 := b0) (ad := ad) (Hb := Hb) (tau := tau) hx3 hG3 (show 0 ≤ x0 ∧ x0 ≤ 384 by omega) (show 0 ≤ w2_5 ∧ w2_5 ≤ 17 by omega) (show 0 ≤ x2 ∧ x2 ≤ 9 by omega)
              refine Jcv hx3 (show mx_Sn _ _ 45 (mx_callv 195 4 12 48) from sn_196 45) a56 s56 hc25 rfl rfl rfl ?_
              exact c48 z25 Z25 h25 (by omega) hx25 hG25 (fr_tr (M := [(64, (-1)), (65, (-1))]) fr_rf (hf25) (M1 := []) rfl rfl)
            · skip
              refine JcI (z := 0) (show mx_Sn _ _ 36 (mx_const (.int 0) 37) from sn_196 36) rfl ?_
              refine mx_J.step (sn_196 37) (fun _ _ => rfl) ?_
              exact c48 0 Z3 h3 (by omega) hx3 hG3 fr_rf
          · skip
            refine mx_J.step (sn_196 27) (fun _ _ => rfl) ?_
            exact c74 w2_4 u2_6 Z3 h3 (by omega) hx3 hG3 fr_rf
    exact c10 (Int.toNat (18 - 0) + 1) 0 0 none Z1 h1 (by omega) (by omega) (by omega) hx1 hG1 fr_rf
theorem ct_196_56 {l : Launch} {D : va_G} {b0 : Nat} {ad : Nat → Nat} {Hb : Heap} {tau : Nat → Int64} {d n s : Nat} {S : Nat → xS} {Z : xZ} {h : mx_H} (hx : XH n s S Z h) (hG : GI n S Z)  {x0 x1 x2 : Int} (p0 : 0 ≤ x0 ∧ x0 ≤ 384) (p1 : (-2147483648) ≤ x1 ∧ x1 ≤ 2147483647) (p2 : 0 ≤ x2 ∧ x2 ≤ 9) : ∃ (z : Int) (Z' : xZ) (h' : mx_H), mx_Ca (tB l D b0 ad Hb tau) (d + 4) 196 [.ref 56, xI x0, xI x1, xI x2] h (some (xI z), h') ∧ XH n s S Z' h' ∧ GI n S Z' ∧ fr' [(62, (-1)), (64, (-1)), (65, (-1))] Z Z' ∧ (0 ≤ z ∧ z ≤ 384 ∧ z < Z 56 18) := by
  obtain ⟨r, hca, z, Z', h', e, q⟩ := Jmt (B := tB l D b0 ad Hb tau) (M := mt_196) (mi := 196) (as := [.ref 56, xI x0, xI x1, xI x2]) (d := d + 3) (ls := [some (.ref 56), some (xI x0), some (xI x1), some (xI x2), none, none, none]) rfl rfl rfl rfl rfl rfl (cw_196_56 (l := l) (D := D) (b0 := b0) (ad := ad) (Hb := Hb) (tau := tau) (d := d) (Post := fun r => ∃ (z : Int) (Z' : xZ) (h' : mx_H), r = (some (xI z), h') ∧ XH n s S Z' h' ∧ GI n S Z' ∧ fr' [(62, (-1)), (64, (-1)), (65, (-1))] Z Z' ∧ (0 ≤ z ∧ z ≤ 384 ∧ z < Z 56 18)) hx hG p0 p1 p2 (fun z Z' h' q1 q2 q3 q4 => ⟨z, Z', h', rfl, q1, q2, q3, q4⟩))
  subst e; exact ⟨z, Z', h', hca, q⟩
set_option maxRecDepth 100000 in
theorem cw_198_56 {l : Launch} {D : va_G} {b0 : Nat} {ad : Nat → Nat} {Hb : Heap} {tau : Nat → Int64} {d n s : Nat} {S : Nat → xS} {Z : xZ} {h : mx_H} {Post : mx_R → Prop} (hx : XH n s S Z h) (hG : GI n S Z)  {x0 x1 x2 : Int} (p0 : 0 ≤ x0 ∧ x0 ≤ 384) (p1 : (-2147483648) ≤ x1 ∧ x1 ≤ 2147483647) (p2 : 0 ≤ x2 ∧ x2 ≤ 9) (hP : ∀ (z : Int) (Z' : xZ) (h' : mx_H), XH n s S Z' h' → GI n S Z' → fr' [(62, (-1)), (64, (-1)), (65, (-1))] Z Z' → 0 ≤ z ∧ z ≤ 384 ∧ z < Z 56 18 → Post (some (xI z), h')) : mx_J (tB l D b0 ad Hb tau) mt_198 (d + 4) 0 [some (.ref 56), some (xI x0), some (xI x1), some (xI x2)] [] h Post := by
    have a56 : 56 < n := lt83 (GI_n hG) rfl
    have s56 : S 56 = .inl (12, [0, 2, 2, 2, 2, 0, 0, 0, 0, 0, 0, 0, 0, 0, 0, 2, 2, 2, 0, 2, 2, 2, 0, 0, 2, 2, 2, 2, 2, 2, 0, 0, 2, 2, 2, 2, 2, 2, 2, 2, 2, 2]) := GI_s hG 56 rfl
    refine mx_J.step (sn_198 0) (fun _ _ => rfl) ?_
    refine mx_J.step (sn_198 1) (fun _ _ => rfl) ?_
    refine mx_J.step (sn_198 2) (fun _ _ => rfl) ?_
    have c16 : ∀ (k1_2 : Int), (-1) ≤ k1_2 ∧ k1_2 ≤ 17 → mx_J (tB l D b0 ad Hb tau) mt_198 (d + 4) 16 [some (.ref 56), some (xI x0), some (xI x1), some (xI x2)] [xI k1_2, xI x0, .ref 56] h Post := by
      intro k1_2 f1_0
      refine mx_J.step (sn_198 16) (fun _ _ => rfl) ?_
      have b3 : 0 ≤ Z 56 18 ∧ Z 56 18 ≤ 385 := hG.pr 56 18
      obtain ⟨z2, Z2, h2, hc2, hx2, hG2, hf2, b2⟩ := ct_196_56 (d := d + 0) (l := l) (D := D) (b0 := b0) (ad := ad) (Hb := Hb) (tau := tau) hx hG (show 0 ≤ x0 ∧ x0 ≤ 384 by omega) (show (-2147483648) ≤ k1_2 ∧ k1_2 ≤ 2147483647 by omega) (show 0 ≤ x2 ∧ x2 ≤ 9 by omega)
      refine Jcv hx (show mx_Sn _ _ 17 (mx_callv 196 4 12 20) from sn_198 17) a56 s56 hc2 rfl rfl rfl ?_
      have eq4 : Z2 56 18 = Z 56 18 := (hf2 56 18 rfl)
      exact mx_J.ret (sn_198 20) (fun _ _ => rfl) (hP z2 Z2 h2 hx2 hG2 (fr_tr (M := [(62, (-1)), (64, (-1)), (65, (-1))]) fr_rf (hf2) (M1 := []) rfl rfl) (by omega))
    refine Jif_ne (show mx_Sn _ _ 3 (mx_if_ne 10 6) from sn_198 3) (by omega) (fun q5 => ?_) (fun q5 => ?_)
    · skip
      refine mx_J.step (sn_198 10) (fun _ _ => rfl) ?_
      refine mx_J.step (sn_198 11) (fun _ _ => rfl) ?_
      refine mx_J.step (sn_198 12) (fun _ _ => rfl) ?_
      obtain ⟨z6, hc6, b6⟩ := ct_192_56 (d := d + 2) (l := l) (D := D) (b0 := b0) (ad := ad) (Hb := Hb) (tau := tau) hx hG (show 0 ≤ x0 ∧ x0 ≤ 384 by omega) (show (-2147483648) ≤ x1 ∧ x1 ≤ 2147483647 by omega)
      refine Jcv hx (show mx_Sn _ _ 13 (mx_callv 192 3 12 16) from sn_198 13) a56 s56 hc6 rfl rfl rfl ?_
      exact c16 z6 (by omega)
    · skip
      refine JcI (z := (-1)) (show mx_Sn _ _ 6 (mx_const (.int (-1)) 7) from sn_198 6) rfl ?_
      refine mx_J.step (sn_198 7) (fun _ _ => rfl) ?_
      exact c16 (-1) (by omega)
theorem ct_198_56 {l : Launch} {D : va_G} {b0 : Nat} {ad : Nat → Nat} {Hb : Heap} {tau : Nat → Int64} {d n s : Nat} {S : Nat → xS} {Z : xZ} {h : mx_H} (hx : XH n s S Z h) (hG : GI n S Z)  {x0 x1 x2 : Int} (p0 : 0 ≤ x0 ∧ x0 ≤ 384) (p1 : (-2147483648) ≤ x1 ∧ x1 ≤ 2147483647) (p2 : 0 ≤ x2 ∧ x2 ≤ 9) : ∃ (z : Int) (Z' : xZ) (h' : mx_H), mx_Ca (tB l D b0 ad Hb tau) (d + 5) 198 [.ref 56, xI x0, xI x1, xI x2] h (some (xI z), h') ∧ XH n s S Z' h' ∧ GI n S Z' ∧ fr' [(62, (-1)), (64, (-1)), (65, (-1))] Z Z' ∧ (0 ≤ z ∧ z ≤ 384 ∧ z < Z 56 18) := by
  obtain ⟨r, hca, z, Z', h', e, q⟩ := Jmt (B := tB l D b0 ad Hb tau) (M := mt_198) (mi := 198) (as := [.ref 56, xI x0, xI x1, xI x2]) (d := d + 4) (ls := [some (.ref 56), some (xI x0), some (xI x1), some (xI x2)]) rfl rfl rfl rfl rfl rfl (cw_198_56 (l := l) (D := D) (b0 := b0) (ad := ad) (Hb := Hb) (tau := tau) (d := d) (Post := fun r => ∃ (z : Int) (Z' : xZ) (h' : mx_H), r = (some (xI z), h') ∧ XH n s S Z' h' ∧ GI n S Z' ∧ fr' [(62, (-1)), (64, (-1)), (65, (-1))] Z Z' ∧ (0 ≤ z ∧ z ≤ 384 ∧ z < Z 56 18)) hx hG p0 p1 p2 (fun z Z' h' q1 q2 q3 q4 => ⟨z, Z', h', rfl, q1, q2, q3, q4⟩))
  subst e; exact ⟨z, Z', h', hca, q⟩
set_option maxRecDepth 100000 in
theorem cw_200_56 {l : Launch} {D : va_G} {b0 : Nat} {ad : Nat → Nat} {Hb : Heap} {tau : Nat → Int64} {d n s : Nat} {S : Nat → xS} {Z : xZ} {h : mx_H} {Post : mx_R → Prop} (hx : XH n s S Z h) (hG : GI n S Z)  {x0 : Int} (p0 : (-2147483648) ≤ x0 ∧ x0 ≤ 2147483647) (hP : ∀ (z : Int) (Z' : xZ) (h' : mx_H), XH n s S Z' h' → GI n S Z' → fr' [(56, 0), (64, (-1)), (65, (-1))] Z Z' → (-2) ≤ z ∧ z ≤ 18 → Post (some (xI z), h')) : mx_J (tB l D b0 ad Hb tau) mt_200 (d + 3) 0 [some (.ref 56), some (xI x0)] [] h Post := by
    have a56 : 56 < n := lt83 (GI_n hG) rfl
    have s56 : S 56 = .inl (12, [0, 2, 2, 2, 2, 0, 0, 0, 0, 0, 0, 0, 0, 0, 0, 2, 2, 2, 0, 2, 2, 2, 0, 0, 2, 2, 2, 2, 2, 2, 0, 0, 2, 2, 2, 2, 2, 2, 2, 2, 2, 2]) := GI_s hG 56 rfl
    have a57 : 57 < n := lt83 (GI_n hG) rfl
    have s57 : S 57 = .inr (.int, 2886, 0) := GI_s hG 57 rfl
    refine mx_J.step (sn_200 0) (fun _ _ => rfl) ?_
    refine JcI (z := 0) (show mx_Sn _ _ 1 (mx_const (.int 0) 2) from sn_200 1) rfl ?_
    refine JputI (g := 0) hx (show mx_Sn _ _ 2 (mx_putf 1 12 0 (.int) 5) from sn_200 2) a56 s56 rfl rfl rfl rfl (fun Z1 h1 hx1 hE1 => ?_)
    have hG1 := GI_up hG hE1 (show (-2147483648) ≤ 0 ∧ 0 ≤ 2147483647 by omega) trivial rfl
    refine mx_J.step (sn_200 5) (fun _ _ => rfl) ?_
    refine Ji2l (show mx_Sn _ _ 6 (mx_i2l 7) from sn_200 6) (by omega) ?_
    refine JcL (z := 0) (show mx_Sn _ _ 7 (mx_const (.long 0) 8) from sn_200 7) rfl ?_
    refine mx_J.step (sn_200 8) (fun _ _ => rfl) ?_
    refine mx_J.step (sn_200 9) (fun _ _ => rfl) ?_
    refine JgetR (g := 1) (b := 57) hx1 (show mx_Sn _ _ 10 (mx_getf 12 1 13) from sn_200 10) a56 s56 rfl rfl (hG1.prr 56 1 rfl) ?_
    refine JcI (z := 27) (show mx_Sn _ _ 13 (mx_const (.int 27) 15) from sn_200 13) rfl ?_
    have b3 := GI_st hG 27
    have b4 : 0 ≤ Z 56 18 ∧ Z 56 18 ≤ 385 := hG.pr 56 18
    have b5 : 0 ≤ Z 57 27 ∧ Z 57 27 ≤ 384 := by have hq := GI_ex hG 57 27; replace hq : f57 (27 % 962) (Z 57 27) := hq; unfold f57 at hq; omega
    have b6 : (-2147483648) ≤ Z 57 27 ∧ Z 57 27 ≤ 2147483647 := hG.pr 57 27
    refine JialdI (z := Z 57 27) hx1 (show mx_Sn _ _ 15 (mx_iald 16) from sn_200 15) a57 s57 (by omega) (up_nk hE1 rfl) ?_
    have eq8 : mn Z1 (Z 57 27) = mn Z (Z 57 27) := (mn_c (fun i => up_nk hE1 rfl))
    obtain ⟨z7, hc7, b7⟩ := ct_191_56 (d := d + 1) (l := l) (D := D) (b0 := b0) (ad := ad) (Hb := Hb) (tau := tau) hx1 hG1 (show 0 ≤ Z 57 27 ∧ Z 57 27 ≤ 384 by omega)
    refine Jcv hx1 (show mx_Sn _ _ 16 (mx_callv 191 2 12 19) from sn_200 16) a56 s56 hc7 rfl rfl rfl ?_
    refine JcI (z := 1) (show mx_Sn _ _ 19 (mx_const (.int 1) 20) from sn_200 19) rfl ?_
    refine Jisub (show mx_Sn _ _ 20 (mx_isub 21) from sn_200 20) ?_
    refine Ji2l (show mx_Sn _ _ 21 (mx_i2l 22) from sn_200 21) (by omega) ?_
    obtain ⟨z9, hc9, b9⟩ := ct_154_ (d := d + 2) (l := l) (D := D) (b0 := b0) (ad := ad) (Hb := Hb) (tau := tau) hx1 hG1 (show (-9223372036854775808) ≤ x0 ∧ x0 ≤ 9223372036854775807 by omega) (show (-9223372036854775808) ≤ 0 ∧ 0 ≤ 9223372036854775807 by omega) (show (-9223372036854775808) ≤ z7 - 1 ∧ z7 - 1 ≤ 9223372036854775807 by omega)
    refine Jcs (show mx_Sn _ _ 22 (mx_calls 154 3 25) from sn_200 22) hc9 rfl rfl rfl ?_
    have c52 : ∀ (k10_0 : Int) (Z11 : xZ) (h11 : mx_H), (-2) ≤ k10_0 ∧ k10_0 ≤ 18 → XH n s S Z11 h11 → GI n S Z11 → fr' [(64, (-1)), (65, (-1))] Z1 Z11 → mx_J (tB l D b0 ad Hb tau) mt_200 (d + 3) 52 [some (.ref 56), some (xI x0)] [xI k10_0] h11 Post := by
      intro k10_0 Z11 h11 f10_0 hx11 hG11 hf11
      exact mx_J.ret (sn_200 52) (fun _ _ => rfl) (hP k10_0 Z11 h11 hx11 hG11 (fr_tr (M := [(56, 0), (64, (-1)), (65, (-1))]) (fr_tr (M := [(56, 0), (64, (-1)), (65, (-1))]) fr_rf (fr_up hE1) (M1 := []) rfl rfl) (hf11) rfl rfl) (by omega))
    refine Jif_eq (show mx_Sn _ _ 25 (mx_if_eq 50 28) from sn_200 25) (by omega) (fun q12 => ?_) (fun q12 => ?_)
    · skip
      refine JcI (z := (-2)) (show mx_Sn _ _ 50 (mx_const (.int (-2)) 52) from sn_200 50) rfl ?_
      exact c52 (-2) Z1 h1 (by omega) hx1 hG1 fr_rf
    · skip
      refine mx_J.step (sn_200 28) (fun _ _ => rfl) ?_
      refine mx_J.step (sn_200 29) (fun _ _ => rfl) ?_
      refine JgetR (g := 1) (b := 57) hx1 (show mx_Sn _ _ 30 (mx_getf 12 1 33) from sn_200 30) a56 s56 rfl rfl (hG1.prr 56 1 rfl) ?_
      refine JcI (z := 27) (show mx_Sn _ _ 33 (mx_const (.int 27) 35) from sn_200 33) rfl ?_
      refine JialdI (z := Z 57 27) hx1 (show mx_Sn _ _ 35 (mx_iald 36) from sn_200 35) a57 s57 (by omega) (up_nk hE1 rfl) ?_
      refine mx_J.step (sn_200 36) (fun _ _ => rfl) ?_
      refine mx_J.step (sn_200 37) (fun _ _ => rfl) ?_
      refine JgetR (g := 1) (b := 57) hx1 (show mx_Sn _ _ 38 (mx_getf 12 1 41) from sn_200 38) a56 s56 rfl rfl (hG1.prr 56 1 rfl) ?_
      refine JcI (z := 28) (show mx_Sn _ _ 41 (mx_const (.int 28) 43) from sn_200 41) rfl ?_
      have b15 : 0 ≤ Z 57 28 ∧ Z 57 28 ≤ 9 := by have hq := GI_ex hG 57 28; replace hq : f57 (28 % 962) (Z 57 28) := hq; unfold f57 at hq; omega
      have b16 : (-2147483648) ≤ Z 57 28 ∧ Z 57 28 ≤ 2147483647 := hG.pr 57 28
      refine JialdI (z := Z 57 28) hx1 (show mx_Sn _ _ 43 (mx_iald 44) from sn_200 43) a57 s57 (by omega) (up_nk hE1 rfl) ?_
      obtain ⟨z17, Z17, h17, hc17, hx17, hG17, hf17, b17⟩ := ct_195_56 (d := d + 0) (l := l) (D := D) (b0 := b0) (ad := ad) (Hb := Hb) (tau := tau) hx1 hG1 (show 0 ≤ Z 57 27 ∧ Z 57 27 ≤ 384 by omega) (show 0 ≤ x0 ∧ x0 ≤ 17 by omega) (show 0 ≤ Z 57 28 ∧ Z 57 28 ≤ 9 by omega)
      refine Jcv hx1 (show mx_Sn _ _ 44 (mx_callv 195 4 12 47) from sn_200 44) a56 s56 hc17 rfl rfl rfl ?_
      refine mx_J.step (sn_200 47) (fun _ _ => rfl) ?_
      exact c52 z17 Z17 h17 (by omega) hx17 hG17 (fr_tr (M := [(64, (-1)), (65, (-1))]) fr_rf (hf17) (M1 := []) rfl rfl)
theorem ct_200_56 {l : Launch} {D : va_G} {b0 : Nat} {ad : Nat → Nat} {Hb : Heap} {tau : Nat → Int64} {d n s : Nat} {S : Nat → xS} {Z : xZ} {h : mx_H} (hx : XH n s S Z h) (hG : GI n S Z)  {x0 : Int} (p0 : (-2147483648) ≤ x0 ∧ x0 ≤ 2147483647) : ∃ (z : Int) (Z' : xZ) (h' : mx_H), mx_Ca (tB l D b0 ad Hb tau) (d + 4) 200 [.ref 56, xI x0] h (some (xI z), h') ∧ XH n s S Z' h' ∧ GI n S Z' ∧ fr' [(56, 0), (64, (-1)), (65, (-1))] Z Z' ∧ ((-2) ≤ z ∧ z ≤ 18) := by
  obtain ⟨r, hca, z, Z', h', e, q⟩ := Jmt (B := tB l D b0 ad Hb tau) (M := mt_200) (mi := 200) (as := [.ref 56, xI x0]) (d := d + 3) (ls := [some (.ref 56), some (xI x0)]) rfl rfl rfl rfl rfl rfl (cw_200_56 (l := l) (D := D) (b0 := b0) (ad := ad) (Hb := Hb) (tau := tau) (d := d) (Post := fun r => ∃ (z : Int) (Z' : xZ) (h' : mx_H), r = (some (xI z), h') ∧ XH n s S Z' h' ∧ GI n S Z' ∧ fr' [(56, 0), (64, (-1)), (65, (-1))] Z Z' ∧ ((-2) ≤ z ∧ z ≤ 18)) hx hG p0 (fun z Z' h' q1 q2 q3 q4 => ⟨z, Z', h', rfl, q1, q2, q3, q4⟩))
  subst e; exact ⟨z, Z', h', hca, q⟩
set_option maxRecDepth 100000 in
theorem cw_201_56 {l : Launch} {D : va_G} {b0 : Nat} {ad : Nat → Nat} {Hb : Heap} {tau : Nat → Int64} {d n s : Nat} {S : Nat → xS} {Z : xZ} {h : mx_H} {Post : mx_R → Prop} (hx : XH n s S Z h) (hG : GI n S Z)  {x0 x1 : Int} (p0 : (-2147483648) ≤ x0 ∧ x0 ≤ 2147483647) (p1 : (-2147483648) ≤ x1 ∧ x1 ≤ 2147483647) (hP : ∀ (z : Int) (Z' : xZ) (h' : mx_H), XH n s S Z' h' → GI n S Z' → fr' [(56, 0), (62, (-1)), (64, (-1)), (65, (-1))] Z Z' → (-5) ≤ z ∧ z ≤ 384 → Post (some (xI z), h')) : mx_J (tB l D b0 ad Hb tau) mt_201 (d + 5) 0 [some (.ref 56), some (xI x0), some (xI x1), none] [] h Post := by
    have a56 : 56 < n := lt83 (GI_n hG) rfl
    have s56 : S 56 = .inl (12, [0, 2, 2, 2, 2, 0, 0, 0, 0, 0, 0, 0, 0, 0, 0, 2, 2, 2, 0, 2, 2, 2, 0, 0, 2, 2, 2, 2, 2, 2, 0, 0, 2, 2, 2, 2, 2, 2, 2, 2, 2, 2]) := GI_s hG 56 rfl
    have a57 : 57 < n := lt83 (GI_n hG) rfl
    have s57 : S 57 = .inr (.int, 2886, 0) := GI_s hG 57 rfl
    refine mx_J.step (sn_201 0) (fun _ _ => rfl) ?_
    refine JcI (z := 0) (show mx_Sn _ _ 1 (mx_const (.int 0) 2) from sn_201 1) rfl ?_
    refine JputI (g := 0) hx (show mx_Sn _ _ 2 (mx_putf 1 12 0 (.int) 5) from sn_201 2) a56 s56 rfl rfl rfl rfl (fun Z1 h1 hx1 hE1 => ?_)
    have hG1 := GI_up hG hE1 (show (-2147483648) ≤ 0 ∧ 0 ≤ 2147483647 by omega) trivial rfl
    refine mx_J.step (sn_201 5) (fun _ _ => rfl) ?_
    refine Ji2l (show mx_Sn _ _ 6 (mx_i2l 7) from sn_201 6) (by omega) ?_
    refine JcL (z := 0) (show mx_Sn _ _ 7 (mx_const (.long 0) 8) from sn_201 7) rfl ?_
    refine JcL (z := 2) (show mx_Sn _ _ 8 (mx_const (.long 2) 11) from sn_201 8) rfl ?_
    obtain ⟨z2, hc2, b2⟩ := ct_154_ (d := d + 4) (l := l) (D := D) (b0 := b0) (ad := ad) (Hb := Hb) (tau := tau) hx1 hG1 (show (-9223372036854775808) ≤ x1 ∧ x1 ≤ 9223372036854775807 by omega) (show (-9223372036854775808) ≤ 0 ∧ 0 ≤ 9223372036854775807 by omega) (show (-9223372036854775808) ≤ 2 ∧ 2 ≤ 9223372036854775807 by omega)
    refine Jcs (show mx_Sn _ _ 11 (mx_calls 154 3 14) from sn_201 11) hc2 rfl rfl rfl ?_
    refine Jif_ne (show mx_Sn _ _ 14 (mx_if_ne 20 17) from sn_201 14) (by omega) (fun q3 => ?_) (fun q3 => ?_)
    · skip
      refine mx_J.step (sn_201 20) (fun _ _ => rfl) ?_
      refine mx_J.step (sn_201 21) (fun _ _ => rfl) ?_
      refine JgetR (g := 1) (b := 57) hx1 (show mx_Sn _ _ 22 (mx_getf 12 1 25) from sn_201 22) a56 s56 rfl rfl (hG1.prr 56 1 rfl) ?_
      refine JcI (z := 27) (show mx_Sn _ _ 25 (mx_const (.int 27) 27) from sn_201 25) rfl ?_
      have b5 := GI_st hG 27
      have b6 : 0 ≤ Z 56 18 ∧ Z 56 18 ≤ 385 := hG.pr 56 18
      have b7 : 0 ≤ Z 57 27 ∧ Z 57 27 ≤ 384 := by have hq := GI_ex hG 57 27; replace hq : f57 (27 % 962) (Z 57 27) := hq; unfold f57 at hq; omega
      have b8 : (-2147483648) ≤ Z 57 27 ∧ Z 57 27 ≤ 2147483647 := hG.pr 57 27
      refine JialdI (z := Z 57 27) hx1 (show mx_Sn _ _ 27 (mx_iald 28) from sn_201 27) a57 s57 (by omega) (up_nk hE1 rfl) ?_
      refine mx_J.step (sn_201 28) (fun _ _ => rfl) ?_
      have eq10 : hv Z1 (Z 57 27) x0 = hv Z (Z 57 27) x0 := (hv_c (fun i => up_nk hE1 rfl))
      obtain ⟨z9, hc9, b9⟩ := ct_197_56 (d := d + 2) (l := l) (D := D) (b0 := b0) (ad := ad) (Hb := Hb) (tau := tau) hx1 hG1 (show 0 ≤ Z 57 27 ∧ Z 57 27 ≤ 384 by omega) (show (-2147483648) ≤ x0 ∧ x0 ≤ 2147483647 by omega)
      refine Jcv hx1 (show mx_Sn _ _ 29 (mx_callv 197 3 12 32) from sn_201 29) a56 s56 hc9 rfl rfl rfl ?_
      refine Jif_ne (show mx_Sn _ _ 32 (mx_if_ne 38 35) from sn_201 32) (by omega) (fun q11 => ?_) (fun q11 => ?_)
      · skip
        refine mx_J.step (sn_201 38) (fun _ _ => rfl) ?_
        refine mx_J.step (sn_201 39) (fun _ _ => rfl) ?_
        refine JgetR (g := 1) (b := 57) hx1 (show mx_Sn _ _ 40 (mx_getf 12 1 43) from sn_201 40) a56 s56 rfl rfl (hG1.prr 56 1 rfl) ?_
        refine JcI (z := 27) (show mx_Sn _ _ 43 (mx_const (.int 27) 45) from sn_201 43) rfl ?_
        refine JialdI (z := Z 57 27) hx1 (show mx_Sn _ _ 45 (mx_iald 46) from sn_201 45) a57 s57 (by omega) (up_nk hE1 rfl) ?_
        refine mx_J.step (sn_201 46) (fun _ _ => rfl) ?_
        refine mx_J.step (sn_201 47) (fun _ _ => rfl) ?_
        refine JgetR (g := 1) (b := 57) hx1 (show mx_Sn _ _ 48 (mx_getf 12 1 51) from sn_201 48) a56 s56 rfl rfl (hG1.prr 56 1 rfl) ?_
        refine JcI (z := 28) (show mx_Sn _ _ 51 (mx_const (.int 28) 53) from sn_201 51) rfl ?_
        have b14 : 0 ≤ Z 57 28 ∧ Z 57 28 ≤ 9 := by have hq := GI_ex hG 57 28; replace hq : f57 (28 % 962) (Z 57 28) := hq; unfold f57 at hq; omega
        have b15 : (-2147483648) ≤ Z 57 28 ∧ Z 57 28 ≤ 2147483647 := hG.pr 57 28
        refine JialdI (z := Z 57 28) hx1 (show mx_Sn _ _ 53 (mx_iald 54) from sn_201 53) a57 s57 (by omega) (up_nk hE1 rfl) ?_
        have eq17 : Z1 56 18 = Z 56 18 := (up_ni hE1 (by decide))
        obtain ⟨z16, Z16, h16, hc16, hx16, hG16, hf16, b16⟩ := ct_198_56 (d := d + 0) (l := l) (D := D) (b0 := b0) (ad := ad) (Hb := Hb) (tau := tau) hx1 hG1 (show 0 ≤ Z 57 27 ∧ Z 57 27 ≤ 384 by omega) (show (-2147483648) ≤ x0 ∧ x0 ≤ 2147483647 by omega) (show 0 ≤ Z 57 28 ∧ Z 57 28 ≤ 9 by omega)
        try rw [eq17] at b16
        refine Jcv hx1 (show mx_Sn _ _ 54 (mx_callv 198 4 12 57) from sn_201 54) a56 s56 hc16 rfl rfl rfl ?_
        refine mx_J.step (ls2 := [some (.ref 56), some (xI x0), some (xI x1), some (xI z16)]) (sn_201 57) (fun _ _ => rfl) ?_
        refine mx_J.step (sn_201 58) (fun _ _ => rfl) ?_
        have c85 : ∀ (k18_0 : Int), 0 ≤ k18_0 ∧ k18_0 ≤ 384 → mx_J (tB l D b0 ad Hb tau) mt_201 (d + 5) 85 [some (.ref 56), some (xI x0), some (xI x1), some (xI z16)] [xI k18_0] h16 Post := by
          intro k18_0 f18_0
          exact mx_J.ret (sn_201 85) (fun _ _ => rfl) (hP k18_0 Z16 h16 hx16 hG16 (fr_tr (M := [(56, 0), (62, (-1)), (64, (-1)), (65, (-1))]) (fr_tr (M := [(56, 0), (62, (-1)), (64, (-1)), (65, (-1))]) fr_rf (fr_up hE1) (M1 := []) rfl rfl) (hf16) rfl rfl) (by omega))
        refine Jif_ne (show mx_Sn _ _ 59 (mx_if_ne 66 62) from sn_201 59) (by omega) (fun q19 => ?_) (fun q19 => ?_)
        · skip
          refine mx_J.step (sn_201 66) (fun _ _ => rfl) ?_
          refine JcI (z := 1) (show mx_Sn _ _ 67 (mx_const (.int 1) 68) from sn_201 67) rfl ?_
          refine Jicmp_ne (show mx_Sn _ _ 68 (mx_icmp_ne 79 71) from sn_201 68) (by omega) (by omega) (fun q20 => ?_) (fun q20 => ?_)
          · skip
            refine mx_J.step (sn_201 79) (fun _ _ => rfl) ?_
            refine mx_J.step (sn_201 80) (fun _ _ => rfl) ?_
            refine JcI (z := 0) (show mx_Sn _ _ 81 (mx_const (.int 0) 82) from sn_201 81) rfl ?_
            have eq22 : Z16 61 (18 * z16 + 0) = Z 61 (18 * z16 + 0) := ((hf16 61 (18 * z16 + 0) rfl).trans (up_nk hE1 rfl))
            have b23 : 0 ≤ Z 61 (18 * z16 + 0) ∧ Z 61 (18 * z16 + 0) ≤ 18 := hG.pr 61 (18 * z16 + 0)
            obtain ⟨z21, hc21, b21⟩ := ct_190_56 (d := d + 4) (l := l) (D := D) (b0 := b0) (ad := ad) (Hb := Hb) (tau := tau) hx16 hG16 (show 0 ≤ z16 ∧ z16 ≤ 384 by omega) (show 0 ≤ 0 ∧ 0 ≤ 17 by omega)
            try rw [eq22] at b21
            refine Jcv hx16 (show mx_Sn _ _ 82 (mx_callv 190 3 12 85) from sn_201 82) a56 s56 hc21 rfl rfl rfl ?_
            exact c85 z21 (by omega)
          · skip
            refine mx_J.step (sn_201 71) (fun _ _ => rfl) ?_
            refine mx_J.step (sn_201 72) (fun _ _ => rfl) ?_
            have eq25 : mn Z16 z16 = mn Z z16 := ((mn_c (fun i => hf16 61 i rfl)).trans (mn_c (fun i => up_nk hE1 rfl)))
            obtain ⟨z24, hc24, b24⟩ := ct_191_56 (d := d + 3) (l := l) (D := D) (b0 := b0) (ad := ad) (Hb := Hb) (tau := tau) hx16 hG16 (show 0 ≤ z16 ∧ z16 ≤ 384 by omega)
            refine Jcv hx16 (show mx_Sn _ _ 73 (mx_callv 191 2 12 76) from sn_201 73) a56 s56 hc24 rfl rfl rfl ?_
            refine mx_J.step (sn_201 76) (fun _ _ => rfl) ?_
            exact c85 z24 (by omega)
        · skip
          refine mx_J.step (sn_201 62) (fun _ _ => rfl) ?_
          refine mx_J.step (sn_201 63) (fun _ _ => rfl) ?_
          exact c85 z16 (by omega)
      · skip
        refine JcI (z := (-5)) (show mx_Sn _ _ 35 (mx_const (.int (-5)) 37) from sn_201 35) rfl ?_
        exact mx_J.ret (sn_201 37) (fun _ _ => rfl) (hP (-5) Z1 h1 hx1 hG1 (fr_tr (M := [(56, 0), (62, (-1)), (64, (-1)), (65, (-1))]) fr_rf (fr_up hE1) (M1 := []) rfl rfl) (by omega))
    · skip
      refine JcI (z := (-2)) (show mx_Sn _ _ 17 (mx_const (.int (-2)) 19) from sn_201 17) rfl ?_
      exact mx_J.ret (sn_201 19) (fun _ _ => rfl) (hP (-2) Z1 h1 hx1 hG1 (fr_tr (M := [(56, 0), (62, (-1)), (64, (-1)), (65, (-1))]) fr_rf (fr_up hE1) (M1 := []) rfl rfl) (by omega))
theorem ct_201_56 {l : Launch} {D : va_G} {b0 : Nat} {ad : Nat → Nat} {Hb : Heap} {tau : Nat → Int64} {d n s : Nat} {S : Nat → xS} {Z : xZ} {h : mx_H} (hx : XH n s S Z h) (hG : GI n S Z)  {x0 x1 : Int} (p0 : (-2147483648) ≤ x0 ∧ x0 ≤ 2147483647) (p1 : (-2147483648) ≤ x1 ∧ x1 ≤ 2147483647) : ∃ (z : Int) (Z' : xZ) (h' : mx_H), mx_Ca (tB l D b0 ad Hb tau) (d + 6) 201 [.ref 56, xI x0, xI x1] h (some (xI z), h') ∧ XH n s S Z' h' ∧ GI n S Z' ∧ fr' [(56, 0), (62, (-1)), (64, (-1)), (65, (-1))] Z Z' ∧ ((-5) ≤ z ∧ z ≤ 384) := by
  obtain ⟨r, hca, z, Z', h', e, q⟩ := Jmt (B := tB l D b0 ad Hb tau) (M := mt_201) (mi := 201) (as := [.ref 56, xI x0, xI x1]) (d := d + 5) (ls := [some (.ref 56), some (xI x0), some (xI x1), none]) rfl rfl rfl rfl rfl rfl (cw_201_56 (l := l) (D := D) (b0 := b0) (ad := ad) (Hb := Hb) (tau := tau) (d := d) (Post := fun r => ∃ (z : Int) (Z' : xZ) (h' : mx_H), r = (some (xI z), h') ∧ XH n s S Z' h' ∧ GI n S Z' ∧ fr' [(56, 0), (62, (-1)), (64, (-1)), (65, (-1))] Z Z' ∧ ((-5) ≤ z ∧ z ≤ 384)) hx hG p0 p1 (fun z Z' h' q1 q2 q3 q4 => ⟨z, Z', h', rfl, q1, q2, q3, q4⟩))
  subst e; exact ⟨z, Z', h', hca, q⟩
set_option maxRecDepth 100000 in
theorem cw_202_56 {l : Launch} {D : va_G} {b0 : Nat} {ad : Nat → Nat} {Hb : Heap} {tau : Nat → Int64} {d n s : Nat} {S : Nat → xS} {Z : xZ} {h : mx_H} {Post : mx_R → Prop} (hx : XH n s S Z h) (hG : GI n S Z)   (hP : ∀ (Z' : xZ) (h' : mx_H), XH n s S Z' h' → GI n S Z' → fr' [(66, (-1))] Z Z' → (Z' 66 0 = Z 57 27) → Post (none, h')) : mx_J (tB l D b0 ad Hb tau) mt_202 (d + 0) 0 [some (.ref 56), none] [] h Post := by
    have a56 : 56 < n := lt83 (GI_n hG) rfl
    have s56 : S 56 = .inl (12, [0, 2, 2, 2, 2, 0, 0, 0, 0, 0, 0, 0, 0, 0, 0, 2, 2, 2, 0, 2, 2, 2, 0, 0, 2, 2, 2, 2, 2, 2, 0, 0, 2, 2, 2, 2, 2, 2, 2, 2, 2, 2]) := GI_s hG 56 rfl
    have a57 : 57 < n := lt83 (GI_n hG) rfl
    have s57 : S 57 = .inr (.int, 2886, 0) := GI_s hG 57 rfl
    have a66 : 66 < n := lt83 (GI_n hG) rfl
    have s66 : S 66 = .inr (.int, 3, 0) := GI_s hG 66 rfl
    refine JcI (z := 0) (show mx_Sn _ _ 0 (mx_const (.int 0) 1) from sn_202 0) rfl ?_
    refine mx_J.step (ls2 := [some (.ref 56), some (xI 0)]) (sn_202 1) (fun _ _ => rfl) ?_
    refine mx_J.step (sn_202 2) (fun _ _ => rfl) ?_
    refine JcI (z := 3) (show mx_Sn _ _ 3 (mx_const (.int 3) 4) from sn_202 3) rfl ?_
    refine Jicmp_ge (show mx_Sn _ _ 4 (mx_icmp_ge 28 7) from sn_202 4) (by omega) (by omega) (fun q1 => absurd q1 (by omega)) (fun q1 => ?_)
    refine mx_J.step (sn_202 7) (fun _ _ => rfl) ?_
    refine JgetR (g := 21) (b := 66) hx (show mx_Sn _ _ 8 (mx_getf 12 21 11) from sn_202 8) a56 s56 rfl rfl (hG.prr 56 21 rfl) ?_
    refine mx_J.step (sn_202 11) (fun _ _ => rfl) ?_
    refine mx_J.step (sn_202 12) (fun _ _ => rfl) ?_
    refine JgetR (g := 1) (b := 57) hx (show mx_Sn _ _ 13 (mx_getf 12 1 16) from sn_202 13) a56 s56 rfl rfl (hG.prr 56 1 rfl) ?_
    refine JcI (z := 27) (show mx_Sn _ _ 16 (mx_const (.int 27) 18) from sn_202 16) rfl ?_
    refine mx_J.step (sn_202 18) (fun _ _ => rfl) ?_
    refine JiaddE (r := 27) (show mx_Sn _ _ 19 (mx_iadd 20) from sn_202 19) (by decide) ?_
    have b4 := GI_st hG 27
    have b5 : 0 ≤ Z 56 18 ∧ Z 56 18 ≤ 385 := hG.pr 56 18
    have b6 : 0 ≤ Z 57 27 ∧ Z 57 27 ≤ 384 := by have hq := GI_ex hG 57 27; replace hq : f57 (27 % 962) (Z 57 27) := hq; unfold f57 at hq; omega
    have b7 : (-2147483648) ≤ Z 57 27 ∧ Z 57 27 ≤ 2147483647 := hG.pr 57 27
    refine JialdI (z := Z 57 27) hx (show mx_Sn _ _ 20 (mx_iald 21) from sn_202 20) a57 s57 (by omega) rfl ?_
    refine JiastI hx (show mx_Sn _ _ 21 (mx_iast 1 22) from sn_202 21) a66 s66 rfl (by omega) (fun Z8 h8 hx8 hE8 => ?_)
    have hG8 := GI_up hG hE8 (show (-2147483648) ≤ Z 57 27 ∧ Z 57 27 ≤ 2147483647 by omega) (show (((0 : Int) = 0 → 0 ≤ (Z 57 27) ∧ (Z 57 27) ≤ 384) ∧ ((0 : Int) = 1 → 0 ≤ (Z 57 27) ∧ (Z 57 27) ≤ 9)) by first | omega | (unfold f57 at *; omega)) rfl
    refine Jiinc (z := 0) (cz := 1) (ls2 := [some (.ref 56), some (xI 1)]) (show mx_Sn _ _ 22 (mx_iinc 1 1 25) from sn_202 22) rfl rfl rfl rfl ?_
    refine mx_J.step (sn_202 25) (fun _ _ => rfl) ?_
    refine mx_J.step (sn_202 2) (fun _ _ => rfl) ?_
    refine JcI (z := 3) (show mx_Sn _ _ 3 (mx_const (.int 3) 4) from sn_202 3) rfl ?_
    refine Jicmp_ge (show mx_Sn _ _ 4 (mx_icmp_ge 28 7) from sn_202 4) (by omega) (by omega) (fun q9 => absurd q9 (by omega)) (fun q9 => ?_)
    refine mx_J.step (sn_202 7) (fun _ _ => rfl) ?_
    refine JgetR (g := 21) (b := 66) hx8 (show mx_Sn _ _ 8 (mx_getf 12 21 11) from sn_202 8) a56 s56 rfl rfl (hG8.prr 56 21 rfl) ?_
    refine mx_J.step (sn_202 11) (fun _ _ => rfl) ?_
    refine mx_J.step (sn_202 12) (fun _ _ => rfl) ?_
    refine JgetR (g := 1) (b := 57) hx8 (show mx_Sn _ _ 13 (mx_getf 12 1 16) from sn_202 13) a56 s56 rfl rfl (hG8.prr 56 1 rfl) ?_
    refine JcI (z := 27) (show mx_Sn _ _ 16 (mx_const (.int 27) 18) from sn_202 16) rfl ?_
    refine mx_J.step (sn_202 18) (fun _ _ => rfl) ?_
    refine JiaddE (r := 28) (show mx_Sn _ _ 19 (mx_iadd 20) from sn_202 19) (by decide) ?_
    have b12 : 0 ≤ Z 57 28 ∧ Z 57 28 ≤ 9 := by have hq := GI_ex hG 57 28; replace hq : f57 (28 % 962) (Z 57 28) := hq; unfold f57 at hq; omega
    have b13 : (-2147483648) ≤ Z 57 28 ∧ Z 57 28 ≤ 2147483647 := hG.pr 57 28
    refine JialdI (z := Z 57 28) hx8 (show mx_Sn _ _ 20 (mx_iald 21) from sn_202 20) a57 s57 (by omega) (up_nk hE8 rfl) ?_
    refine JiastI hx8 (show mx_Sn _ _ 21 (mx_iast 1 22) from sn_202 21) a66 s66 rfl (by omega) (fun Z14 h14 hx14 hE14 => ?_)
    have hG14 := GI_up hG8 hE14 (show (-2147483648) ≤ Z 57 28 ∧ Z 57 28 ≤ 2147483647 by omega) (show (((1 : Int) = 0 → 0 ≤ (Z 57 28) ∧ (Z 57 28) ≤ 384) ∧ ((1 : Int) = 1 → 0 ≤ (Z 57 28) ∧ (Z 57 28) ≤ 9)) by first | omega | (unfold f57 at *; omega)) rfl
    refine Jiinc (z := 1) (cz := 1) (ls2 := [some (.ref 56), some (xI 2)]) (show mx_Sn _ _ 22 (mx_iinc 1 1 25) from sn_202 22) rfl rfl rfl rfl ?_
    refine mx_J.step (sn_202 25) (fun _ _ => rfl) ?_
    refine mx_J.step (sn_202 2) (fun _ _ => rfl) ?_
    refine JcI (z := 3) (show mx_Sn _ _ 3 (mx_const (.int 3) 4) from sn_202 3) rfl ?_
    refine Jicmp_ge (show mx_Sn _ _ 4 (mx_icmp_ge 28 7) from sn_202 4) (by omega) (by omega) (fun q15 => absurd q15 (by omega)) (fun q15 => ?_)
    refine mx_J.step (sn_202 7) (fun _ _ => rfl) ?_
    refine JgetR (g := 21) (b := 66) hx14 (show mx_Sn _ _ 8 (mx_getf 12 21 11) from sn_202 8) a56 s56 rfl rfl (hG14.prr 56 21 rfl) ?_
    refine mx_J.step (sn_202 11) (fun _ _ => rfl) ?_
    refine mx_J.step (sn_202 12) (fun _ _ => rfl) ?_
    refine JgetR (g := 1) (b := 57) hx14 (show mx_Sn _ _ 13 (mx_getf 12 1 16) from sn_202 13) a56 s56 rfl rfl (hG14.prr 56 1 rfl) ?_
    refine JcI (z := 27) (show mx_Sn _ _ 16 (mx_const (.int 27) 18) from sn_202 16) rfl ?_
    refine mx_J.step (sn_202 18) (fun _ _ => rfl) ?_
    refine JiaddE (r := 29) (show mx_Sn _ _ 19 (mx_iadd 20) from sn_202 19) (by decide) ?_
    have b18 : (-2147483648) ≤ Z 57 29 ∧ Z 57 29 ≤ 2147483647 := hG.pr 57 29
    refine JialdI (z := Z 57 29) hx14 (show mx_Sn _ _ 20 (mx_iald 21) from sn_202 20) a57 s57 (by omega) ((up_nk hE14 rfl).trans (up_nk hE8 rfl)) ?_
    refine JiastI hx14 (show mx_Sn _ _ 21 (mx_iast 1 22) from sn_202 21) a66 s66 rfl (by omega) (fun Z19 h19 hx19 hE19 => ?_)
    have hG19 := GI_up hG14 hE19 (show (-2147483648) ≤ Z 57 29 ∧ Z 57 29 ≤ 2147483647 by omega) (show (((2 : Int) = 0 → 0 ≤ (Z 57 29) ∧ (Z 57 29) ≤ 384) ∧ ((2 : Int) = 1 → 0 ≤ (Z 57 29) ∧ (Z 57 29) ≤ 9)) by first | omega | (unfold f57 at *; omega)) rfl
    refine Jiinc (z := 2) (cz := 1) (ls2 := [some (.ref 56), some (xI 3)]) (show mx_Sn _ _ 22 (mx_iinc 1 1 25) from sn_202 22) rfl rfl rfl rfl ?_
    refine mx_J.step (sn_202 25) (fun _ _ => rfl) ?_
    refine mx_J.step (sn_202 2) (fun _ _ => rfl) ?_
    refine JcI (z := 3) (show mx_Sn _ _ 3 (mx_const (.int 3) 4) from sn_202 3) rfl ?_
    refine Jicmp_ge (show mx_Sn _ _ 4 (mx_icmp_ge 28 7) from sn_202 4) (by omega) (by omega) (fun q20 => ?_) (fun q20 => absurd q20 (by omega))
    have eq21 : Z19 66 0 = Z 57 27 := ((up_ni hE19 (by decide)).trans ((up_ni hE14 (by decide)).trans (up_at hE8)))
    have eq22 : Z19 57 27 = Z 57 27 := ((up_nk hE19 rfl).trans ((up_nk hE14 rfl).trans (up_nk hE8 rfl)))
    exact mx_J.ret (sn_202 28) (fun _ _ => rfl) (hP Z19 h19 hx19 hG19 (fr_tr (M := [(66, (-1))]) (fr_tr (M := [(66, (-1))]) (fr_tr (M := [(66, (-1))]) fr_rf (fr_ua hE8) (M1 := []) rfl rfl) (fr_ua hE14) rfl rfl) (fr_ua hE19) rfl rfl) (by omega))
theorem ct_202_56 {l : Launch} {D : va_G} {b0 : Nat} {ad : Nat → Nat} {Hb : Heap} {tau : Nat → Int64} {d n s : Nat} {S : Nat → xS} {Z : xZ} {h : mx_H} (hx : XH n s S Z h) (hG : GI n S Z)   : ∃ (Z' : xZ) (h' : mx_H), mx_Ca (tB l D b0 ad Hb tau) (d + 1) 202 [.ref 56] h (none, h') ∧ XH n s S Z' h' ∧ GI n S Z' ∧ fr' [(66, (-1))] Z Z' ∧ ((Z' 66 0 = Z 57 27)) := by
  obtain ⟨r, hca, Z', h', e, q⟩ := Jmt (B := tB l D b0 ad Hb tau) (M := mt_202) (mi := 202) (as := [.ref 56]) (d := d + 0) (ls := [some (.ref 56), none]) rfl rfl rfl rfl rfl rfl (cw_202_56 (l := l) (D := D) (b0 := b0) (ad := ad) (Hb := Hb) (tau := tau) (d := d) (Post := fun r => ∃ (Z' : xZ) (h' : mx_H), r = (none, h') ∧ XH n s S Z' h' ∧ GI n S Z' ∧ fr' [(66, (-1))] Z Z' ∧ ((Z' 66 0 = Z 57 27))) hx hG  (fun Z' h' q1 q2 q3 q4 => ⟨Z', h', rfl, q1, q2, q3, q4⟩))
  subst e; exact ⟨Z', h', hca, q⟩
set_option maxRecDepth 100000 in
theorem cw_203_56 {l : Launch} {D : va_G} {b0 : Nat} {ad : Nat → Nat} {Hb : Heap} {tau : Nat → Int64} {d n s : Nat} {S : Nat → xS} {Z : xZ} {h : mx_H} {Post : mx_R → Prop} (hx : XH n s S Z h) (hG : GI n S Z)   (k0 : Z 66 0 < Z 56 18) (hP : ∀ (Z' : xZ) (h' : mx_H), XH n s S Z' h' → GI n S Z' → fr' [(57, (-1))] Z Z' → (Z' 57 1 = Z 57 1 ∧ Z' 57 963 = Z 57 963 ∧ Z' 57 1925 = Z 57 1925) → Post (none, h')) : mx_J (tB l D b0 ad Hb tau) mt_203 (d + 0) 0 [some (.ref 56), none] [] h Post := by
    have a56 : 56 < n := lt83 (GI_n hG) rfl
    have s56 : S 56 = .inl (12, [0, 2, 2, 2, 2, 0, 0, 0, 0, 0, 0, 0, 0, 0, 0, 2, 2, 2, 0, 2, 2, 2, 0, 0, 2, 2, 2, 2, 2, 2, 0, 0, 2, 2, 2, 2, 2, 2, 2, 2, 2, 2]) := GI_s hG 56 rfl
    have a57 : 57 < n := lt83 (GI_n hG) rfl
    have s57 : S 57 = .inr (.int, 2886, 0) := GI_s hG 57 rfl
    have a66 : 66 < n := lt83 (GI_n hG) rfl
    have s66 : S 66 = .inr (.int, 3, 0) := GI_s hG 66 rfl
    refine JcI (z := 0) (show mx_Sn _ _ 0 (mx_const (.int 0) 1) from sn_203 0) rfl ?_
    refine mx_J.step (ls2 := [some (.ref 56), some (xI 0)]) (sn_203 1) (fun _ _ => rfl) ?_
    refine mx_J.step (sn_203 2) (fun _ _ => rfl) ?_
    refine JcI (z := 3) (show mx_Sn _ _ 3 (mx_const (.int 3) 4) from sn_203 3) rfl ?_
    refine Jicmp_ge (show mx_Sn _ _ 4 (mx_icmp_ge 28 7) from sn_203 4) (by omega) (by omega) (fun q1 => absurd q1 (by omega)) (fun q1 => ?_)
    refine mx_J.step (sn_203 7) (fun _ _ => rfl) ?_
    refine JgetR (g := 1) (b := 57) hx (show mx_Sn _ _ 8 (mx_getf 12 1 11) from sn_203 8) a56 s56 rfl rfl (hG.prr 56 1 rfl) ?_
    refine JcI (z := 27) (show mx_Sn _ _ 11 (mx_const (.int 27) 13) from sn_203 11) rfl ?_
    refine mx_J.step (sn_203 13) (fun _ _ => rfl) ?_
    refine JiaddE (r := 27) (show mx_Sn _ _ 14 (mx_iadd 15) from sn_203 14) (by decide) ?_
    refine mx_J.step (sn_203 15) (fun _ _ => rfl) ?_
    refine JgetR (g := 21) (b := 66) hx (show mx_Sn _ _ 16 (mx_getf 12 21 19) from sn_203 16) a56 s56 rfl rfl (hG.prr 56 21 rfl) ?_
    refine mx_J.step (sn_203 19) (fun _ _ => rfl) ?_
    have b4 : (-2147483648) ≤ Z 66 0 ∧ Z 66 0 ≤ 2147483647 := hG.pr 66 0
    have b5 : (((0 : Int) = 0 → 0 ≤ (Z 66 0) ∧ (Z 66 0) ≤ 384) ∧ ((0 : Int) = 1 → 0 ≤ (Z 66 0) ∧ (Z 66 0) ≤ 9)) := GI_ex hG 66 0
    refine JialdI (z := Z 66 0) hx (show mx_Sn _ _ 20 (mx_iald 21) from sn_203 20) a66 s66 (by omega) rfl ?_
    refine JiastI hx (show mx_Sn _ _ 21 (mx_iast 1 22) from sn_203 21) a57 s57 rfl (by omega) (fun Z6 h6 hx6 hE6 => ?_)
    have b7 : 0 ≤ Z 56 18 ∧ Z 56 18 ≤ 385 := hG.pr 56 18
    have hG6 := GI_up57 hG hE6 (show (-2147483648) ≤ Z 66 0 ∧ Z 66 0 ≤ 2147483647 by omega) (show f57 ((27) % 962) (Z 66 0) by first | assumption | (unfold f57; omega) | (unfold f57 at *; omega)) (by omega) (by omega)
    refine Jiinc (z := 0) (cz := 1) (ls2 := [some (.ref 56), some (xI 1)]) (show mx_Sn _ _ 22 (mx_iinc 1 1 25) from sn_203 22) rfl rfl rfl rfl ?_
    refine mx_J.step (sn_203 25) (fun _ _ => rfl) ?_
    refine mx_J.step (sn_203 2) (fun _ _ => rfl) ?_
    refine JcI (z := 3) (show mx_Sn _ _ 3 (mx_const (.int 3) 4) from sn_203 3) rfl ?_
    refine Jicmp_ge (show mx_Sn _ _ 4 (mx_icmp_ge 28 7) from sn_203 4) (by omega) (by omega) (fun q8 => absurd q8 (by omega)) (fun q8 => ?_)
    refine mx_J.step (sn_203 7) (fun _ _ => rfl) ?_
    refine JgetR (g := 1) (b := 57) hx6 (show mx_Sn _ _ 8 (mx_getf 12 1 11) from sn_203 8) a56 s56 rfl rfl (hG6.prr 56 1 rfl) ?_
    refine JcI (z := 27) (show mx_Sn _ _ 11 (mx_const (.int 27) 13) from sn_203 11) rfl ?_
    refine mx_J.step (sn_203 13) (fun _ _ => rfl) ?_
    refine JiaddE (r := 28) (show mx_Sn _ _ 14 (mx_iadd 15) from sn_203 14) (by decide) ?_
    refine mx_J.step (sn_203 15) (fun _ _ => rfl) ?_
    refine JgetR (g := 21) (b := 66) hx6 (show mx_Sn _ _ 16 (mx_getf 12 21 19) from sn_203 16) a56 s56 rfl rfl (hG6.prr 56 21 rfl) ?_
    refine mx_J.step (sn_203 19) (fun _ _ => rfl) ?_
    have b11 : (-2147483648) ≤ Z 66 1 ∧ Z 66 1 ≤ 2147483647 := hG.pr 66 1
    have b12 : (((1 : Int) = 0 → 0 ≤ (Z 66 1) ∧ (Z 66 1) ≤ 384) ∧ ((1 : Int) = 1 → 0 ≤ (Z 66 1) ∧ (Z 66 1) ≤ 9)) := GI_ex hG 66 1
    refine JialdI (z := Z 66 1) hx6 (show mx_Sn _ _ 20 (mx_iald 21) from sn_203 20) a66 s66 (by omega) (up_nk hE6 rfl) ?_
    refine JiastI hx6 (show mx_Sn _ _ 21 (mx_iast 1 22) from sn_203 21) a57 s57 rfl (by omega) (fun Z13 h13 hx13 hE13 => ?_)
    have eq14 : Z6 56 18 = Z 56 18 := (up_nk hE6 rfl)
    have hG13 := GI_up57 hG6 hE13 (show (-2147483648) ≤ Z 66 1 ∧ Z 66 1 ≤ 2147483647 by omega) (show f57 ((28) % 962) (Z 66 1) by first | assumption | (unfold f57; omega) | (unfold f57 at *; omega)) (by omega) (by omega)
    refine Jiinc (z := 1) (cz := 1) (ls2 := [some (.ref 56), some (xI 2)]) (show mx_Sn _ _ 22 (mx_iinc 1 1 25) from sn_203 22) rfl rfl rfl rfl ?_
    refine mx_J.step (sn_203 25) (fun _ _ => rfl) ?_
    refine mx_J.step (sn_203 2) (fun _ _ => rfl) ?_
    refine JcI (z := 3) (show mx_Sn _ _ 3 (mx_const (.int 3) 4) from sn_203 3) rfl ?_
    refine Jicmp_ge (show mx_Sn _ _ 4 (mx_icmp_ge 28 7) from sn_203 4) (by omega) (by omega) (fun q15 => absurd q15 (by omega)) (fun q15 => ?_)
    refine mx_J.step (sn_203 7) (fun _ _ => rfl) ?_
    refine JgetR (g := 1) (b := 57) hx13 (show mx_Sn _ _ 8 (mx_getf 12 1 11) from sn_203 8) a56 s56 rfl rfl (hG13.prr 56 1 rfl) ?_
    refine JcI (z := 27) (show mx_Sn _ _ 11 (mx_const (.int 27) 13) from sn_203 11) rfl ?_
    refine mx_J.step (sn_203 13) (fun _ _ => rfl) ?_
    refine JiaddE (r := 29) (show mx_Sn _ _ 14 (mx_iadd 15) from sn_203 14) (by decide) ?_
    refine mx_J.step (sn_203 15) (fun _ _ => rfl) ?_
    refine JgetR (g := 21) (b := 66) hx13 (show mx_Sn _ _ 16 (mx_getf 12 21 19) from sn_203 16) a56 s56 rfl rfl (hG13.prr 56 21 rfl) ?_
    refine mx_J.step (sn_203 19) (fun _ _ => rfl) ?_
    have b18 : (-2147483648) ≤ Z 66 2 ∧ Z 66 2 ≤ 2147483647 := hG.pr 66 2
    have b19 : (((2 : Int) = 0 → 0 ≤ (Z 66 2) ∧ (Z 66 2) ≤ 384) ∧ ((2 : Int) = 1 → 0 ≤ (Z 66 2) ∧ (Z 66 2) ≤ 9)) := GI_ex hG 66 2
    refine JialdI (z := Z 66 2) hx13 (show mx_Sn _ _ 20 (mx_iald 21) from sn_203 20) a66 s66 (by omega) ((up_nk hE13 rfl).trans (up_nk hE6 rfl)) ?_
    refine JiastI hx13 (show mx_Sn _ _ 21 (mx_iast 1 22) from sn_203 21) a57 s57 rfl (by omega) (fun Z20 h20 hx20 hE20 => ?_)
    have eq21 : Z13 56 18 = Z 56 18 := ((up_nk hE13 rfl).trans (up_nk hE6 rfl))
    have hG20 := GI_up57 hG13 hE20 (show (-2147483648) ≤ Z 66 2 ∧ Z 66 2 ≤ 2147483647 by omega) (show f57 ((29) % 962) (Z 66 2) by first | assumption | (unfold f57; omega) | (unfold f57 at *; omega)) (by omega) (by omega)
    refine Jiinc (z := 2) (cz := 1) (ls2 := [some (.ref 56), some (xI 3)]) (show mx_Sn _ _ 22 (mx_iinc 1 1 25) from sn_203 22) rfl rfl rfl rfl ?_
    refine mx_J.step (sn_203 25) (fun _ _ => rfl) ?_
    refine mx_J.step (sn_203 2) (fun _ _ => rfl) ?_
    refine JcI (z := 3) (show mx_Sn _ _ 3 (mx_const (.int 3) 4) from sn_203 3) rfl ?_
    refine Jicmp_ge (show mx_Sn _ _ 4 (mx_icmp_ge 28 7) from sn_203 4) (by omega) (by omega) (fun q22 => ?_) (fun q22 => absurd q22 (by omega))
    have eq23 : Z20 57 1 = Z 57 1 := ((up_ni hE20 (by decide)).trans ((up_ni hE13 (by decide)).trans (up_ni hE6 (by decide))))
    have b24 : 0 ≤ Z 57 1 ∧ Z 57 1 ≤ 18 := by have hq := GI_ex hG 57 1; replace hq : f57 (1 % 962) (Z 57 1) := hq; unfold f57 at hq; omega
    have b25 : (-2147483648) ≤ Z 57 1 ∧ Z 57 1 ≤ 2147483647 := hG.pr 57 1
    have eq26 : Z20 57 963 = Z 57 963 := ((up_ni hE20 (by decide)).trans ((up_ni hE13 (by decide)).trans (up_ni hE6 (by decide))))
    have b27 : 0 ≤ Z 57 963 ∧ Z 57 963 ≤ 18 := by have hq := GI_ex hG 57 963; replace hq : f57 (963 % 962) (Z 57 963) := hq; unfold f57 at hq; omega
    have b28 : (-2147483648) ≤ Z 57 963 ∧ Z 57 963 ≤ 2147483647 := hG.pr 57 963
    have eq29 : Z20 57 1925 = Z 57 1925 := ((up_ni hE20 (by decide)).trans ((up_ni hE13 (by decide)).trans (up_ni hE6 (by decide))))
    have b30 : 0 ≤ Z 57 1925 ∧ Z 57 1925 ≤ 18 := by have hq := GI_ex hG 57 1925; replace hq : f57 (1925 % 962) (Z 57 1925) := hq; unfold f57 at hq; omega
    have b31 : (-2147483648) ≤ Z 57 1925 ∧ Z 57 1925 ≤ 2147483647 := hG.pr 57 1925
    have eq32 : Z20 66 0 = Z 66 0 := ((up_nk hE20 rfl).trans ((up_nk hE13 rfl).trans (up_nk hE6 rfl)))
    have eq33 : Z20 56 18 = Z 56 18 := ((up_nk hE20 rfl).trans ((up_nk hE13 rfl).trans (up_nk hE6 rfl)))
    have eq34 : Z20 57 1 = Z 57 1 := ((up_ni hE20 (by decide)).trans ((up_ni hE13 (by decide)).trans (up_ni hE6 (by decide))))
    have eq35 : Z20 57 963 = Z 57 963 := ((up_ni hE20 (by decide)).trans ((up_ni hE13 (by decide)).trans (up_ni hE6 (by decide))))
    have eq36 : Z20 57 1925 = Z 57 1925 := ((up_ni hE20 (by decide)).trans ((up_ni hE13 (by decide)).trans (up_ni hE6 (by decide))))
    exact mx_J.ret (sn_203 28) (fun _ _ => rfl) (hP Z20 h20 hx20 hG20 (fr_tr (M := [(57, (-1))]) (fr_tr (M := [(57, (-1))]) (fr_tr (M := [(57, (-1))]) fr_rf (fr_ua hE6) (M1 := []) rfl rfl) (fr_ua hE13) rfl rfl) (fr_ua hE20) rfl rfl) (by omega))
theorem ct_203_56 {l : Launch} {D : va_G} {b0 : Nat} {ad : Nat → Nat} {Hb : Heap} {tau : Nat → Int64} {d n s : Nat} {S : Nat → xS} {Z : xZ} {h : mx_H} (hx : XH n s S Z h) (hG : GI n S Z)   (k0 : Z 66 0 < Z 56 18) : ∃ (Z' : xZ) (h' : mx_H), mx_Ca (tB l D b0 ad Hb tau) (d + 1) 203 [.ref 56] h (none, h') ∧ XH n s S Z' h' ∧ GI n S Z' ∧ fr' [(57, (-1))] Z Z' ∧ ((Z' 57 1 = Z 57 1 ∧ Z' 57 963 = Z 57 963 ∧ Z' 57 1925 = Z 57 1925)) := by
  obtain ⟨r, hca, Z', h', e, q⟩ := Jmt (B := tB l D b0 ad Hb tau) (M := mt_203) (mi := 203) (as := [.ref 56]) (d := d + 0) (ls := [some (.ref 56), none]) rfl rfl rfl rfl rfl rfl (cw_203_56 (l := l) (D := D) (b0 := b0) (ad := ad) (Hb := Hb) (tau := tau) (d := d) (Post := fun r => ∃ (Z' : xZ) (h' : mx_H), r = (none, h') ∧ XH n s S Z' h' ∧ GI n S Z' ∧ fr' [(57, (-1))] Z Z' ∧ ((Z' 57 1 = Z 57 1 ∧ Z' 57 963 = Z 57 963 ∧ Z' 57 1925 = Z 57 1925))) hx hG k0 (fun Z' h' q1 q2 q3 q4 => ⟨Z', h', rfl, q1, q2, q3, q4⟩))
  subst e; exact ⟨Z', h', hca, q⟩
