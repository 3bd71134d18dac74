set_option maxRecDepth 100000 in
theorem cw_247_56 {l : Launch} {D : va_G} {b0 : Nat} {ad : Nat → Nat} {Hb : Heap} {tau : Nat → Int64} {d n s : Nat} {S : Nat → xS} {Z : xZ} {h : mx_H} {Post : mx_R → Prop} (hx : XH n s S Z h) (hG : GI n S Z)  {x0 : Int} (p0 : (-2147483648) ≤ x0 ∧ x0 ≤ 2147483647) (hP : ∀ (z : Int) (Z' : xZ) (h' : mx_H), XH n s S Z' h' → GI n S Z' → fr' [(56, 0), (62, (-1)), (64, (-1)), (65, (-1)), (73, (-1)), (74, (-1))] Z Z' → (-3) ≤ z ∧ z ≤ 268435455 → Post (some (xI z), h')) : mx_J (tB l D b0 ad Hb tau) mt_247 (d + 6) 0 [some (.ref 56), some (xI x0), none, none, none, none] [] h Post := by
    have a56 : 56 < n := lt83 (GI_n hG) rfl
    have s56 : S 56 = .inl (12, [0, 2, 2, 2, 2, 0, 0, 0, 0, 0, 0, 0, 0, 0, 0, 2, 2, 2, 0, 2, 2, 2, 0, 0, 2, 2, 2, 2, 2, 2, 0, 0, 2, 2, 2, 2, 2, 2, 2, 2, 2, 2]) := GI_s hG 56 rfl
    have a57 : 57 < n := lt83 (GI_n hG) rfl
    have s57 : S 57 = .inr (.int, 2886, 0) := GI_s hG 57 rfl
    have a74 : 74 < n := lt83 (GI_n hG) rfl
    have s74 : S 74 = .inr (.int, 385, 0) := GI_s hG 74 rfl
    refine mx_J.step (sn_247 0) (fun _ _ => rfl) ?_
    refine JcI (z := 0) (show mx_Sn _ _ 1 (mx_const (.int 0) 2) from sn_247 1) rfl ?_
    refine JputI (g := 0) hx (show mx_Sn _ _ 2 (mx_putf 1 12 0 (.int) 5) from sn_247 2) a56 s56 rfl rfl rfl rfl (fun Z1 h1 hx1 hE1 => ?_)
    have hG1 := GI_up hG hE1 (show (-2147483648) ≤ 0 ∧ 0 ≤ 2147483647 by omega) trivial rfl
    refine mx_J.step (sn_247 5) (fun _ _ => rfl) ?_
    refine Ji2l (show mx_Sn _ _ 6 (mx_i2l 7) from sn_247 6) (by omega) ?_
    obtain ⟨z2, hc2, b2⟩ := ct_208_ (d := d + 4) (l := l) (D := D) (b0 := b0) (ad := ad) (Hb := Hb) (tau := tau) hx1 hG1 (show (-9223372036854775808) ≤ x0 ∧ x0 ≤ 9223372036854775807 by omega)
    refine Jcs (show mx_Sn _ _ 7 (mx_calls 208 1 10) from sn_247 7) hc2 rfl rfl rfl ?_
    refine Jif_ne (show mx_Sn _ _ 10 (mx_if_ne 16 13) from sn_247 10) (by omega) (fun q3 => ?_) (fun q3 => ?_)
    · skip
      refine mx_J.step (sn_247 16) (fun _ _ => rfl) ?_
      have eq5 : Z1 56 18 = Z 56 18 := (up_ni hE1 (by decide))
      have b6 : 0 ≤ Z 56 18 ∧ Z 56 18 ≤ 385 := hG.pr 56 18
      obtain ⟨Z4, h4, hc4, hx4, hG4, hf4, b4⟩ := ct_235_56 (d := d + 0) (l := l) (D := D) (b0 := b0) (ad := ad) (Hb := Hb) (tau := tau) hx1 hG1 
      try rw [eq5] at b4
      refine Jcv0 hx1 (show mx_Sn _ _ 17 (mx_callv 235 1 12 20) from sn_247 17) a56 s56 hc4 rfl rfl rfl ?_
      refine JcI (z := 0) (show mx_Sn _ _ 20 (mx_const (.int 0) 21) from sn_247 20) rfl ?_
      refine mx_J.step (ls2 := [some (.ref 56), some (xI x0), some (xI 0), none, none, none]) (sn_247 21) (fun _ _ => rfl) ?_
      have c22 : ∀ (m7 : Nat) (w7_2 : Int) (Z8 : xZ) (h8 : mx_H), 385 - w7_2 < (m7 : Int) → 0 ≤ w7_2 ∧ w7_2 ≤ 385 → XH n s S Z8 h8 → GI n S Z8 → fr' [(74, (-1))] Z4 Z8 → mx_J (tB l D b0 ad Hb tau) mt_247 (d + 6) 22 [some (.ref 56), some (xI x0), some (xI w7_2), none, none, none] [] h8 Post := by
        intro m7
        induction m7 with
        | zero => intro w7_2 Z8 h8 q7 f7_0 hx8 hG8 hf8; exact absurd q7 (by omega)
        | succ m7 ih7 =>
          intro w7_2 Z8 h8 q7 f7_0 hx8 hG8 hf8
          refine mx_J.step (sn_247 22) (fun _ _ => rfl) ?_
          refine mx_J.step (sn_247 23) (fun _ _ => rfl) ?_
          refine JgetI (g := 18) (z := Z 56 18) hx8 (show mx_Sn _ _ 24 (mx_getf 12 18 27) from sn_247 24) a56 s56 rfl rfl ((hf8 56 18 rfl).trans ((hf4 56 18 rfl).trans (up_ni hE1 (by decide)))) ?_
          refine Jicmp_ge (show mx_Sn _ _ 27 (mx_icmp_ge 45 30) from sn_247 27) (by omega) (by omega) (fun q10 => ?_) (fun q10 => ?_)
          · skip
            refine JcI (z := 1) (show mx_Sn _ _ 45 (mx_const (.int 1) 46) from sn_247 45) rfl ?_
            refine mx_J.step (ls2 := [some (.ref 56), some (xI x0), some (xI 1), none, none, none]) (sn_247 46) (fun _ _ => rfl) ?_
            have c47 : ∀ (m11 : Nat) (w11_2 : Int) (u11_3 : Option Value) (u11_4 : Option Value) (u11_5 : Option Value) (Z12 : xZ) (h12 : mx_H), (((cn 74 268435456 Z12 (Z 56 18) + w11_2).toNat : Nat) : Int) < (m11 : Int) → 0 ≤ w11_2 ∧ w11_2 ≤ 1 → XH n s S Z12 h12 → GI n S Z12 → fr' [(74, (-1))] Z8 Z12 → mx_J (tB l D b0 ad Hb tau) mt_247 (d + 6) 47 [some (.ref 56), some (xI x0), some (xI w11_2), u11_3, u11_4, u11_5] [] h12 Post := by
              intro m11
              induction m11 with
              | zero => intro w11_2 u11_3 u11_4 u11_5 Z12 h12 q11 f11_0 hx12 hG12 hf12; exact absurd q11 (by omega)
              | succ m11 ih11 =>
                intro w11_2 u11_3 u11_4 u11_5 Z12 h12 q11 f11_0 hx12 hG12 hf12
                have cb := cn_b (Z := Z12) (c := 74) (v := 268435456) (m := Z 56 18) (by omega)
                refine mx_J.step (sn_247 47) (fun _ _ => rfl) ?_
                refine Jif_eq (show mx_Sn _ _ 48 (mx_if_eq 164 51) from sn_247 48) (by omega) (fun q13 => ?_) (fun q13 => ?_)
                · skip
                  refine mx_J.step (sn_247 164) (fun _ _ => rfl) ?_
                  refine JgetR (g := 33) (b := 74) hx12 (show mx_Sn _ _ 165 (mx_getf 12 33 168) from sn_247 165) a56 s56 rfl rfl (hG12.prr 56 33 rfl) ?_
                  refine mx_J.step (sn_247 168) (fun _ _ => rfl) ?_
                  refine JgetR (g := 1) (b := 57) hx12 (show mx_Sn _ _ 169 (mx_getf 12 1 172) from sn_247 169) a56 s56 rfl rfl (hG12.prr 56 1 rfl) ?_
                  refine JcI (z := 27) (show mx_Sn _ _ 172 (mx_const (.int 27) 174) from sn_247 172) rfl ?_
                  have b16 := GI_st hG 27
                  have b17 : 0 ≤ Z 57 27 ∧ Z 57 27 ≤ 384 := by have hq := GI_ex hG 57 27; replace hq : f57 (27 % 962) (Z 57 27) := hq; unfold f57 at hq; omega
                  have b18 : (-2147483648) ≤ Z 57 27 ∧ Z 57 27 ≤ 2147483647 := hG.pr 57 27
                  refine JialdI (z := Z 57 27) hx12 (show mx_Sn _ _ 174 (mx_iald 175) from sn_247 174) a57 s57 (by omega) ((hf12 57 27 rfl).trans ((hf8 57 27 rfl).trans ((hf4 57 27 rfl).trans (up_nk hE1 rfl)))) ?_
                  have b19 : 0 ≤ Z12 74 (Z 57 27) ∧ Z12 74 (Z 57 27) ≤ 268435456 := hG12.pr 74 (Z 57 27)
                  refine JialdI (z := Z12 74 (Z 57 27)) hx12 (show mx_Sn _ _ 175 (mx_iald 176) from sn_247 175) a74 s74 (by omega) rfl ?_
                  obtain ⟨z20, hc20, b20⟩ := ct_238_ (d := d + 5) (l := l) (D := D) (b0 := b0) (ad := ad) (Hb := Hb) (tau := tau) hx12 hG12 (show 0 ≤ Z12 74 (Z 57 27) ∧ Z12 74 (Z 57 27) ≤ 268435456 by omega)
                  refine Jcs (show mx_Sn _ _ 176 (mx_calls 238 1 179) from sn_247 176) hc20 rfl rfl rfl ?_
                  exact mx_J.ret (sn_247 179) (fun _ _ => rfl) (hP z20 Z12 h12 hx12 hG12 (fr_tr (M := [(56, 0), (62, (-1)), (64, (-1)), (65, (-1)), (73, (-1)), (74, (-1))]) (fr_tr (M := [(56, 0), (62, (-1)), (64, (-1)), (65, (-1)), (73, (-1)), (74, (-1))]) (fr_tr (M := [(56, 0), (62, (-1)), (64, (-1)), (65, (-1)), (73, (-1)), (74, (-1))]) (fr_tr (M := [(56, 0), (62, (-1)), (64, (-1)), (65, (-1)), (73, (-1)), (74, (-1))]) fr_rf (fr_up hE1) (M1 := []) rfl rfl) (hf4) rfl rfl) (hf8) rfl rfl) (hf12) rfl rfl) (by omega))
                · skip
                  refine JcI (z := 0) (show mx_Sn _ _ 51 (mx_const (.int 0) 52) from sn_247 51) rfl ?_
                  refine mx_J.step (ls2 := [some (.ref 56), some (xI x0), some (xI 0), u11_3, u11_4, u11_5]) (sn_247 52) (fun _ _ => rfl) ?_
                  refine JcI (z := 0) (show mx_Sn _ _ 53 (mx_const (.int 0) 54) from sn_247 53) rfl ?_
                  refine mx_J.step (ls2 := [some (.ref 56), some (xI x0), some (xI 0), some (xI 0), u11_4, u11_5]) (sn_247 54) (fun _ _ => rfl) ?_
                  have c55 : ∀ (m21 : Nat) (w21_2 : Int) (w21_3 : Int) (u21_4 : Option Value) (u21_5 : Option Value) (Z22 : xZ) (h22 : mx_H), 385 - w21_3 < (m21 : Int) → 0 ≤ w21_2 ∧ w21_2 ≤ 1 → 0 ≤ w21_3 ∧ w21_3 ≤ 385 → (cn 74 268435456 Z22 (Z 56 18) ≤ cn 74 268435456 Z12 (Z 56 18) ∧ (w21_2 = 1 → cn 74 268435456 Z22 (Z 56 18) < cn 74 268435456 Z12 (Z 56 18))) → XH n s S Z22 h22 → GI n S Z22 → fr' [(74, (-1))] Z12 Z22 → mx_J (tB l D b0 ad Hb tau) mt_247 (d + 6) 55 [some (.ref 56), some (xI x0), some (xI w21_2), some (xI w21_3), u21_4, u21_5] [] h22 Post := by
                    intro m21
                    induction m21 with
                    | zero => intro w21_2 w21_3 u21_4 u21_5 Z22 h22 q21 f21_0 f21_1 f21_2 hx22 hG22 hf22; exact absurd q21 (by omega)
                    | succ m21 ih21 =>
                      intro w21_2 w21_3 u21_4 u21_5 Z22 h22 q21 f21_0 f21_1 f21_2 hx22 hG22 hf22
                      refine mx_J.step (sn_247 55) (fun _ _ => rfl) ?_
                      refine mx_J.step (sn_247 56) (fun _ _ => rfl) ?_
                      refine JgetI (g := 18) (z := Z 56 18) hx22 (show mx_Sn _ _ 57 (mx_getf 12 18 60) from sn_247 57) a56 s56 rfl rfl ((hf22 56 18 rfl).trans ((hf12 56 18 rfl).trans ((hf8 56 18 rfl).trans ((hf4 56 18 rfl).trans (up_ni hE1 (by decide)))))) ?_
                      refine Jicmp_ge (show mx_Sn _ _ 60 (mx_icmp_ge 161 63) from sn_247 60) (by omega) (by omega) (fun q24 => ?_) (fun q24 => ?_)
                      · skip
                        refine mx_J.step (sn_247 161) (fun _ _ => rfl) ?_
                        exact ih11 w21_2 (some (xI w21_3)) u21_4 u21_5 Z22 h22 (by omega) (by omega) hx22 hG22 (fr_tr (M := [(74, (-1))]) (fr_tr (M := [(74, (-1))]) fr_rf (hf12) (M1 := []) rfl rfl) (hf22) rfl rfl)
                      · skip
                        refine JcI (z := 0) (show mx_Sn _ _ 63 (mx_const (.int 0) 64) from sn_247 63) rfl ?_
                        refine mx_J.step (ls2 := [some (.ref 56), some (xI x0), some (xI w21_2), some (xI w21_3), some (xI 0), u21_5]) (sn_247 64) (fun _ _ => rfl) ?_
                        refine JcI (z := 0) (show mx_Sn _ _ 66 (mx_const (.int 0) 67) from sn_247 66) rfl ?_
                        refine mx_J.step (ls2 := [some (.ref 56), some (xI x0), some (xI w21_2), some (xI w21_3), some (xI 0), some (xI 0)]) (sn_247 67) (fun _ _ => rfl) ?_
                        have c69 : ∀ (m25 : Nat) (w25_4 : Int) (w25_5 : Int), 19 - w25_5 < (m25 : Int) → 0 ≤ w25_4 ∧ w25_4 ≤ 268435456 → 0 ≤ w25_5 ∧ w25_5 ≤ 19 → mx_J (tB l D b0 ad Hb tau) mt_247 (d + 6) 69 [some (.ref 56), some (xI x0), some (xI w21_2), some (xI w21_3), some (xI w25_4), some (xI w25_5)] [] h22 Post := by
                          intro m25
                          induction m25 with
                          | zero => intro w25_4 w25_5 q25 f25_0 f25_1; exact absurd q25 (by omega)
                          | succ m25 ih25 =>
                            intro w25_4 w25_5 q25 f25_0 f25_1
                            refine mx_J.step (sn_247 69) (fun _ _ => rfl) ?_
                            refine JcI (z := 19) (show mx_Sn _ _ 71 (mx_const (.int 19) 73) from sn_247 71) rfl ?_
                            have c122 : mx_J (tB l D b0 ad Hb tau) mt_247 (d + 6) 122 [some (.ref 56), some (xI x0), some (xI w21_2), some (xI w21_3), some (xI w25_4), some (xI w25_5)] [] h22 Post := by
                              refine mx_J.step (sn_247 122) (fun _ _ => rfl) ?_
                              refine JgetR (g := 33) (b := 74) hx22 (show mx_Sn _ _ 123 (mx_getf 12 33 126) from sn_247 123) a56 s56 rfl rfl (hG22.prr 56 33 rfl) ?_
                              refine mx_J.step (sn_247 126) (fun _ _ => rfl) ?_
                              have b28 : 0 ≤ Z22 74 w21_3 ∧ Z22 74 w21_3 ≤ 268435456 := hG22.pr 74 w21_3
                              refine JialdI (z := Z22 74 w21_3) hx22 (show mx_Sn _ _ 127 (mx_iald 128) from sn_247 127) a74 s74 (by omega) rfl ?_
                              refine JcI (z := 268435456) (show mx_Sn _ _ 128 (mx_const (.int 268435456) 131) from sn_247 128) rfl ?_
                              have c155 : ∀ (w29_2 : Int) (Z30 : xZ) (h30 : mx_H), 0 ≤ w29_2 ∧ w29_2 ≤ 1 → (cn 74 268435456 Z30 (Z 56 18) ≤ cn 74 268435456 Z12 (Z 56 18) ∧ (w29_2 = 1 → cn 74 268435456 Z30 (Z 56 18) < cn 74 268435456 Z12 (Z 56 18))) → XH n s S Z30 h30 → GI n S Z30 → fr' [(74, (-1))] Z22 Z30 → mx_J (tB l D b0 ad Hb tau) mt_247 (d + 6) 155 [some (.ref 56), some (xI x0), some (xI w29_2), some (xI w21_3), some (xI w25_4), some (xI w25_5)] [] h30 Post := by
                                intro w29_2 Z30 h30 f29_0 f29_1 hx30 hG30 hf30
                                refine Jiinc (z := w21_3) (cz := 1) (ls2 := [some (.ref 56), some (xI x0), some (xI w29_2), some (xI (w21_3 + 1)), some (xI w25_4), some (xI w25_5)]) (show mx_Sn _ _ 155 (mx_iinc 3 1 158) from sn_247 155) rfl rfl rfl rfl ?_
                                refine mx_J.step (sn_247 158) (fun _ _ => rfl) ?_
                                exact ih21 w29_2 (w21_3 + 1) (some (xI w25_4)) (some (xI w25_5)) Z30 h30 (by omega) (by omega) (by omega) (by omega) hx30 hG30 (fr_tr (M := [(74, (-1))]) (fr_tr (M := [(74, (-1))]) fr_rf (hf22) (M1 := []) rfl rfl) (hf30) rfl rfl)
                              refine Jicmp_lt (show mx_Sn _ _ 131 (mx_icmp_lt 155 134) from sn_247 131) (by omega) (by omega) (fun q31 => ?_) (fun q31 => ?_)
                              · skip
                                exact c155 w21_2 Z22 h22 (by omega) (by omega) hx22 hG22 fr_rf
                              · skip
                                refine mx_J.step (sn_247 134) (fun _ _ => rfl) ?_
                                refine JcI (z := 268435456) (show mx_Sn _ _ 136 (mx_const (.int 268435456) 139) from sn_247 136) rfl ?_
                                refine Jicmp_ne (show mx_Sn _ _ 139 (mx_icmp_ne 145 142) from sn_247 139) (by omega) (by omega) (fun q32 => ?_) (fun q32 => ?_)
                                · skip
                                  refine mx_J.step (sn_247 145) (fun _ _ => rfl) ?_
                                  refine JgetR (g := 33) (b := 74) hx22 (show mx_Sn _ _ 146 (mx_getf 12 33 149) from sn_247 146) a56 s56 rfl rfl (hG22.prr 56 33 rfl) ?_
                                  refine mx_J.step (sn_247 149) (fun _ _ => rfl) ?_
                                  refine mx_J.step (sn_247 150) (fun _ _ => rfl) ?_
                                  refine JiastI hx22 (show mx_Sn _ _ 152 (mx_iast 1 153) from sn_247 152) a74 s74 rfl (by omega) (fun Z34 h34 hx34 hE34 => ?_)
                                  have hG34 := GI_up hG22 hE34 (show 0 ≤ w25_4 ∧ w25_4 ≤ 268435456 by omega) trivial rfl
                                  have cu := cn_u (v := 268435456) (m := Z 56 18) hE34 (by omega) (by omega) (by omega)
                                  refine JcI (z := 1) (show mx_Sn _ _ 153 (mx_const (.int 1) 154) from sn_247 153) rfl ?_
                                  refine mx_J.step (ls2 := [some (.ref 56), some (xI x0), some (xI 1), some (xI w21_3), some (xI w25_4), some (xI w25_5)]) (sn_247 154) (fun _ _ => rfl) ?_
                                  exact c155 1 Z34 h34 (by omega) (by omega) hx34 hG34 (fr_tr (M := [(74, (-1))]) fr_rf (fr_ua hE34) (M1 := []) rfl rfl)
                                · skip
                                  refine mx_J.step (sn_247 142) (fun _ _ => rfl) ?_
                                  exact c155 w21_2 Z22 h22 (by omega) (by omega) hx22 hG22 fr_rf
                            refine Jicmp_ge (show mx_Sn _ _ 73 (mx_icmp_ge 122 76) from sn_247 73) (by omega) (by omega) (fun q35 => ?_) (fun q35 => ?_)
                            · skip
                              exact c122 
                            · skip
                              refine mx_J.step (sn_247 76) (fun _ _ => rfl) ?_
                              refine JgetR (g := 33) (b := 74) hx22 (show mx_Sn _ _ 77 (mx_getf 12 33 80) from sn_247 77) a56 s56 rfl rfl (hG22.prr 56 33 rfl) ?_
                              refine mx_J.step (sn_247 80) (fun _ _ => rfl) ?_
                              have b37 : 0 ≤ Z22 74 w21_3 ∧ Z22 74 w21_3 ≤ 268435456 := hG22.pr 74 w21_3
                              refine JialdI (z := Z22 74 w21_3) hx22 (show mx_Sn _ _ 81 (mx_iald 82) from sn_247 81) a74 s74 (by omega) rfl ?_
                              refine JcI (z := 268435456) (show mx_Sn _ _ 82 (mx_const (.int 268435456) 85) from sn_247 82) rfl ?_
                              refine Jicmp_ne (show mx_Sn _ _ 85 (mx_icmp_ne 122 88) from sn_247 85) (by omega) (by omega) (fun q38 => ?_) (fun q38 => ?_)
                              · skip
                                exact c122 
                              · skip
                                refine mx_J.step (sn_247 88) (fun _ _ => rfl) ?_
                                refine mx_J.step (sn_247 89) (fun _ _ => rfl) ?_
                                refine mx_J.step (sn_247 90) (fun _ _ => rfl) ?_
                                refine mx_J.step (sn_247 92) (fun _ _ => rfl) ?_
                                obtain ⟨z39, hc39, b39⟩ := ct_246_56 (d := d + 4) (l := l) (D := D) (b0 := b0) (ad := ad) (Hb := Hb) (tau := tau) hx22 hG22 (show 0 ≤ w21_3 ∧ w21_3 ≤ 384 by omega) (show 0 ≤ w25_5 ∧ w25_5 ≤ 18 by omega) (show 1 ≤ x0 ∧ x0 ≤ 18 by omega)
                                refine Jcv hx22 (show mx_Sn _ _ 93 (mx_callv 246 4 12 96) from sn_247 93) a56 s56 hc39 rfl rfl rfl ?_
                                refine mx_J.step (sn_247 96) (fun _ _ => rfl) ?_
                                have c114 : ∀ (k40_0 : Int), 0 ≤ k40_0 ∧ k40_0 ≤ 268435456 → mx_J (tB l D b0 ad Hb tau) mt_247 (d + 6) 114 [some (.ref 56), some (xI x0), some (xI w21_2), some (xI w21_3), some (xI w25_4), some (xI w25_5)] [xI k40_0] h22 Post := by
                                  intro k40_0 f40_0
                                  refine mx_J.step (ls2 := [some (.ref 56), some (xI x0), some (xI w21_2), some (xI w21_3), some (xI k40_0), some (xI w25_5)]) (sn_247 114) (fun _ _ => rfl) ?_
                                  refine Jiinc (z := w25_5) (cz := 1) (ls2 := [some (.ref 56), some (xI x0), some (xI w21_2), some (xI w21_3), some (xI k40_0), some (xI (w25_5 + 1))]) (show mx_Sn _ _ 116 (mx_iinc 5 1 119) from sn_247 116) rfl rfl rfl rfl ?_
                                  refine mx_J.step (sn_247 119) (fun _ _ => rfl) ?_
                                  exact ih25 k40_0 (w25_5 + 1) (by omega) (by omega) (by omega)
                                refine Jicmp_le (show mx_Sn _ _ 98 (mx_icmp_le 112 101) from sn_247 98) (by omega) (by omega) (fun q41 => ?_) (fun q41 => ?_)
                                · skip
                                  refine mx_J.step (sn_247 112) (fun _ _ => rfl) ?_
                                  exact c114 w25_4 (by omega)
                                · skip
                                  refine mx_J.step (sn_247 101) (fun _ _ => rfl) ?_
                                  refine mx_J.step (sn_247 102) (fun _ _ => rfl) ?_
                                  refine mx_J.step (sn_247 103) (fun _ _ => rfl) ?_
                                  refine mx_J.step (sn_247 105) (fun _ _ => rfl) ?_
                                  obtain ⟨z42, hc42, b42⟩ := ct_246_56 (d := d + 4) (l := l) (D := D) (b0 := b0) (ad := ad) (Hb := Hb) (tau := tau) hx22 hG22 (show 0 ≤ w21_3 ∧ w21_3 ≤ 384 by omega) (show 0 ≤ w25_5 ∧ w25_5 ≤ 18 by omega) (show 1 ≤ x0 ∧ x0 ≤ 18 by omega)
                                  refine Jcv hx22 (show mx_Sn _ _ 106 (mx_callv 246 4 12 109) from sn_247 106) a56 s56 hc42 rfl rfl rfl ?_
                                  refine mx_J.step (sn_247 109) (fun _ _ => rfl) ?_
                                  exact c114 z42 (by omega)
                        exact c69 (Int.toNat (19 - 0) + 1) 0 0 (by omega) (by omega) (by omega)
                  exact c55 (Int.toNat (385 - 0) + 1) 0 0 u11_4 u11_5 Z12 h12 (by omega) (by omega) (by omega) (by omega) hx12 hG12 fr_rf
            exact c47 (Int.toNat ((((cn 74 268435456 Z8 (Z 56 18) + 1).toNat : Nat) : Int)) + 1) 1 none none none Z8 h8 (by omega) (by omega) hx8 hG8 fr_rf
          · skip
            refine mx_J.step (sn_247 30) (fun _ _ => rfl) ?_
            refine JgetR (g := 33) (b := 74) hx8 (show mx_Sn _ _ 31 (mx_getf 12 33 34) from sn_247 31) a56 s56 rfl rfl (hG8.prr 56 33 rfl) ?_
            refine mx_J.step (sn_247 34) (fun _ _ => rfl) ?_
            refine JcI (z := 268435456) (show mx_Sn _ _ 35 (mx_const (.int 268435456) 38) from sn_247 35) rfl ?_
            refine JiastI hx8 (show mx_Sn _ _ 38 (mx_iast 1 39) from sn_247 38) a74 s74 rfl (by omega) (fun Z44 h44 hx44 hE44 => ?_)
            have hG44 := GI_up hG8 hE44 (show 0 ≤ 268435456 ∧ 268435456 ≤ 268435456 by omega) trivial rfl
            refine Jiinc (z := w7_2) (cz := 1) (ls2 := [some (.ref 56), some (xI x0), some (xI (w7_2 + 1)), none, none, none]) (show mx_Sn _ _ 39 (mx_iinc 2 1 42) from sn_247 39) rfl rfl rfl rfl ?_
            refine mx_J.step (sn_247 42) (fun _ _ => rfl) ?_
            exact ih7 (w7_2 + 1) Z44 h44 (by omega) (by omega) hx44 hG44 (fr_tr (M := [(74, (-1))]) (fr_tr (M := [(74, (-1))]) fr_rf (hf8) (M1 := []) rfl rfl) (fr_ua hE44) rfl rfl)
      exact c22 (Int.toNat (385 - 0) + 1) 0 Z4 h4 (by omega) (by omega) hx4 hG4 fr_rf
    · skip
      refine JcI (z := (-3)) (show mx_Sn _ _ 13 (mx_const (.int (-3)) 15) from sn_247 13) rfl ?_
      exact mx_J.ret (sn_247 15) (fun _ _ => rfl) (hP (-3) Z1 h1 hx1 hG1 (fr_tr (M := [(56, 0), (62, (-1)), (64, (-1)), (65, (-1)), (73, (-1)), (74, (-1))]) fr_rf (fr_up hE1) (M1 := []) rfl rfl) (by omega))
theorem ct_247_56 {l : Launch} {D : va_G} {b0 : Nat} {ad : Nat → Nat} {Hb : Heap} {tau : Nat → Int64} {d n s : Nat} {S : Nat → xS} {Z : xZ} {h : mx_H} (hx : XH n s S Z h) (hG : GI n S Z)  {x0 : Int} (p0 : (-2147483648) ≤ x0 ∧ x0 ≤ 2147483647) : ∃ (z : Int) (Z' : xZ) (h' : mx_H), mx_Ca (tB l D b0 ad Hb tau) (d + 7) 247 [.ref 56, xI x0] h (some (xI z), h') ∧ XH n s S Z' h' ∧ GI n S Z' ∧ fr' [(56, 0), (62, (-1)), (64, (-1)), (65, (-1)), (73, (-1)), (74, (-1))] Z Z' ∧ ((-3) ≤ z ∧ z ≤ 268435455) := by
  obtain ⟨r, hca, z, Z', h', e, q⟩ := Jmt (B := tB l D b0 ad Hb tau) (M := mt_247) (mi := 247) (as := [.ref 56, xI x0]) (d := d + 6) (ls := [some (.ref 56), some (xI x0), none, none, none, none]) rfl rfl rfl rfl rfl rfl (cw_247_56 (l := l) (D := D) (b0 := b0) (ad := ad) (Hb := Hb) (tau := tau) (d := d) (Post := fun r => ∃ (z : Int) (Z' : xZ) (h' : mx_H), r = (some (xI z), h') ∧ XH n s S Z' h' ∧ GI n S Z' ∧ fr' [(56, 0), (62, (-1)), (64, (-1)), (65, (-1)), (73, (-1)), (74, (-1))] Z Z' ∧ ((-3) ≤ z ∧ z ≤ 268435455)) hx hG p0 (fun z Z' h' q1 q2 q3 q4 => ⟨z, Z', h', rfl, q1, q2, q3, q4⟩))
  subst e; exact ⟨z, Z', h', hca, q⟩
set_option maxRecDepth 100000 in
theorem cw_248_56 {l : Launch} {D : va_G} {b0 : Nat} {ad : Nat → Nat} {Hb : Heap} {tau : Nat → Int64} {d n s : Nat} {S : Nat → xS} {Z : xZ} {h : mx_H} {Post : mx_R → Prop} (hx : XH n s S Z h) (hG : GI n S Z)   (hP : ∀ (z : Int) (Z' : xZ) (h' : mx_H), XH n s S Z' h' → GI n S Z' → fr' [(56, 0), (62, (-1)), (64, (-1)), (65, (-1)), (71, (-1)), (73, (-1))] Z Z' → 1 ≤ z ∧ z ≤ 386 → Post (some (xI z), h')) : mx_J (tB l D b0 ad Hb tau) mt_248 (d + 6) 0 [some (.ref 56), none, none, none, none, none, none] [] h Post := by
    have a56 : 56 < n := lt83 (GI_n hG) rfl
    have s56 : S 56 = .inl (12, [0, 2, 2, 2, 2, 0, 0, 0, 0, 0, 0, 0, 0, 0, 0, 2, 2, 2, 0, 2, 2, 2, 0, 0, 2, 2, 2, 2, 2, 2, 0, 0, 2, 2, 2, 2, 2, 2, 2, 2, 2, 2]) := GI_s hG 56 rfl
    have a57 : 57 < n := lt83 (GI_n hG) rfl
    have s57 : S 57 = .inr (.int, 2886, 0) := GI_s hG 57 rfl
    have a71 : 71 < n := lt83 (GI_n hG) rfl
    have s71 : S 71 = .inr (.boolean, 385, 0) := GI_s hG 71 rfl
    have a73 : 73 < n := lt83 (GI_n hG) rfl
    have s73 : S 73 = .inr (.int, 7315, 0) := GI_s hG 73 rfl
    refine mx_J.step (sn_248 0) (fun _ _ => rfl) ?_
    refine JcI (z := 0) (show mx_Sn _ _ 1 (mx_const (.int 0) 2) from sn_248 1) rfl ?_
    refine JputI (g := 0) hx (show mx_Sn _ _ 2 (mx_putf 1 12 0 (.int) 5) from sn_248 2) a56 s56 rfl rfl rfl rfl (fun Z1 h1 hx1 hE1 => ?_)
    have hG1 := GI_up hG hE1 (show (-2147483648) ≤ 0 ∧ 0 ≤ 2147483647 by omega) trivial rfl
    refine mx_J.step (sn_248 5) (fun _ _ => rfl) ?_
    have eq3 : Z1 56 18 = Z 56 18 := (up_ni hE1 (by decide))
    have b4 : 0 ≤ Z 56 18 ∧ Z 56 18 ≤ 385 := hG.pr 56 18
    obtain ⟨Z2, h2, hc2, hx2, hG2, hf2, b2⟩ := ct_235_56 (d := d + 0) (l := l) (D := D) (b0 := b0) (ad := ad) (Hb := Hb) (tau := tau) hx1 hG1 
    try rw [eq3] at b2
    refine Jcv0 hx1 (show mx_Sn _ _ 6 (mx_callv 235 1 12 9) from sn_248 6) a56 s56 hc2 rfl rfl rfl ?_
    refine JcI (z := 0) (show mx_Sn _ _ 9 (mx_const (.int 0) 10) from sn_248 9) rfl ?_
    refine mx_J.step (ls2 := [some (.ref 56), some (xI 0), none, none, none, none, none]) (sn_248 10) (fun _ _ => rfl) ?_
    have c11 : ∀ (m5 : Nat) (w5_1 : Int) (Z6 : xZ) (h6 : mx_H), 385 - w5_1 < (m5 : Int) → 0 ≤ w5_1 ∧ w5_1 ≤ 385 → XH n s S Z6 h6 → GI n S Z6 → fr' [(71, (-1))] Z2 Z6 → mx_J (tB l D b0 ad Hb tau) mt_248 (d + 6) 11 [some (.ref 56), some (xI w5_1), none, none, none, none, none] [] h6 Post := by
      intro m5
      induction m5 with
      | zero => intro w5_1 Z6 h6 q5 f5_0 hx6 hG6 hf6; exact absurd q5 (by omega)
      | succ m5 ih5 =>
        intro w5_1 Z6 h6 q5 f5_0 hx6 hG6 hf6
        refine mx_J.step (sn_248 11) (fun _ _ => rfl) ?_
        refine mx_J.step (sn_248 12) (fun _ _ => rfl) ?_
        refine JgetI (g := 18) (z := Z 56 18) hx6 (show mx_Sn _ _ 13 (mx_getf 12 18 16) from sn_248 13) a56 s56 rfl rfl ((hf6 56 18 rfl).trans ((hf2 56 18 rfl).trans (up_ni hE1 (by decide)))) ?_
        refine Jicmp_ge (show mx_Sn _ _ 16 (mx_icmp_ge 47 19) from sn_248 16) (by omega) (by omega) (fun q8 => ?_) (fun q8 => ?_)
        · skip
          refine JcI (z := 1) (show mx_Sn _ _ 47 (mx_const (.int 1) 48) from sn_248 47) rfl ?_
          refine mx_J.step (ls2 := [some (.ref 56), some (xI 1), none, none, none, none, none]) (sn_248 48) (fun _ _ => rfl) ?_
          have cb6 := cn_b (Z := Z6) (c := 71) (v := 0) (m := 385) (by omega)
          refine JcI (z := 1) (show mx_Sn _ _ 49 (mx_const (.int 1) 50) from sn_248 49) rfl ?_
          refine mx_J.step (ls2 := [some (.ref 56), some (xI 1), some (xI 1), none, none, none, none]) (sn_248 50) (fun _ _ => rfl) ?_
          have c51 : ∀ (m9 : Nat) (w9_1 : Int) (w9_2 : Int) (u9_3 : Option Value) (u9_4 : Option Value) (u9_5 : Option Value) (u9_6 : Option Value) (Z10 : xZ) (h10 : mx_H), (((cn 71 0 Z10 385 + w9_2).toNat : Nat) : Int) < (m9 : Int) → 1 ≤ w9_1 ∧ w9_1 ≤ 386 → 0 ≤ w9_2 ∧ w9_2 ≤ 1 → (w9_1 + cn 71 0 Z10 385 ≤ 386) → XH n s S Z10 h10 → GI n S Z10 → fr' [(71, (-1))] Z6 Z10 → mx_J (tB l D b0 ad Hb tau) mt_248 (d + 6) 51 [some (.ref 56), some (xI w9_1), some (xI w9_2), u9_3, u9_4, u9_5, u9_6] [] h10 Post := by
            intro m9
            induction m9 with
            | zero => intro w9_1 w9_2 u9_3 u9_4 u9_5 u9_6 Z10 h10 q9 f9_0 f9_1 f9_2 hx10 hG10 hf10; exact absurd q9 (by omega)
            | succ m9 ih9 =>
              intro w9_1 w9_2 u9_3 u9_4 u9_5 u9_6 Z10 h10 q9 f9_0 f9_1 f9_2 hx10 hG10 hf10
              have cb10 := cn_b (Z := Z10) (c := 71) (v := 0) (m := 385) (by omega)
              refine mx_J.step (sn_248 51) (fun _ _ => rfl) ?_
              refine Jif_eq (show mx_Sn _ _ 52 (mx_if_eq 160 55) from sn_248 52) (by omega) (fun q11 => ?_) (fun q11 => ?_)
              · skip
                refine mx_J.step (sn_248 160) (fun _ _ => rfl) ?_
                exact mx_J.ret (sn_248 161) (fun _ _ => rfl) (hP w9_1 Z10 h10 hx10 hG10 (fr_tr (M := [(56, 0), (62, (-1)), (64, (-1)), (65, (-1)), (71, (-1)), (73, (-1))]) (fr_tr (M := [(56, 0), (62, (-1)), (64, (-1)), (65, (-1)), (71, (-1)), (73, (-1))]) (fr_tr (M := [(56, 0), (62, (-1)), (64, (-1)), (65, (-1)), (71, (-1)), (73, (-1))]) (fr_tr (M := [(56, 0), (62, (-1)), (64, (-1)), (65, (-1)), (71, (-1)), (73, (-1))]) fr_rf (fr_up hE1) (M1 := []) rfl rfl) (hf2) rfl rfl) (hf6) rfl rfl) (hf10) rfl rfl) (by omega))
              · skip
                refine mx_J.step (sn_248 55) (fun _ _ => rfl) ?_
                refine mx_J.step (ls2 := [some (.ref 56), some (xI w9_1), some (xI w9_2), some (xI w9_1), u9_4, u9_5, u9_6]) (sn_248 56) (fun _ _ => rfl) ?_
                refine JcI (z := 0) (show mx_Sn _ _ 57 (mx_const (.int 0) 58) from sn_248 57) rfl ?_
                refine mx_J.step (ls2 := [some (.ref 56), some (xI w9_1), some (xI w9_2), some (xI w9_1), some (xI 0), u9_5, u9_6]) (sn_248 58) (fun _ _ => rfl) ?_
                have c60 : ∀ (m12 : Nat) (w12_1 : Int) (w12_4 : Int) (u12_5 : Option Value) (u12_6 : Option Value) (Z13 : xZ) (h13 : mx_H), 385 - w12_4 < (m12 : Int) → 1 ≤ w12_1 ∧ w12_1 ≤ 386 → 0 ≤ w12_4 ∧ w12_4 ≤ 385 → (w12_1 + cn 71 0 Z13 385 = w9_1 + cn 71 0 Z10 385 ∧ w9_1 ≤ w12_1) → XH n s S Z13 h13 → GI n S Z13 → fr' [(71, (-1))] Z10 Z13 → mx_J (tB l D b0 ad Hb tau) mt_248 (d + 6) 60 [some (.ref 56), some (xI w12_1), some (xI w9_2), some (xI w9_1), some (xI w12_4), u12_5, u12_6] [] h13 Post := by
                  intro m12
                  induction m12 with
                  | zero => intro w12_1 w12_4 u12_5 u12_6 Z13 h13 q12 f12_0 f12_1 f12_2 hx13 hG13 hf13; exact absurd q12 (by omega)
                  | succ m12 ih12 =>
                    intro w12_1 w12_4 u12_5 u12_6 Z13 h13 q12 f12_0 f12_1 f12_2 hx13 hG13 hf13
                    have cb13 := cn_b (Z := Z13) (c := 71) (v := 0) (m := 385) (by omega)
                    refine mx_J.step (sn_248 60) (fun _ _ => rfl) ?_
                    refine mx_J.step (sn_248 62) (fun _ _ => rfl) ?_
                    refine JgetI (g := 18) (z := Z 56 18) hx13 (show mx_Sn _ _ 63 (mx_getf 12 18 66) from sn_248 63) a56 s56 rfl rfl ((hf13 56 18 rfl).trans ((hf10 56 18 rfl).trans ((hf6 56 18 rfl).trans ((hf2 56 18 rfl).trans (up_ni hE1 (by decide)))))) ?_
                    refine Jicmp_ge (show mx_Sn _ _ 66 (mx_icmp_ge 146 69) from sn_248 66) (by omega) (by omega) (fun q15 => ?_) (fun q15 => ?_)
                    · skip
                      refine mx_J.step (sn_248 146) (fun _ _ => rfl) ?_
                      refine mx_J.step (sn_248 147) (fun _ _ => rfl) ?_
                      have c156 : ∀ (k16_0 : Int), 0 ≤ k16_0 ∧ k16_0 ≤ 1 → (k16_0 = 0 ∨ ¬ w12_1 = w9_1) → mx_J (tB l D b0 ad Hb tau) mt_248 (d + 6) 156 [some (.ref 56), some (xI w12_1), some (xI w9_2), some (xI w9_1), some (xI w12_4), u12_5, u12_6] [xI k16_0] h13 Post := by
                        intro k16_0 f16_0 f16_1
                        refine mx_J.step (ls2 := [some (.ref 56), some (xI w12_1), some (xI k16_0), some (xI w9_1), some (xI w12_4), u12_5, u12_6]) (sn_248 156) (fun _ _ => rfl) ?_
                        refine mx_J.step (sn_248 157) (fun _ _ => rfl) ?_
                        exact ih9 w12_1 k16_0 (some (xI w9_1)) (some (xI w12_4)) u12_5 u12_6 Z13 h13 (by omega) (by omega) (by omega) (by omega) hx13 hG13 (fr_tr (M := [(71, (-1))]) (fr_tr (M := [(71, (-1))]) fr_rf (hf10) (M1 := []) rfl rfl) (hf13) rfl rfl)
                      refine Jicmp_eq (show mx_Sn _ _ 148 (mx_icmp_eq 155 151) from sn_248 148) (by omega) (by omega) (fun q17 => ?_) (fun q17 => ?_)
                      · skip
                        refine JcI (z := 0) (show mx_Sn _ _ 155 (mx_const (.int 0) 156) from sn_248 155) rfl ?_
                        exact c156 0 (by omega) (by omega)
                      · skip
                        refine JcI (z := 1) (show mx_Sn _ _ 151 (mx_const (.int 1) 152) from sn_248 151) rfl ?_
                        refine mx_J.step (sn_248 152) (fun _ _ => rfl) ?_
                        exact c156 1 (by omega) (by omega)
                    · skip
                      refine JcI (z := 0) (show mx_Sn _ _ 69 (mx_const (.int 0) 70) from sn_248 69) rfl ?_
                      refine mx_J.step (ls2 := [some (.ref 56), some (xI w12_1), some (xI w9_2), some (xI w9_1), some (xI w12_4), some (xI 0), u12_6]) (sn_248 70) (fun _ _ => rfl) ?_
                      have c72 : ∀ (m18 : Nat) (w18_1 : Int) (w18_5 : Int) (u18_6 : Option Value) (Z19 : xZ) (h19 : mx_H), 19 - w18_5 < (m18 : Int) → 1 ≤ w18_1 ∧ w18_1 ≤ 386 → 0 ≤ w18_5 ∧ w18_5 ≤ 19 → (w18_1 + cn 71 0 Z19 385 = w9_1 + cn 71 0 Z10 385 ∧ w9_1 ≤ w18_1) → XH n s S Z19 h19 → GI n S Z19 → fr' [(71, (-1))] Z13 Z19 → mx_J (tB l D b0 ad Hb tau) mt_248 (d + 6) 72 [some (.ref 56), some (xI w18_1), some (xI w9_2), some (xI w9_1), some (xI w12_4), some (xI w18_5), u18_6] [] h19 Post := by
                        intro m18
                        induction m18 with
                        | zero => intro w18_1 w18_5 u18_6 Z19 h19 q18 f18_0 f18_1 f18_2 hx19 hG19 hf19; exact absurd q18 (by omega)
                        | succ m18 ih18 =>
                          intro w18_1 w18_5 u18_6 Z19 h19 q18 f18_0 f18_1 f18_2 hx19 hG19 hf19
                          have cb19 := cn_b (Z := Z19) (c := 71) (v := 0) (m := 385) (by omega)
                          refine mx_J.step (sn_248 72) (fun _ _ => rfl) ?_
                          refine JcI (z := 19) (show mx_Sn _ _ 74 (mx_const (.int 19) 76) from sn_248 74) rfl ?_
                          have c140 : (w18_1 + cn 71 0 Z19 385 = w9_1 + cn 71 0 Z10 385 ∧ w9_1 ≤ w18_1) → mx_J (tB l D b0 ad Hb tau) mt_248 (d + 6) 140 [some (.ref 56), some (xI w18_1), some (xI w9_2), some (xI w9_1), some (xI w12_4), some (xI w18_5), u18_6] [] h19 Post := by
                            intro f20_0
                            have cb19 := cn_b (Z := Z19) (c := 71) (v := 0) (m := 385) (by omega)
                            refine Jiinc (z := w12_4) (cz := 1) (ls2 := [some (.ref 56), some (xI w18_1), some (xI w9_2), some (xI w9_1), some (xI (w12_4 + 1)), some (xI w18_5), u18_6]) (show mx_Sn _ _ 140 (mx_iinc 4 1 143) from sn_248 140) rfl rfl rfl rfl ?_
                            refine mx_J.step (sn_248 143) (fun _ _ => rfl) ?_
                            exact ih12 w18_1 (w12_4 + 1) (some (xI w18_5)) u18_6 Z19 h19 (by omega) (by omega) (by omega) (by omega) hx19 hG19 (fr_tr (M := [(71, (-1))]) (fr_tr (M := [(71, (-1))]) fr_rf (hf13) (M1 := []) rfl rfl) (hf19) rfl rfl)
                          refine Jicmp_ge (show mx_Sn _ _ 76 (mx_icmp_ge 140 79) from sn_248 76) (by omega) (by omega) (fun q21 => ?_) (fun q21 => ?_)
                          · skip
                            exact c140 (by omega)
                          · skip
                            refine mx_J.step (sn_248 79) (fun _ _ => rfl) ?_
                            refine JgetR (g := 28) (b := 71) hx19 (show mx_Sn _ _ 80 (mx_getf 12 28 83) from sn_248 80) a56 s56 rfl rfl (hG19.prr 56 28 rfl) ?_
                            refine mx_J.step (sn_248 83) (fun _ _ => rfl) ?_
                            have b23 : 0 ≤ Z19 71 w12_4 ∧ Z19 71 w12_4 ≤ 1 := hG19.pr 71 w12_4
                            refine JzaldI (z := Z19 71 w12_4) hx19 (show mx_Sn _ _ 85 (mx_zald 86) from sn_248 85) a71 s71 (by omega) rfl ?_
                            refine Jif_eq (show mx_Sn _ _ 86 (mx_if_eq 140 89) from sn_248 86) (by omega) (fun q24 => ?_) (fun q24 => ?_)
                            · skip
                              exact c140 (by omega)
                            · skip
                              refine mx_J.step (sn_248 89) (fun _ _ => rfl) ?_
                              refine JgetR (g := 32) (b := 73) hx19 (show mx_Sn _ _ 90 (mx_getf 12 32 93) from sn_248 90) a56 s56 rfl rfl (hG19.prr 56 32 rfl) ?_
                              refine JcI (z := 19) (show mx_Sn _ _ 93 (mx_const (.int 19) 95) from sn_248 93) rfl ?_
                              refine mx_J.step (sn_248 95) (fun _ _ => rfl) ?_
                              refine Jimul (show mx_Sn _ _ 97 (mx_imul 98) from sn_248 97) ?_
                              refine mx_J.step (sn_248 98) (fun _ _ => rfl) ?_
                              refine Jiadd (show mx_Sn _ _ 100 (mx_iadd 101) from sn_248 100) ?_
                              have b26 : (-1) ≤ Z2 73 ((19 * w12_4) + w18_5) ∧ Z2 73 ((19 * w12_4) + w18_5) ≤ 384 := hG2.pr 73 ((19 * w12_4) + w18_5)
                              refine JialdI (z := Z2 73 ((19 * w12_4) + w18_5)) hx19 (show mx_Sn _ _ 101 (mx_iald 102) from sn_248 101) a73 s73 (by omega) ((hf19 73 ((19 * w12_4) + w18_5) rfl).trans ((hf13 73 ((19 * w12_4) + w18_5) rfl).trans ((hf10 73 ((19 * w12_4) + w18_5) rfl).trans (hf6 73 ((19 * w12_4) + w18_5) rfl)))) ?_
                              refine mx_J.step (ls2 := [some (.ref 56), some (xI w18_1), some (xI w9_2), some (xI w9_1), some (xI w12_4), some (xI w18_5), some (xI (Z2 73 ((19 * w12_4) + w18_5)))]) (sn_248 102) (fun _ _ => rfl) ?_
                              refine mx_J.step (sn_248 104) (fun _ _ => rfl) ?_
                              refine JcI (z := (-1)) (show mx_Sn _ _ 106 (mx_const (.int (-1)) 107) from sn_248 106) rfl ?_
                              have c134 : ∀ (w27_1 : Int) (Z28 : xZ) (h28 : mx_H), 1 ≤ w27_1 ∧ w27_1 ≤ 386 → (w27_1 + cn 71 0 Z28 385 = w9_1 + cn 71 0 Z10 385 ∧ w9_1 ≤ w27_1) → XH n s S Z28 h28 → GI n S Z28 → fr' [(71, (-1))] Z19 Z28 → mx_J (tB l D b0 ad Hb tau) mt_248 (d + 6) 134 [some (.ref 56), some (xI w27_1), some (xI w9_2), some (xI w9_1), some (xI w12_4), some (xI w18_5), some (xI (Z2 73 ((19 * w12_4) + w18_5)))] [] h28 Post := by
                                intro w27_1 Z28 h28 f27_0 f27_1 hx28 hG28 hf28
                                have cb28 := cn_b (Z := Z28) (c := 71) (v := 0) (m := 385) (by omega)
                                refine Jiinc (z := w18_5) (cz := 1) (ls2 := [some (.ref 56), some (xI w27_1), some (xI w9_2), some (xI w9_1), some (xI w12_4), some (xI (w18_5 + 1)), some (xI (Z2 73 ((19 * w12_4) + w18_5)))]) (show mx_Sn _ _ 134 (mx_iinc 5 1 137) from sn_248 134) rfl rfl rfl rfl ?_
                                refine mx_J.step (sn_248 137) (fun _ _ => rfl) ?_
                                exact ih18 w27_1 (w18_5 + 1) (some (xI (Z2 73 ((19 * w12_4) + w18_5)))) Z28 h28 (by omega) (by omega) (by omega) (by omega) hx28 hG28 (fr_tr (M := [(71, (-1))]) (fr_tr (M := [(71, (-1))]) fr_rf (hf19) (M1 := []) rfl rfl) (hf28) rfl rfl)
                              refine Jicmp_eq (show mx_Sn _ _ 107 (mx_icmp_eq 134 110) from sn_248 107) (by omega) (by omega) (fun q29 => ?_) (fun q29 => ?_)
                              · skip
                                exact c134 w18_1 Z19 h19 (by omega) (by omega) hx19 hG19 fr_rf
                              · skip
                                refine mx_J.step (sn_248 110) (fun _ _ => rfl) ?_
                                refine JgetR (g := 28) (b := 71) hx19 (show mx_Sn _ _ 111 (mx_getf 12 28 114) from sn_248 111) a56 s56 rfl rfl (hG19.prr 56 28 rfl) ?_
                                refine mx_J.step (sn_248 114) (fun _ _ => rfl) ?_
                                have b31 : 0 ≤ Z19 71 (Z2 73 ((19 * w12_4) + w18_5)) ∧ Z19 71 (Z2 73 ((19 * w12_4) + w18_5)) ≤ 1 := hG19.pr 71 (Z2 73 ((19 * w12_4) + w18_5))
                                refine JzaldI (z := Z19 71 (Z2 73 ((19 * w12_4) + w18_5))) hx19 (show mx_Sn _ _ 116 (mx_zald 117) from sn_248 116) a71 s71 (by omega) rfl ?_
                                refine Jif_eq (show mx_Sn _ _ 117 (mx_if_eq 123 120) from sn_248 117) (by omega) (fun q32 => ?_) (fun q32 => ?_)
                                · skip
                                  refine mx_J.step (sn_248 123) (fun _ _ => rfl) ?_
                                  refine JgetR (g := 28) (b := 71) hx19 (show mx_Sn _ _ 124 (mx_getf 12 28 127) from sn_248 124) a56 s56 rfl rfl (hG19.prr 56 28 rfl) ?_
                                  refine mx_J.step (sn_248 127) (fun _ _ => rfl) ?_
                                  refine JcI (z := 1) (show mx_Sn _ _ 129 (mx_const (.int 1) 130) from sn_248 129) rfl ?_
                                  refine JzastI hx19 (show mx_Sn _ _ 130 (mx_zast 1 131) from sn_248 130) a71 s71 rfl (by omega) (by omega) (fun Z34 h34 hx34 hE34 => ?_)
                                  have hG34 := GI_up hG19 hE34 (show 0 ≤ 1 ∧ 1 ≤ 1 by omega) trivial rfl
                                  have cu := cn_u (v := 0) (m := 385) hE34 (by omega) (by omega) (by omega)
                                  have cb34 := cn_b (Z := Z34) (c := 71) (v := 0) (m := 385) (by omega)
                                  refine Jiinc (z := w18_1) (cz := 1) (ls2 := [some (.ref 56), some (xI (w18_1 + 1)), some (xI w9_2), some (xI w9_1), some (xI w12_4), some (xI w18_5), some (xI (Z2 73 ((19 * w12_4) + w18_5)))]) (show mx_Sn _ _ 131 (mx_iinc 1 1 134) from sn_248 131) rfl rfl rfl rfl ?_
                                  exact c134 (w18_1 + 1) Z34 h34 (by omega) (by omega) hx34 hG34 (fr_tr (M := [(71, (-1))]) fr_rf (fr_ua hE34) (M1 := []) rfl rfl)
                                · skip
                                  refine mx_J.step (sn_248 120) (fun _ _ => rfl) ?_
                                  exact c134 w18_1 Z19 h19 (by omega) (by omega) hx19 hG19 fr_rf
                      exact c72 (Int.toNat (19 - 0) + 1) w12_1 0 u12_6 Z13 h13 (by omega) (by omega) (by omega) (by omega) hx13 hG13 fr_rf
                exact c60 (Int.toNat (385 - 0) + 1) w9_1 0 u9_5 u9_6 Z10 h10 (by omega) (by omega) (by omega) (by omega) hx10 hG10 fr_rf
          exact c51 (Int.toNat ((((cn 71 0 Z6 385 + 1).toNat : Nat) : Int)) + 1) 1 1 none none none none Z6 h6 (by omega) (by omega) (by omega) (by omega) hx6 hG6 fr_rf
        · skip
          refine mx_J.step (sn_248 19) (fun _ _ => rfl) ?_
          refine JgetR (g := 28) (b := 71) hx6 (show mx_Sn _ _ 20 (mx_getf 12 28 23) from sn_248 20) a56 s56 rfl rfl (hG6.prr 56 28 rfl) ?_
          refine mx_J.step (sn_248 23) (fun _ _ => rfl) ?_
          refine mx_J.step (sn_248 24) (fun _ _ => rfl) ?_
          refine mx_J.step (sn_248 25) (fun _ _ => rfl) ?_
          refine JgetR (g := 1) (b := 57) hx6 (show mx_Sn _ _ 26 (mx_getf 12 1 29) from sn_248 26) a56 s56 rfl rfl (hG6.prr 56 1 rfl) ?_
          refine JcI (z := 27) (show mx_Sn _ _ 29 (mx_const (.int 27) 31) from sn_248 29) rfl ?_
          have b37 := GI_st hG 27
          have b38 : 0 ≤ Z 57 27 ∧ Z 57 27 ≤ 384 := by have hq := GI_ex hG 57 27; replace hq : f57 (27 % 962) (Z 57 27) := hq; unfold f57 at hq; omega
          have b39 : (-2147483648) ≤ Z 57 27 ∧ Z 57 27 ≤ 2147483647 := hG.pr 57 27
          refine JialdI (z := Z 57 27) hx6 (show mx_Sn _ _ 31 (mx_iald 32) from sn_248 31) a57 s57 (by omega) ((hf6 57 27 rfl).trans ((hf2 57 27 rfl).trans (up_nk hE1 rfl))) ?_
          have c40 : ∀ (k40_2 : Int), 0 ≤ k40_2 ∧ k40_2 ≤ 1 → mx_J (tB l D b0 ad Hb tau) mt_248 (d + 6) 40 [some (.ref 56), some (xI w5_1), none, none, none, none, none] [xI k40_2, xI w5_1, .ref 71] h6 Post := by
            intro k40_2 f40_0
            refine JzastI hx6 (show mx_Sn _ _ 40 (mx_zast 1 41) from sn_248 40) a71 s71 rfl (by omega) (by omega) (fun Z41 h41 hx41 hE41 => ?_)
            have hG41 := GI_up hG6 hE41 (show 0 ≤ k40_2 ∧ k40_2 ≤ 1 by omega) trivial rfl
            refine Jiinc (z := w5_1) (cz := 1) (ls2 := [some (.ref 56), some (xI (w5_1 + 1)), none, none, none, none, none]) (show mx_Sn _ _ 41 (mx_iinc 1 1 44) from sn_248 41) rfl rfl rfl rfl ?_
            refine mx_J.step (sn_248 44) (fun _ _ => rfl) ?_
            exact ih5 (w5_1 + 1) Z41 h41 (by omega) (by omega) hx41 hG41 (fr_tr (M := [(71, (-1))]) (fr_tr (M := [(71, (-1))]) fr_rf (hf6) (M1 := []) rfl rfl) (fr_ua hE41) rfl rfl)
          refine Jicmp_ne (show mx_Sn _ _ 32 (mx_icmp_ne 39 35) from sn_248 32) (by omega) (by omega) (fun q42 => ?_) (fun q42 => ?_)
          · skip
            refine JcI (z := 0) (show mx_Sn _ _ 39 (mx_const (.int 0) 40) from sn_248 39) rfl ?_
            exact c40 0 (by omega)
          · skip
            refine JcI (z := 1) (show mx_Sn _ _ 35 (mx_const (.int 1) 36) from sn_248 35) rfl ?_
            refine mx_J.step (sn_248 36) (fun _ _ => rfl) ?_
            exact c40 1 (by omega)
    exact c11 (Int.toNat (385 - 0) + 1) 0 Z2 h2 (by omega) (by omega) hx2 hG2 fr_rf
theorem ct_248_56 {l : Launch} {D : va_G} {b0 : Nat} {ad : Nat → Nat} {Hb : Heap} {tau : Nat → Int64} {d n s : Nat} {S : Nat → xS} {Z : xZ} {h : mx_H} (hx : XH n s S Z h) (hG : GI n S Z)   : ∃ (z : Int) (Z' : xZ) (h' : mx_H), mx_Ca (tB l D b0 ad Hb tau) (d + 7) 248 [.ref 56] h (some (xI z), h') ∧ XH n s S Z' h' ∧ GI n S Z' ∧ fr' [(56, 0), (62, (-1)), (64, (-1)), (65, (-1)), (71, (-1)), (73, (-1))] Z Z' ∧ (1 ≤ z ∧ z ≤ 386) := by
  obtain ⟨r, hca, z, Z', h', e, q⟩ := Jmt (B := tB l D b0 ad Hb tau) (M := mt_248) (mi := 248) (as := [.ref 56]) (d := d + 6) (ls := [some (.ref 56), none, none, none, none, none, none]) rfl rfl rfl rfl rfl rfl (cw_248_56 (l := l) (D := D) (b0 := b0) (ad := ad) (Hb := Hb) (tau := tau) (d := d) (Post := fun r => ∃ (z : Int) (Z' : xZ) (h' : mx_H), r = (some (xI z), h') ∧ XH n s S Z' h' ∧ GI n S Z' ∧ fr' [(56, 0), (62, (-1)), (64, (-1)), (65, (-1)), (71, (-1)), (73, (-1))] Z Z' ∧ (1 ≤ z ∧ z ≤ 386)) hx hG  (fun z Z' h' q1 q2 q3 q4 => ⟨z, Z', h', rfl, q1, q2, q3, q4⟩))
  subst e; exact ⟨z, Z', h', hca, q⟩
set_option maxRecDepth 100000 in
theorem cw_267_56 {l : Launch} {D : va_G} {b0 : Nat} {ad : Nat → Nat} {Hb : Heap} {tau : Nat → Int64} {d n s : Nat} {S : Nat → xS} {Z : xZ} {h : mx_H} {Post : mx_R → Prop} (hx : XH n s S Z h) (hG : GI n S Z)  {x0 : Int} (p0 : 1 ≤ x0 ∧ x0 ≤ 18) (hP : ∀ (z : Int) (Z' : xZ) (h' : mx_H), XH n s S Z' h' → GI n S Z' → fr' [(62, (-1)), (64, (-1)), (65, (-1)), (73, (-1)), (74, (-1)), (75, (-1))] Z Z' → 0 ≤ z ∧ z ≤ 268435456 → Post (some (xI z), h')) : mx_J (tB l D b0 ad Hb tau) mt_267 (d + 6) 0 [some (.ref 56), some (xI x0), none, none, none, none] [] h Post := by
    have a56 : 56 < n := lt83 (GI_n hG) rfl
    have s56 : S 56 = .inl (12, [0, 2, 2, 2, 2, 0, 0, 0, 0, 0, 0, 0, 0, 0, 0, 2, 2, 2, 0, 2, 2, 2, 0, 0, 2, 2, 2, 2, 2, 2, 0, 0, 2, 2, 2, 2, 2, 2, 2, 2, 2, 2]) := GI_s hG 56 rfl
    have a57 : 57 < n := lt83 (GI_n hG) rfl
    have s57 : S 57 = .inr (.int, 2886, 0) := GI_s hG 57 rfl
    have a74 : 74 < n := lt83 (GI_n hG) rfl
    have s74 : S 74 = .inr (.int, 385, 0) := GI_s hG 74 rfl
    have a75 : 75 < n := lt83 (GI_n hG) rfl
    have s75 : S 75 = .inr (.int, 385, 0) := GI_s hG 75 rfl
    refine mx_J.step (sn_267 0) (fun _ _ => rfl) ?_
    have b2 : 0 ≤ Z 56 18 ∧ Z 56 18 ≤ 385 := hG.pr 56 18
    obtain ⟨Z1, h1, hc1, hx1, hG1, hf1, b1⟩ := ct_235_56 (d := d + 0) (l := l) (D := D) (b0 := b0) (ad := ad) (Hb := Hb) (tau := tau) hx hG 
    refine Jcv0 hx (show mx_Sn _ _ 1 (mx_callv 235 1 12 4) from sn_267 1) a56 s56 hc1 rfl rfl rfl ?_
    refine JcI (z := 0) (show mx_Sn _ _ 4 (mx_const (.int 0) 5) from sn_267 4) rfl ?_
    refine mx_J.step (ls2 := [some (.ref 56), some (xI x0), some (xI 0), none, none, none]) (sn_267 5) (fun _ _ => rfl) ?_
    have c6 : ∀ (m3 : Nat) (w3_2 : Int) (Z4 : xZ) (h4 : mx_H), 385 - w3_2 < (m3 : Int) → 0 ≤ w3_2 ∧ w3_2 ≤ 385 → XH n s S Z4 h4 → GI n S Z4 → fr' [(74, (-1)), (75, (-1))] Z1 Z4 → mx_J (tB l D b0 ad Hb tau) mt_267 (d + 6) 6 [some (.ref 56), some (xI x0), some (xI w3_2), none, none, none] [] h4 Post := by
      intro m3
      induction m3 with
      | zero => intro w3_2 Z4 h4 q3 f3_0 hx4 hG4 hf4; exact absurd q3 (by omega)
      | succ m3 ih3 =>
        intro w3_2 Z4 h4 q3 f3_0 hx4 hG4 hf4
        refine mx_J.step (sn_267 6) (fun _ _ => rfl) ?_
        refine mx_J.step (sn_267 7) (fun _ _ => rfl) ?_
        refine JgetI (g := 18) (z := Z 56 18) hx4 (show mx_Sn _ _ 8 (mx_getf 12 18 11) from sn_267 8) a56 s56 rfl rfl ((hf4 56 18 rfl).trans (hf1 56 18 rfl)) ?_
        refine Jicmp_ge (show mx_Sn _ _ 11 (mx_icmp_ge 54 14) from sn_267 11) (by omega) (by omega) (fun q6 => ?_) (fun q6 => ?_)
        · skip
          refine JcI (z := 1) (show mx_Sn _ _ 54 (mx_const (.int 1) 55) from sn_267 54) rfl ?_
          refine mx_J.step (ls2 := [some (.ref 56), some (xI x0), some (xI 1), none, none, none]) (sn_267 55) (fun _ _ => rfl) ?_
          have c56 : ∀ (m7 : Nat) (w7_2 : Int) (u7_3 : Option Value) (u7_4 : Option Value) (u7_5 : Option Value) (Z8 : xZ) (h8 : mx_H), ((((sn 74 Z8 (Z 56 18) + sn 75 Z8 (Z 56 18)) + w7_2).toNat : Nat) : Int) < (m7 : Int) → 0 ≤ w7_2 ∧ w7_2 ≤ 1 → XH n s S Z8 h8 → GI n S Z8 → fr' [(74, (-1)), (75, (-1))] Z4 Z8 → mx_J (tB l D b0 ad Hb tau) mt_267 (d + 6) 56 [some (.ref 56), some (xI x0), some (xI w7_2), u7_3, u7_4, u7_5] [] h8 Post := by
            intro m7
            induction m7 with
            | zero => intro w7_2 u7_3 u7_4 u7_5 Z8 h8 q7 f7_0 hx8 hG8 hf8; exact absurd q7 (by omega)
            | succ m7 ih7 =>
              intro w7_2 u7_3 u7_4 u7_5 Z8 h8 q7 f7_0 hx8 hG8 hf8
              have p4 := sn_p (Z := Z8) (c := 74) (m := Z 56 18) (fun i => (hG8.pr 74 i).1)
              have p5 := sn_p (Z := Z8) (c := 75) (m := Z 56 18) (fun i => (hG8.pr 75 i).1)
              refine mx_J.step (sn_267 56) (fun _ _ => rfl) ?_
              refine Jif_eq (show mx_Sn _ _ 57 (mx_if_eq 216 60) from sn_267 57) (by omega) (fun q9 => ?_) (fun q9 => ?_)
              · skip
                refine mx_J.step (sn_267 216) (fun _ _ => rfl) ?_
                refine JgetR (g := 33) (b := 74) hx8 (show mx_Sn _ _ 217 (mx_getf 12 33 220) from sn_267 217) a56 s56 rfl rfl (hG8.prr 56 33 rfl) ?_
                refine mx_J.step (sn_267 220) (fun _ _ => rfl) ?_
                refine JgetR (g := 1) (b := 57) hx8 (show mx_Sn _ _ 221 (mx_getf 12 1 224) from sn_267 221) a56 s56 rfl rfl (hG8.prr 56 1 rfl) ?_
                refine JcI (z := 27) (show mx_Sn _ _ 224 (mx_const (.int 27) 226) from sn_267 224) rfl ?_
                have b12 := GI_st hG 27
                have b13 : 0 ≤ Z 57 27 ∧ Z 57 27 ≤ 384 := by have hq := GI_ex hG 57 27; replace hq : f57 (27 % 962) (Z 57 27) := hq; unfold f57 at hq; omega
                have b14 : (-2147483648) ≤ Z 57 27 ∧ Z 57 27 ≤ 2147483647 := hG.pr 57 27
                refine JialdI (z := Z 57 27) hx8 (show mx_Sn _ _ 226 (mx_iald 227) from sn_267 226) a57 s57 (by omega) ((hf8 57 27 rfl).trans ((hf4 57 27 rfl).trans (hf1 57 27 rfl))) ?_
                have b15 : 0 ≤ Z8 74 (Z 57 27) ∧ Z8 74 (Z 57 27) ≤ 268435456 := hG8.pr 74 (Z 57 27)
                refine JialdI (z := Z8 74 (Z 57 27)) hx8 (show mx_Sn _ _ 227 (mx_iald 228) from sn_267 227) a74 s74 (by omega) rfl ?_
                exact mx_J.ret (sn_267 228) (fun _ _ => rfl) (hP (Z8 74 (Z 57 27)) Z8 h8 hx8 hG8 (fr_tr (M := [(62, (-1)), (64, (-1)), (65, (-1)), (73, (-1)), (74, (-1)), (75, (-1))]) (fr_tr (M := [(62, (-1)), (64, (-1)), (65, (-1)), (73, (-1)), (74, (-1)), (75, (-1))]) (fr_tr (M := [(62, (-1)), (64, (-1)), (65, (-1)), (73, (-1)), (74, (-1)), (75, (-1))]) fr_rf (hf1) (M1 := []) rfl rfl) (hf4) rfl rfl) (hf8) rfl rfl) (by omega))
              · skip
                refine JcI (z := 0) (show mx_Sn _ _ 60 (mx_const (.int 0) 61) from sn_267 60) rfl ?_
                refine mx_J.step (ls2 := [some (.ref 56), some (xI x0), some (xI 0), u7_3, u7_4, u7_5]) (sn_267 61) (fun _ _ => rfl) ?_
                refine JcI (z := 0) (show mx_Sn _ _ 62 (mx_const (.int 0) 63) from sn_267 62) rfl ?_
                refine mx_J.step (ls2 := [some (.ref 56), some (xI x0), some (xI 0), some (xI 0), u7_4, u7_5]) (sn_267 63) (fun _ _ => rfl) ?_
                have c64 : ∀ (m16 : Nat) (w16_2 : Int) (w16_3 : Int) (u16_4 : Option Value) (u16_5 : Option Value) (Z17 : xZ) (h17 : mx_H), 385 - w16_3 < (m16 : Int) → 0 ≤ w16_2 ∧ w16_2 ≤ 1 → 0 ≤ w16_3 ∧ w16_3 ≤ 385 → ((sn 74 Z17 (Z 56 18) + sn 75 Z17 (Z 56 18)) ≤ (sn 74 Z8 (Z 56 18) + sn 75 Z8 (Z 56 18)) ∧ (w16_2 = 1 → (sn 74 Z17 (Z 56 18) + sn 75 Z17 (Z 56 18)) < (sn 74 Z8 (Z 56 18) + sn 75 Z8 (Z 56 18)))) → XH n s S Z17 h17 → GI n S Z17 → fr' [(74, (-1)), (75, (-1))] Z8 Z17 → mx_J (tB l D b0 ad Hb tau) mt_267 (d + 6) 64 [some (.ref 56), some (xI x0), some (xI w16_2), some (xI w16_3), u16_4, u16_5] [] h17 Post := by
                  intro m16
                  induction m16 with
                  | zero => intro w16_2 w16_3 u16_4 u16_5 Z17 h17 q16 f16_0 f16_1 f16_2 hx17 hG17 hf17; exact absurd q16 (by omega)
                  | succ m16 ih16 =>
                    intro w16_2 w16_3 u16_4 u16_5 Z17 h17 q16 f16_0 f16_1 f16_2 hx17 hG17 hf17
                    refine mx_J.step (sn_267 64) (fun _ _ => rfl) ?_
                    refine mx_J.step (sn_267 65) (fun _ _ => rfl) ?_
                    refine JgetI (g := 18) (z := Z 56 18) hx17 (show mx_Sn _ _ 66 (mx_getf 12 18 69) from sn_267 66) a56 s56 rfl rfl ((hf17 56 18 rfl).trans ((hf8 56 18 rfl).trans ((hf4 56 18 rfl).trans (hf1 56 18 rfl)))) ?_
                    refine Jicmp_ge (show mx_Sn _ _ 69 (mx_icmp_ge 213 72) from sn_267 69) (by omega) (by omega) (fun q19 => ?_) (fun q19 => ?_)
                    · skip
                      refine mx_J.step (sn_267 213) (fun _ _ => rfl) ?_
                      exact ih7 w16_2 (some (xI w16_3)) u16_4 u16_5 Z17 h17 (by omega) (by omega) hx17 hG17 (fr_tr (M := [(74, (-1)), (75, (-1))]) (fr_tr (M := [(74, (-1)), (75, (-1))]) fr_rf (hf8) (M1 := []) rfl rfl) (hf17) rfl rfl)
                    · skip
                      refine mx_J.step (sn_267 72) (fun _ _ => rfl) ?_
                      refine mx_J.step (sn_267 73) (fun _ _ => rfl) ?_
                      have eq21 : mn Z17 w16_3 = mn Z w16_3 := ((mn_c (fun i => hf17 61 i rfl)).trans ((mn_c (fun i => hf8 61 i rfl)).trans ((mn_c (fun i => hf4 61 i rfl)).trans (mn_c (fun i => hf1 61 i rfl)))))
                      obtain ⟨z20, hc20, b20⟩ := ct_191_56 (d := d + 4) (l := l) (D := D) (b0 := b0) (ad := ad) (Hb := Hb) (tau := tau) hx17 hG17 (show 0 ≤ w16_3 ∧ w16_3 ≤ 384 by omega)
                      refine Jcv hx17 (show mx_Sn _ _ 74 (mx_callv 191 2 12 77) from sn_267 74) a56 s56 hc20 rfl rfl rfl ?_
                      refine mx_J.step (sn_267 77) (fun _ _ => rfl) ?_
                      have c207 : ∀ (w22_2 : Int) (u22_4 : Option Value) (u22_5 : Option Value) (Z23 : xZ) (h23 : mx_H), 0 ≤ w22_2 ∧ w22_2 ≤ 1 → ((sn 74 Z23 (Z 56 18) + sn 75 Z23 (Z 56 18)) ≤ (sn 74 Z8 (Z 56 18) + sn 75 Z8 (Z 56 18)) ∧ (w22_2 = 1 → (sn 74 Z23 (Z 56 18) + sn 75 Z23 (Z 56 18)) < (sn 74 Z8 (Z 56 18) + sn 75 Z8 (Z 56 18)))) → XH n s S Z23 h23 → GI n S Z23 → fr' [(74, (-1)), (75, (-1))] Z17 Z23 → mx_J (tB l D b0 ad Hb tau) mt_267 (d + 6) 207 [some (.ref 56), some (xI x0), some (xI w22_2), some (xI w16_3), u22_4, u22_5] [] h23 Post := by
                        intro w22_2 u22_4 u22_5 Z23 h23 f22_0 f22_1 hx23 hG23 hf23
                        refine Jiinc (z := w16_3) (cz := 1) (ls2 := [some (.ref 56), some (xI x0), some (xI w22_2), some (xI (w16_3 + 1)), u22_4, u22_5]) (show mx_Sn _ _ 207 (mx_iinc 3 1 210) from sn_267 207) rfl rfl rfl rfl ?_
                        refine mx_J.step (sn_267 210) (fun _ _ => rfl) ?_
                        exact ih16 w22_2 (w16_3 + 1) u22_4 u22_5 Z23 h23 (by omega) (by omega) (by omega) (by omega) hx23 hG23 (fr_tr (M := [(74, (-1)), (75, (-1))]) (fr_tr (M := [(74, (-1)), (75, (-1))]) fr_rf (hf17) (M1 := []) rfl rfl) (hf23) rfl rfl)
                      refine Jicmp_gt (show mx_Sn _ _ 78 (mx_icmp_gt 84 81) from sn_267 78) (by omega) (by omega) (fun q24 => ?_) (fun q24 => ?_)
                      · skip
                        refine mx_J.step (sn_267 84) (fun _ _ => rfl) ?_
                        refine JgetR (g := 33) (b := 74) hx17 (show mx_Sn _ _ 85 (mx_getf 12 33 88) from sn_267 85) a56 s56 rfl rfl (hG17.prr 56 33 rfl) ?_
                        refine mx_J.step (sn_267 88) (fun _ _ => rfl) ?_
                        have b26 : 0 ≤ Z17 74 w16_3 ∧ Z17 74 w16_3 ≤ 268435456 := hG17.pr 74 w16_3
                        refine JialdI (z := Z17 74 w16_3) hx17 (show mx_Sn _ _ 89 (mx_iald 90) from sn_267 89) a74 s74 (by omega) rfl ?_
                        refine mx_J.step (ls2 := [some (.ref 56), some (xI x0), some (xI w16_2), some (xI w16_3), some (xI (Z17 74 w16_3)), u16_5]) (sn_267 90) (fun _ _ => rfl) ?_
                        refine JcI (z := 0) (show mx_Sn _ _ 92 (mx_const (.int 0) 93) from sn_267 92) rfl ?_
                        refine mx_J.step (ls2 := [some (.ref 56), some (xI x0), some (xI w16_2), some (xI w16_3), some (xI (Z17 74 w16_3)), some (xI 0)]) (sn_267 93) (fun _ _ => rfl) ?_
                        have c95 : ∀ (m27 : Nat) (w27_4 : Int) (w27_5 : Int), 19 - w27_5 < (m27 : Int) → 0 ≤ w27_4 ∧ w27_4 ≤ 268435456 → 0 ≤ w27_5 ∧ w27_5 ≤ 19 → w27_4 ≤ Z17 74 w16_3 → mx_J (tB l D b0 ad Hb tau) mt_267 (d + 6) 95 [some (.ref 56), some (xI x0), some (xI w16_2), some (xI w16_3), some (xI w27_4), some (xI w27_5)] [] h17 Post := by
                          intro m27
                          induction m27 with
                          | zero => intro w27_4 w27_5 q27 f27_0 f27_1 f27_2; exact absurd q27 (by omega)
                          | succ m27 ih27 =>
                            intro w27_4 w27_5 q27 f27_0 f27_1 f27_2
                            refine mx_J.step (sn_267 95) (fun _ _ => rfl) ?_
                            refine JcI (z := 19) (show mx_Sn _ _ 97 (mx_const (.int 19) 99) from sn_267 97) rfl ?_
                            refine Jicmp_ge (show mx_Sn _ _ 99 (mx_icmp_ge 134 102) from sn_267 99) (by omega) (by omega) (fun q28 => ?_) (fun q28 => ?_)
                            · skip
                              refine mx_J.step (sn_267 134) (fun _ _ => rfl) ?_
                              refine mx_J.step (sn_267 135) (fun _ _ => rfl) ?_
                              obtain ⟨z29, hc29, b29⟩ := ct_266_56 (d := d + 5) (l := l) (D := D) (b0 := b0) (ad := ad) (Hb := Hb) (tau := tau) hx17 hG17 (show 0 ≤ w16_3 ∧ w16_3 ≤ 384 by omega)
                              refine Jcv hx17 (show mx_Sn _ _ 136 (mx_callv 266 2 12 139) from sn_267 136) a56 s56 hc29 rfl rfl rfl ?_
                              refine mx_J.step (ls2 := [some (.ref 56), some (xI x0), some (xI w16_2), some (xI w16_3), some (xI w27_4), some (xI z29)]) (sn_267 139) (fun _ _ => rfl) ?_
                              refine mx_J.step (sn_267 141) (fun _ _ => rfl) ?_
                              refine mx_J.step (sn_267 142) (fun _ _ => rfl) ?_
                              refine mx_J.step (sn_267 144) (fun _ _ => rfl) ?_
                              refine JgetR (g := 33) (b := 74) hx17 (show mx_Sn _ _ 145 (mx_getf 12 33 148) from sn_267 145) a56 s56 rfl rfl (hG17.prr 56 33 rfl) ?_
                              refine mx_J.step (sn_267 148) (fun _ _ => rfl) ?_
                              refine JialdI (z := Z17 74 w16_3) hx17 (show mx_Sn _ _ 149 (mx_iald 150) from sn_267 149) a74 s74 (by omega) rfl ?_
                              have c169 : ∀ (k31_1 : Int), 0 ≤ k31_1 ∧ k31_1 ≤ 1 → ((k31_1 = 0 → Z17 74 w16_3 ≤ w27_4 ∧ Z17 75 w16_3 ≤ z29) ∧ (k31_1 = 1 → w27_4 < Z17 74 w16_3 ∨ z29 < Z17 75 w16_3)) → mx_J (tB l D b0 ad Hb tau) mt_267 (d + 6) 169 [some (.ref 56), some (xI x0), some (xI w16_2), some (xI w16_3), some (xI w27_4), some (xI z29)] [xI k31_1, xI w16_2] h17 Post := by
                                intro k31_1 f31_0 f31_1
                                refine Jior01 (show mx_Sn _ _ 169 (mx_ior 170) from sn_267 169) (by omega) (by omega) (fun y32 hy32 => ?_)
                                refine mx_J.step (ls2 := [some (.ref 56), some (xI x0), some (xI y32), some (xI w16_3), some (xI w27_4), some (xI z29)]) (sn_267 170) (fun _ _ => rfl) ?_
                                refine mx_J.step (sn_267 171) (fun _ _ => rfl) ?_
                                refine JgetR (g := 33) (b := 74) hx17 (show mx_Sn _ _ 172 (mx_getf 12 33 175) from sn_267 172) a56 s56 rfl rfl (hG17.prr 56 33 rfl) ?_
                                refine mx_J.step (sn_267 175) (fun _ _ => rfl) ?_
                                refine mx_J.step (sn_267 176) (fun _ _ => rfl) ?_
                                refine JiastI hx17 (show mx_Sn _ _ 178 (mx_iast 1 179) from sn_267 178) a74 s74 rfl (by omega) (fun Z34 h34 hx34 hE34 => ?_)
                                have hG34 := GI_up hG17 hE34 (show 0 ≤ w27_4 ∧ w27_4 ≤ 268435456 by omega) trivial rfl
                                have s1 := sn_u (m := Z 56 18) hE34 (by omega)
                                have eq35 : (sn 75) Z34 (Z 56 18) = (sn 75) Z17 (Z 56 18) := (sn_c (fun i => up_nk hE34 rfl))
                                refine mx_J.step (sn_267 179) (fun _ _ => rfl) ?_
                                refine JgetR (g := 34) (b := 75) hx34 (show mx_Sn _ _ 180 (mx_getf 12 34 183) from sn_267 180) a56 s56 rfl rfl (hG34.prr 56 34 rfl) ?_
                                refine mx_J.step (sn_267 183) (fun _ _ => rfl) ?_
                                refine mx_J.step (sn_267 184) (fun _ _ => rfl) ?_
                                refine mx_J.step (sn_267 186) (fun _ _ => rfl) ?_
                                refine JgetR (g := 34) (b := 75) hx34 (show mx_Sn _ _ 187 (mx_getf 12 34 190) from sn_267 187) a56 s56 rfl rfl (hG34.prr 56 34 rfl) ?_
                                refine mx_J.step (sn_267 190) (fun _ _ => rfl) ?_
                                have b38 : 0 ≤ Z17 75 w16_3 ∧ Z17 75 w16_3 ≤ 268435456 := hG17.pr 75 w16_3
                                refine JialdI (z := Z17 75 w16_3) hx34 (show mx_Sn _ _ 191 (mx_iald 192) from sn_267 191) a75 s75 (by omega) (up_nk hE34 rfl) ?_
                                have c206 : ∀ (k39_2 : Int), 0 ≤ k39_2 ∧ k39_2 ≤ 268435456 → (k39_2 ≤ Z34 75 w16_3 ∧ (z29 < Z34 75 w16_3 → k39_2 = z29)) → mx_J (tB l D b0 ad Hb tau) mt_267 (d + 6) 206 [some (.ref 56), some (xI x0), some (xI y32), some (xI w16_3), some (xI w27_4), some (xI z29)] [xI k39_2, xI w16_3, .ref 75] h34 Post := by
                                  intro k39_2 f39_0 f39_1
                                  have eq40 : Z34 75 w16_3 = Z17 75 w16_3 := (up_nk hE34 rfl)
                                  refine JiastI hx34 (show mx_Sn _ _ 206 (mx_iast 1 207) from sn_267 206) a75 s75 rfl (by omega) (fun Z41 h41 hx41 hE41 => ?_)
                                  have hG41 := GI_up hG34 hE41 (show 0 ≤ k39_2 ∧ k39_2 ≤ 268435456 by omega) trivial rfl
                                  have s2 := sn_u (m := Z 56 18) hE41 (by omega)
                                  have eq42 : (sn 74) Z41 (Z 56 18) = (sn 74) Z34 (Z 56 18) := (sn_c (fun i => up_nk hE41 rfl))
                                  exact c207 y32 (some (xI w27_4)) (some (xI z29)) Z41 h41 (by omega) (by omega) hx41 hG41 (fr_tr (M := [(74, (-1)), (75, (-1))]) (fr_tr (M := [(74, (-1)), (75, (-1))]) fr_rf (fr_ua hE34) (M1 := []) rfl rfl) (fr_ua hE41) rfl rfl)
                                refine Jicmp_ge (show mx_Sn _ _ 192 (mx_icmp_ge 200 195) from sn_267 192) (by omega) (by omega) (fun q43 => ?_) (fun q43 => ?_)
                                · skip
                                  refine mx_J.step (sn_267 200) (fun _ _ => rfl) ?_
                                  refine JgetR (g := 34) (b := 75) hx34 (show mx_Sn _ _ 201 (mx_getf 12 34 204) from sn_267 201) a56 s56 rfl rfl (hG34.prr 56 34 rfl) ?_
                                  refine mx_J.step (sn_267 204) (fun _ _ => rfl) ?_
                                  refine JialdI (z := Z17 75 w16_3) hx34 (show mx_Sn _ _ 205 (mx_iald 206) from sn_267 205) a75 s75 (by omega) (up_nk hE34 rfl) ?_
                                  have eq45 : Z34 75 w16_3 = Z17 75 w16_3 := (up_nk hE34 rfl)
                                  exact c206 (Z17 75 w16_3) (by omega) (by omega)
                                · skip
                                  refine mx_J.step (sn_267 195) (fun _ _ => rfl) ?_
                                  refine mx_J.step (sn_267 197) (fun _ _ => rfl) ?_
                                  have eq46 : Z34 75 w16_3 = Z17 75 w16_3 := (up_nk hE34 rfl)
                                  exact c206 z29 (by omega) (by omega)
                              have c164 : (w27_4 < Z17 74 w16_3 ∨ z29 < Z17 75 w16_3) → mx_J (tB l D b0 ad Hb tau) mt_267 (d + 6) 164 [some (.ref 56), some (xI x0), some (xI w16_2), some (xI w16_3), some (xI w27_4), some (xI z29)] [xI w16_2] h17 Post := by
                                intro f47_0
                                refine JcI (z := 1) (show mx_Sn _ _ 164 (mx_const (.int 1) 165) from sn_267 164) rfl ?_
                                refine mx_J.step (sn_267 165) (fun _ _ => rfl) ?_
                                exact c169 1 (by omega) (by omega)
                              refine Jicmp_lt (show mx_Sn _ _ 150 (mx_icmp_lt 164 153) from sn_267 150) (by omega) (by omega) (fun q48 => ?_) (fun q48 => ?_)
                              · skip
                                exact c164 (by omega)
                              · skip
                                refine mx_J.step (sn_267 153) (fun _ _ => rfl) ?_
                                refine mx_J.step (sn_267 155) (fun _ _ => rfl) ?_
                                refine JgetR (g := 34) (b := 75) hx17 (show mx_Sn _ _ 156 (mx_getf 12 34 159) from sn_267 156) a56 s56 rfl rfl (hG17.prr 56 34 rfl) ?_
                                refine mx_J.step (sn_267 159) (fun _ _ => rfl) ?_
                                have b50 : 0 ≤ Z17 75 w16_3 ∧ Z17 75 w16_3 ≤ 268435456 := hG17.pr 75 w16_3
                                refine JialdI (z := Z17 75 w16_3) hx17 (show mx_Sn _ _ 160 (mx_iald 161) from sn_267 160) a75 s75 (by omega) rfl ?_
                                refine Jicmp_ge (show mx_Sn _ _ 161 (mx_icmp_ge 168 164) from sn_267 161) (by omega) (by omega) (fun q51 => ?_) (fun q51 => ?_)
                                · skip
                                  refine JcI (z := 0) (show mx_Sn _ _ 168 (mx_const (.int 0) 169) from sn_267 168) rfl ?_
                                  exact c169 0 (by omega) (by omega)
                                · skip
                                  exact c164 (by omega)
                            · skip
                              refine mx_J.step (sn_267 102) (fun _ _ => rfl) ?_
                              refine mx_J.step (sn_267 103) (fun _ _ => rfl) ?_
                              refine mx_J.step (sn_267 104) (fun _ _ => rfl) ?_
                              obtain ⟨z52, hc52, b52⟩ := ct_265_56 (d := d + 5) (l := l) (D := D) (b0 := b0) (ad := ad) (Hb := Hb) (tau := tau) hx17 hG17 (show 0 ≤ w16_3 ∧ w16_3 ≤ 384 by omega) (show 0 ≤ w27_5 ∧ w27_5 ≤ 18 by omega)
                              refine Jcv hx17 (show mx_Sn _ _ 106 (mx_callv 265 3 12 109) from sn_267 106) a56 s56 hc52 rfl rfl rfl ?_
                              refine mx_J.step (sn_267 109) (fun _ _ => rfl) ?_
                              have c126 : ∀ (k53_0 : Int), 0 ≤ k53_0 ∧ k53_0 ≤ 268435456 → k53_0 ≤ Z17 74 w16_3 → mx_J (tB l D b0 ad Hb tau) mt_267 (d + 6) 126 [some (.ref 56), some (xI x0), some (xI w16_2), some (xI w16_3), some (xI w27_4), some (xI w27_5)] [xI k53_0] h17 Post := by
                                intro k53_0 f53_0 f53_1
                                refine mx_J.step (ls2 := [some (.ref 56), some (xI x0), some (xI w16_2), some (xI w16_3), some (xI k53_0), some (xI w27_5)]) (sn_267 126) (fun _ _ => rfl) ?_
                                refine Jiinc (z := w27_5) (cz := 1) (ls2 := [some (.ref 56), some (xI x0), some (xI w16_2), some (xI w16_3), some (xI k53_0), some (xI (w27_5 + 1))]) (show mx_Sn _ _ 128 (mx_iinc 5 1 131) from sn_267 128) rfl rfl rfl rfl ?_
                                refine mx_J.step (sn_267 131) (fun _ _ => rfl) ?_
                                exact ih27 k53_0 (w27_5 + 1) (by omega) (by omega) (by omega) (by omega)
                              refine Jicmp_ge (show mx_Sn _ _ 111 (mx_icmp_ge 124 114) from sn_267 111) (by omega) (by omega) (fun q54 => ?_) (fun q54 => ?_)
                              · skip
                                refine mx_J.step (sn_267 124) (fun _ _ => rfl) ?_
                                exact c126 w27_4 (by omega) (by omega)
                              · skip
                                refine mx_J.step (sn_267 114) (fun _ _ => rfl) ?_
                                refine mx_J.step (sn_267 115) (fun _ _ => rfl) ?_
                                refine mx_J.step (sn_267 116) (fun _ _ => rfl) ?_
                                obtain ⟨z55, hc55, b55⟩ := ct_265_56 (d := d + 5) (l := l) (D := D) (b0 := b0) (ad := ad) (Hb := Hb) (tau := tau) hx17 hG17 (show 0 ≤ w16_3 ∧ w16_3 ≤ 384 by omega) (show 0 ≤ w27_5 ∧ w27_5 ≤ 18 by omega)
                                refine Jcv hx17 (show mx_Sn _ _ 118 (mx_callv 265 3 12 121) from sn_267 118) a56 s56 hc55 rfl rfl rfl ?_
                                refine mx_J.step (sn_267 121) (fun _ _ => rfl) ?_
                                exact c126 z55 (by omega) (by omega)
                        exact c95 (Int.toNat (19 - 0) + 1) (Z17 74 w16_3) 0 (by omega) (by omega) (by omega) (by omega)
                      · skip
                        refine mx_J.step (sn_267 81) (fun _ _ => rfl) ?_
                        exact c207 w16_2 u16_4 u16_5 Z17 h17 (by omega) (by omega) hx17 hG17 fr_rf
                exact c64 (Int.toNat (385 - 0) + 1) 0 0 u7_4 u7_5 Z8 h8 (by omega) (by omega) (by omega) (by omega) hx8 hG8 fr_rf
          exact c56 (Int.toNat (((((sn 74 Z4 (Z 56 18) + sn 75 Z4 (Z 56 18)) + 1).toNat : Nat) : Int)) + 1) 1 none none none Z4 h4 (by omega) (by omega) hx4 hG4 fr_rf
        · skip
          refine mx_J.step (sn_267 14) (fun _ _ => rfl) ?_
          refine JgetR (g := 33) (b := 74) hx4 (show mx_Sn _ _ 15 (mx_getf 12 33 18) from sn_267 15) a56 s56 rfl rfl (hG4.prr 56 33 rfl) ?_
          refine mx_J.step (sn_267 18) (fun _ _ => rfl) ?_
          refine mx_J.step (sn_267 19) (fun _ _ => rfl) ?_
          refine mx_J.step (sn_267 20) (fun _ _ => rfl) ?_
          have eq58 : mn Z4 w3_2 = mn Z w3_2 := ((mn_c (fun i => hf4 61 i rfl)).trans (mn_c (fun i => hf1 61 i rfl)))
          obtain ⟨z57, hc57, b57⟩ := ct_191_56 (d := d + 4) (l := l) (D := D) (b0 := b0) (ad := ad) (Hb := Hb) (tau := tau) hx4 hG4 (show 0 ≤ w3_2 ∧ w3_2 ≤ 384 by omega)
          refine Jcv hx4 (show mx_Sn _ _ 21 (mx_callv 191 2 12 24) from sn_267 21) a56 s56 hc57 rfl rfl rfl ?_
          refine mx_J.step (sn_267 24) (fun _ _ => rfl) ?_
          have c35 : ∀ (k59_2 : Int), 0 ≤ k59_2 ∧ k59_2 ≤ 268435456 → mx_J (tB l D b0 ad Hb tau) mt_267 (d + 6) 35 [some (.ref 56), some (xI x0), some (xI w3_2), none, none, none] [xI k59_2, xI w3_2, .ref 74] h4 Post := by
            intro k59_2 f59_0
            refine JiastI hx4 (show mx_Sn _ _ 35 (mx_iast 1 36) from sn_267 35) a74 s74 rfl (by omega) (fun Z60 h60 hx60 hE60 => ?_)
            have hG60 := GI_up hG4 hE60 (show 0 ≤ k59_2 ∧ k59_2 ≤ 268435456 by omega) trivial rfl
            refine mx_J.step (sn_267 36) (fun _ _ => rfl) ?_
            refine JgetR (g := 34) (b := 75) hx60 (show mx_Sn _ _ 37 (mx_getf 12 34 40) from sn_267 37) a56 s56 rfl rfl (hG60.prr 56 34 rfl) ?_
            refine mx_J.step (sn_267 40) (fun _ _ => rfl) ?_
            refine mx_J.step (sn_267 41) (fun _ _ => rfl) ?_
            refine JgetR (g := 33) (b := 74) hx60 (show mx_Sn _ _ 42 (mx_getf 12 33 45) from sn_267 42) a56 s56 rfl rfl (hG60.prr 56 33 rfl) ?_
            refine mx_J.step (sn_267 45) (fun _ _ => rfl) ?_
            have b63 : 0 ≤ Z60 74 w3_2 ∧ Z60 74 w3_2 ≤ 268435456 := hG60.pr 74 w3_2
            refine JialdI (z := Z60 74 w3_2) hx60 (show mx_Sn _ _ 46 (mx_iald 47) from sn_267 46) a74 s74 (by omega) rfl ?_
            refine JiastI hx60 (show mx_Sn _ _ 47 (mx_iast 1 48) from sn_267 47) a75 s75 rfl (by omega) (fun Z64 h64 hx64 hE64 => ?_)
            have hG64 := GI_up hG60 hE64 (show 0 ≤ Z60 74 w3_2 ∧ Z60 74 w3_2 ≤ 268435456 by omega) trivial rfl
            refine Jiinc (z := w3_2) (cz := 1) (ls2 := [some (.ref 56), some (xI x0), some (xI (w3_2 + 1)), none, none, none]) (show mx_Sn _ _ 48 (mx_iinc 2 1 51) from sn_267 48) rfl rfl rfl rfl ?_
            refine mx_J.step (sn_267 51) (fun _ _ => rfl) ?_
            exact ih3 (w3_2 + 1) Z64 h64 (by omega) (by omega) hx64 hG64 (fr_tr (M := [(74, (-1)), (75, (-1))]) (fr_tr (M := [(74, (-1)), (75, (-1))]) (fr_tr (M := [(74, (-1)), (75, (-1))]) fr_rf (hf4) (M1 := []) rfl rfl) (fr_ua hE60) rfl rfl) (fr_ua hE64) rfl rfl)
          refine Jicmp_gt (show mx_Sn _ _ 25 (mx_icmp_gt 32 28) from sn_267 25) (by omega) (by omega) (fun q65 => ?_) (fun q65 => ?_)
          · skip
            refine JcI (z := 268435456) (show mx_Sn _ _ 32 (mx_const (.int 268435456) 35) from sn_267 32) rfl ?_
            exact c35 268435456 (by omega)
          · skip
            refine JcI (z := 0) (show mx_Sn _ _ 28 (mx_const (.int 0) 29) from sn_267 28) rfl ?_
            refine mx_J.step (sn_267 29) (fun _ _ => rfl) ?_
            exact c35 0 (by omega)
    exact c6 (Int.toNat (385 - 0) + 1) 0 Z1 h1 (by omega) (by omega) hx1 hG1 fr_rf
theorem ct_267_56 {l : Launch} {D : va_G} {b0 : Nat} {ad : Nat → Nat} {Hb : Heap} {tau : Nat → Int64} {d n s : Nat} {S : Nat → xS} {Z : xZ} {h : mx_H} (hx : XH n s S Z h) (hG : GI n S Z)  {x0 : Int} (p0 : 1 ≤ x0 ∧ x0 ≤ 18) : ∃ (z : Int) (Z' : xZ) (h' : mx_H), mx_Ca (tB l D b0 ad Hb tau) (d + 7) 267 [.ref 56, xI x0] h (some (xI z), h') ∧ XH n s S Z' h' ∧ GI n S Z' ∧ fr' [(62, (-1)), (64, (-1)), (65, (-1)), (73, (-1)), (74, (-1)), (75, (-1))] Z Z' ∧ (0 ≤ z ∧ z ≤ 268435456) := by
  obtain ⟨r, hca, z, Z', h', e, q⟩ := Jmt (B := tB l D b0 ad Hb tau) (M := mt_267) (mi := 267) (as := [.ref 56, xI x0]) (d := d + 6) (ls := [some (.ref 56), some (xI x0), none, none, none, none]) rfl rfl rfl rfl rfl rfl (cw_267_56 (l := l) (D := D) (b0 := b0) (ad := ad) (Hb := Hb) (tau := tau) (d := d) (Post := fun r => ∃ (z : Int) (Z' : xZ) (h' : mx_H), r = (some (xI z), h') ∧ XH n s S Z' h' ∧ GI n S Z' ∧ fr' [(62, (-1)), (64, (-1)), (65, (-1)), (73, (-1)), (74, (-1)), (75, (-1))] Z Z' ∧ (0 ≤ z ∧ z ≤ 268435456)) hx hG p0 (fun z Z' h' q1 q2 q3 q4 => ⟨z, Z', h', rfl, q1, q2, q3, q4⟩))
  subst e; exact ⟨z, Z', h', hca, q⟩
set_option maxRecDepth 100000 in
theorem cw_268_56 {l : Launch} {D : va_G} {b0 : Nat} {ad : Nat → Nat} {Hb : Heap} {tau : Nat → Int64} {d n s : Nat} {S : Nat → xS} {Z : xZ} {h : mx_H} {Post : mx_R → Prop} (hx : XH n s S Z h) (hG : GI n S Z)  {x0 : Int} (p0 : (-2147483648) ≤ x0 ∧ x0 ≤ 2147483647) (hP : ∀ (z : Int) (Z' : xZ) (h' : mx_H), XH n s S Z' h' → GI n S Z' → fr' [(56, 0), (62, (-1)), (64, (-1)), (65, (-1)), (73, (-1)), (74, (-1)), (75, (-1))] Z Z' → (-3) ≤ z ∧ z ≤ 268435455 → Post (some (xI z), h')) : mx_J (tB l D b0 ad Hb tau) mt_268 (d + 7) 0 [some (.ref 56), some (xI x0)] [] h Post := by
    have a56 : 56 < n := lt83 (GI_n hG) rfl
    have s56 : S 56 = .inl (12, [0, 2, 2, 2, 2, 0, 0, 0, 0, 0, 0, 0, 0, 0, 0, 2, 2, 2, 0, 2, 2, 2, 0, 0, 2, 2, 2, 2, 2, 2, 0, 0, 2, 2, 2, 2, 2, 2, 2, 2, 2, 2]) := GI_s hG 56 rfl
    refine mx_J.step (sn_268 0) (fun _ _ => rfl) ?_
    refine JcI (z := 0) (show mx_Sn _ _ 1 (mx_const (.int 0) 2) from sn_268 1) rfl ?_
    refine JputI (g := 0) hx (show mx_Sn _ _ 2 (mx_putf 1 12 0 (.int) 5) from sn_268 2) a56 s56 rfl rfl rfl rfl (fun Z1 h1 hx1 hE1 => ?_)
    have hG1 := GI_up hG hE1 (show (-2147483648) ≤ 0 ∧ 0 ≤ 2147483647 by omega) trivial rfl
    refine mx_J.step (sn_268 5) (fun _ _ => rfl) ?_
    refine Ji2l (show mx_Sn _ _ 6 (mx_i2l 7) from sn_268 6) (by omega) ?_
    obtain ⟨z2, hc2, b2⟩ := ct_208_ (d := d + 5) (l := l) (D := D) (b0 := b0) (ad := ad) (Hb := Hb) (tau := tau) hx1 hG1 (show (-9223372036854775808) ≤ x0 ∧ x0 ≤ 9223372036854775807 by omega)
    refine Jcs (show mx_Sn _ _ 7 (mx_calls 208 1 10) from sn_268 7) hc2 rfl rfl rfl ?_
    have c26 : ∀ (k3_0 : Int) (Z4 : xZ) (h4 : mx_H), (-3) ≤ k3_0 ∧ k3_0 ≤ 268435455 → XH n s S Z4 h4 → GI n S Z4 → fr' [(62, (-1)), (64, (-1)), (65, (-1)), (73, (-1)), (74, (-1)), (75, (-1))] Z1 Z4 → mx_J (tB l D b0 ad Hb tau) mt_268 (d + 7) 26 [some (.ref 56), some (xI x0)] [xI k3_0] h4 Post := by
      intro k3_0 Z4 h4 f3_0 hx4 hG4 hf4
      exact mx_J.ret (sn_268 26) (fun _ _ => rfl) (hP k3_0 Z4 h4 hx4 hG4 (fr_tr (M := [(56, 0), (62, (-1)), (64, (-1)), (65, (-1)), (73, (-1)), (74, (-1)), (75, (-1))]) (fr_tr (M := [(56, 0), (62, (-1)), (64, (-1)), (65, (-1)), (73, (-1)), (74, (-1)), (75, (-1))]) fr_rf (fr_up hE1) (M1 := []) rfl rfl) (hf4) rfl rfl) (by omega))
    refine Jif_eq (show mx_Sn _ _ 10 (mx_if_eq 24 13) from sn_268 10) (by omega) (fun q5 => ?_) (fun q5 => ?_)
    · skip
      refine JcI (z := (-3)) (show mx_Sn _ _ 24 (mx_const (.int (-3)) 26) from sn_268 24) rfl ?_
      exact c26 (-3) Z1 h1 (by omega) hx1 hG1 fr_rf
    · skip
      refine mx_J.step (sn_268 13) (fun _ _ => rfl) ?_
      refine mx_J.step (sn_268 14) (fun _ _ => rfl) ?_
      obtain ⟨z6, Z6, h6, hc6, hx6, hG6, hf6, b6⟩ := ct_267_56 (d := d + 0) (l := l) (D := D) (b0 := b0) (ad := ad) (Hb := Hb) (tau := tau) hx1 hG1 (show 1 ≤ x0 ∧ x0 ≤ 18 by omega)
      refine Jcv hx1 (show mx_Sn _ _ 15 (mx_callv 267 2 12 18) from sn_268 15) a56 s56 hc6 rfl rfl rfl ?_
      obtain ⟨z7, hc7, b7⟩ := ct_238_ (d := d + 6) (l := l) (D := D) (b0 := b0) (ad := ad) (Hb := Hb) (tau := tau) hx6 hG6 (show 0 ≤ z6 ∧ z6 ≤ 268435456 by omega)
      refine Jcs (show mx_Sn _ _ 18 (mx_calls 238 1 21) from sn_268 18) hc7 rfl rfl rfl ?_
      refine mx_J.step (sn_268 21) (fun _ _ => rfl) ?_
      exact c26 z7 Z6 h6 (by omega) hx6 hG6 (fr_tr (M := [(62, (-1)), (64, (-1)), (65, (-1)), (73, (-1)), (74, (-1)), (75, (-1))]) fr_rf (hf6) (M1 := []) rfl rfl)
theorem ct_268_56 {l : Launch} {D : va_G} {b0 : Nat} {ad : Nat → Nat} {Hb : Heap} {tau : Nat → Int64} {d n s : Nat} {S : Nat → xS} {Z : xZ} {h : mx_H} (hx : XH n s S Z h) (hG : GI n S Z)  {x0 : Int} (p0 : (-2147483648) ≤ x0 ∧ x0 ≤ 2147483647) : ∃ (z : Int) (Z' : xZ) (h' : mx_H), mx_Ca (tB l D b0 ad Hb tau) (d + 8) 268 [.ref 56, xI x0] h (some (xI z), h') ∧ XH n s S Z' h' ∧ GI n S Z' ∧ fr' [(56, 0), (62, (-1)), (64, (-1)), (65, (-1)), (73, (-1)), (74, (-1)), (75, (-1))] Z Z' ∧ ((-3) ≤ z ∧ z ≤ 268435455) := by
  obtain ⟨r, hca, z, Z', h', e, q⟩ := Jmt (B := tB l D b0 ad Hb tau) (M := mt_268) (mi := 268) (as := [.ref 56, xI x0]) (d := d + 7) (ls := [some (.ref 56), some (xI x0)]) rfl rfl rfl rfl rfl rfl (cw_268_56 (l := l) (D := D) (b0 := b0) (ad := ad) (Hb := Hb) (tau := tau) (d := d) (Post := fun r => ∃ (z : Int) (Z' : xZ) (h' : mx_H), r = (some (xI z), h') ∧ XH n s S Z' h' ∧ GI n S Z' ∧ fr' [(56, 0), (62, (-1)), (64, (-1)), (65, (-1)), (73, (-1)), (74, (-1)), (75, (-1))] Z Z' ∧ ((-3) ≤ z ∧ z ≤ 268435455)) hx hG p0 (fun z Z' h' q1 q2 q3 q4 => ⟨z, Z', h', rfl, q1, q2, q3, q4⟩))
  subst e; exact ⟨z, Z', h', hca, q⟩
set_option maxRecDepth 100000 in
theorem cw_269_56 {l : Launch} {D : va_G} {b0 : Nat} {ad : Nat → Nat} {Hb : Heap} {tau : Nat → Int64} {d n s : Nat} {S : Nat → xS} {Z : xZ} {h : mx_H} {Post : mx_R → Prop} (hx : XH n s S Z h) (hG : GI n S Z)  {x0 : Int} (p0 : (-2147483648) ≤ x0 ∧ x0 ≤ 2147483647) (hP : ∀ (z : Int) (Z' : xZ) (h' : mx_H), XH n s S Z' h' → GI n S Z' → fr' [(56, 0), (62, (-1)), (64, (-1)), (65, (-1)), (73, (-1)), (74, (-1)), (75, (-1))] Z Z' → (-3) ≤ z ∧ z ≤ 18 → Post (some (xI z), h')) : mx_J (tB l D b0 ad Hb tau) mt_269 (d + 7) 0 [some (.ref 56), some (xI x0), none, none] [] h Post := by
    have a56 : 56 < n := lt83 (GI_n hG) rfl
    have s56 : S 56 = .inl (12, [0, 2, 2, 2, 2, 0, 0, 0, 0, 0, 0, 0, 0, 0, 0, 2, 2, 2, 0, 2, 2, 2, 0, 0, 2, 2, 2, 2, 2, 2, 0, 0, 2, 2, 2, 2, 2, 2, 2, 2, 2, 2]) := GI_s hG 56 rfl
    have a57 : 57 < n := lt83 (GI_n hG) rfl
    have s57 : S 57 = .inr (.int, 2886, 0) := GI_s hG 57 rfl
    refine mx_J.step (sn_269 0) (fun _ _ => rfl) ?_
    refine JcI (z := 0) (show mx_Sn _ _ 1 (mx_const (.int 0) 2) from sn_269 1) rfl ?_
    refine JputI (g := 0) hx (show mx_Sn _ _ 2 (mx_putf 1 12 0 (.int) 5) from sn_269 2) a56 s56 rfl rfl rfl rfl (fun Z1 h1 hx1 hE1 => ?_)
    have hG1 := GI_up hG hE1 (show (-2147483648) ≤ 0 ∧ 0 ≤ 2147483647 by omega) trivial rfl
    refine mx_J.step (sn_269 5) (fun _ _ => rfl) ?_
    refine Ji2l (show mx_Sn _ _ 6 (mx_i2l 7) from sn_269 6) (by omega) ?_
    obtain ⟨z2, hc2, b2⟩ := ct_208_ (d := d + 5) (l := l) (D := D) (b0 := b0) (ad := ad) (Hb := Hb) (tau := tau) hx1 hG1 (show (-9223372036854775808) ≤ x0 ∧ x0 ≤ 9223372036854775807 by omega)
    refine Jcs (show mx_Sn _ _ 7 (mx_calls 208 1 10) from sn_269 7) hc2 rfl rfl rfl ?_
    refine Jif_ne (show mx_Sn _ _ 10 (mx_if_ne 16 13) from sn_269 10) (by omega) (fun q3 => ?_) (fun q3 => ?_)
    · skip
      refine mx_J.step (sn_269 16) (fun _ _ => rfl) ?_
      refine mx_J.step (sn_269 17) (fun _ _ => rfl) ?_
      obtain ⟨z4, Z4, h4, hc4, hx4, hG4, hf4, b4⟩ := ct_267_56 (d := d + 0) (l := l) (D := D) (b0 := b0) (ad := ad) (Hb := Hb) (tau := tau) hx1 hG1 (show 1 ≤ x0 ∧ x0 ≤ 18 by omega)
      refine Jcv hx1 (show mx_Sn _ _ 18 (mx_callv 267 2 12 21) from sn_269 18) a56 s56 hc4 rfl rfl rfl ?_
      refine mx_J.step (ls2 := [some (.ref 56), some (xI x0), some (xI z4), none]) (sn_269 21) (fun _ _ => rfl) ?_
      refine JcI (z := 0) (show mx_Sn _ _ 22 (mx_const (.int 0) 23) from sn_269 22) rfl ?_
      refine mx_J.step (ls2 := [some (.ref 56), some (xI x0), some (xI z4), some (xI 0)]) (sn_269 23) (fun _ _ => rfl) ?_
      have c24 : ∀ (m5 : Nat) (w5_3 : Int), 19 - w5_3 < (m5 : Int) → 0 ≤ w5_3 ∧ w5_3 ≤ 19 → mx_J (tB l D b0 ad Hb tau) mt_269 (d + 7) 24 [some (.ref 56), some (xI x0), some (xI z4), some (xI w5_3)] [] h4 Post := by
        intro m5
        induction m5 with
        | zero => intro w5_3 q5 f5_0; exact absurd q5 (by omega)
        | succ m5 ih5 =>
          intro w5_3 q5 f5_0
          refine mx_J.step (sn_269 24) (fun _ _ => rfl) ?_
          refine JcI (z := 19) (show mx_Sn _ _ 25 (mx_const (.int 19) 27) from sn_269 25) rfl ?_
          have c65 : mx_J (tB l D b0 ad Hb tau) mt_269 (d + 7) 65 [some (.ref 56), some (xI x0), some (xI z4), some (xI w5_3)] [] h4 Post := by
            refine JcI (z := (-1)) (show mx_Sn _ _ 65 (mx_const (.int (-1)) 66) from sn_269 65) rfl ?_
            exact mx_J.ret (sn_269 66) (fun _ _ => rfl) (hP (-1) Z4 h4 hx4 hG4 (fr_tr (M := [(56, 0), (62, (-1)), (64, (-1)), (65, (-1)), (73, (-1)), (74, (-1)), (75, (-1))]) (fr_tr (M := [(56, 0), (62, (-1)), (64, (-1)), (65, (-1)), (73, (-1)), (74, (-1)), (75, (-1))]) fr_rf (fr_up hE1) (M1 := []) rfl rfl) (hf4) rfl rfl) (by omega))
          refine Jicmp_ge (show mx_Sn _ _ 27 (mx_icmp_ge 65 30) from sn_269 27) (by omega) (by omega) (fun q7 => ?_) (fun q7 => ?_)
          · skip
            exact c65 
          · skip
            refine mx_J.step (sn_269 30) (fun _ _ => rfl) ?_
            refine Jif_le (show mx_Sn _ _ 31 (mx_if_le 65 34) from sn_269 31) (by omega) (fun q8 => ?_) (fun q8 => ?_)
            · skip
              exact c65 
            · skip
              refine mx_J.step (sn_269 34) (fun _ _ => rfl) ?_
              refine JcI (z := 268435456) (show mx_Sn _ _ 35 (mx_const (.int 268435456) 38) from sn_269 35) rfl ?_
              refine Jicmp_ge (show mx_Sn _ _ 38 (mx_icmp_ge 65 41) from sn_269 38) (by omega) (by omega) (fun q9 => ?_) (fun q9 => ?_)
              · skip
                exact c65 
              · skip
                refine mx_J.step (sn_269 41) (fun _ _ => rfl) ?_
                refine mx_J.step (sn_269 42) (fun _ _ => rfl) ?_
                refine JgetR (g := 1) (b := 57) hx4 (show mx_Sn _ _ 43 (mx_getf 12 1 46) from sn_269 43) a56 s56 rfl rfl (hG4.prr 56 1 rfl) ?_
                refine JcI (z := 27) (show mx_Sn _ _ 46 (mx_const (.int 27) 48) from sn_269 46) rfl ?_
                have b11 := GI_st hG 27
                have b12 : 0 ≤ Z 56 18 ∧ Z 56 18 ≤ 385 := hG.pr 56 18
                have b13 : 0 ≤ Z 57 27 ∧ Z 57 27 ≤ 384 := by have hq := GI_ex hG 57 27; replace hq : f57 (27 % 962) (Z 57 27) := hq; unfold f57 at hq; omega
                have b14 : (-2147483648) ≤ Z 57 27 ∧ Z 57 27 ≤ 2147483647 := hG.pr 57 27
                refine JialdI (z := Z 57 27) hx4 (show mx_Sn _ _ 48 (mx_iald 49) from sn_269 48) a57 s57 (by omega) ((hf4 57 27 rfl).trans (up_nk hE1 rfl)) ?_
                refine mx_J.step (sn_269 49) (fun _ _ => rfl) ?_
                obtain ⟨z15, hc15, b15⟩ := ct_265_56 (d := d + 6) (l := l) (D := D) (b0 := b0) (ad := ad) (Hb := Hb) (tau := tau) hx4 hG4 (show 0 ≤ Z 57 27 ∧ Z 57 27 ≤ 384 by omega) (show 0 ≤ w5_3 ∧ w5_3 ≤ 18 by omega)
                refine Jcv hx4 (show mx_Sn _ _ 50 (mx_callv 265 3 12 53) from sn_269 50) a56 s56 hc15 rfl rfl rfl ?_
                refine mx_J.step (sn_269 53) (fun _ _ => rfl) ?_
                refine Jicmp_ne (show mx_Sn _ _ 54 (mx_icmp_ne 59 57) from sn_269 54) (by omega) (by omega) (fun q16 => ?_) (fun q16 => ?_)
                · skip
                  refine Jiinc (z := w5_3) (cz := 1) (ls2 := [some (.ref 56), some (xI x0), some (xI z4), some (xI (w5_3 + 1))]) (show mx_Sn _ _ 59 (mx_iinc 3 1 62) from sn_269 59) rfl rfl rfl rfl ?_
                  refine mx_J.step (sn_269 62) (fun _ _ => rfl) ?_
                  exact ih5 (w5_3 + 1) (by omega) (by omega)
                · skip
                  refine mx_J.step (sn_269 57) (fun _ _ => rfl) ?_
                  exact mx_J.ret (sn_269 58) (fun _ _ => rfl) (hP w5_3 Z4 h4 hx4 hG4 (fr_tr (M := [(56, 0), (62, (-1)), (64, (-1)), (65, (-1)), (73, (-1)), (74, (-1)), (75, (-1))]) (fr_tr (M := [(56, 0), (62, (-1)), (64, (-1)), (65, (-1)), (73, (-1)), (74, (-1)), (75, (-1))]) fr_rf (fr_up hE1) (M1 := []) rfl rfl) (hf4) rfl rfl) (by omega))
      exact c24 (Int.toNat (19 - 0) + 1) 0 (by omega) (by omega)
    · skip
      refine JcI (z := (-3)) (show mx_Sn _ _ 13 (mx_const (.int (-3)) 15) from sn_269 13) rfl ?_
      exact mx_J.ret (sn_269 15) (fun _ _ => rfl) (hP (-3) Z1 h1 hx1 hG1 (fr_tr (M := [(56, 0), (62, (-1)), (64, (-1)), (65, (-1)), (73, (-1)), (74, (-1)), (75, (-1))]) fr_rf (fr_up hE1) (M1 := []) rfl rfl) (by omega))
theorem ct_269_56 {l : Launch} {D : va_G} {b0 : Nat} {ad : Nat → Nat} {Hb : Heap} {tau : Nat → Int64} {d n s : Nat} {S : Nat → xS} {Z : xZ} {h : mx_H} (hx : XH n s S Z h) (hG : GI n S Z)  {x0 : Int} (p0 : (-2147483648) ≤ x0 ∧ x0 ≤ 2147483647) : ∃ (z : Int) (Z' : xZ) (h' : mx_H), mx_Ca (tB l D b0 ad Hb tau) (d + 8) 269 [.ref 56, xI x0] h (some (xI z), h') ∧ XH n s S Z' h' ∧ GI n S Z' ∧ fr' [(56, 0), (62, (-1)), (64, (-1)), (65, (-1)), (73, (-1)), (74, (-1)), (75, (-1))] Z Z' ∧ ((-3) ≤ z ∧ z ≤ 18) := by
  obtain ⟨r, hca, z, Z', h', e, q⟩ := Jmt (B := tB l D b0 ad Hb tau) (M := mt_269) (mi := 269) (as := [.ref 56, xI x0]) (d := d + 7) (ls := [some (.ref 56), some (xI x0), none, none]) rfl rfl rfl rfl rfl rfl (cw_269_56 (l := l) (D := D) (b0 := b0) (ad := ad) (Hb := Hb) (tau := tau) (d := d) (Post := fun r => ∃ (z : Int) (Z' : xZ) (h' : mx_H), r = (some (xI z), h') ∧ XH n s S Z' h' ∧ GI n S Z' ∧ fr' [(56, 0), (62, (-1)), (64, (-1)), (65, (-1)), (73, (-1)), (74, (-1)), (75, (-1))] Z Z' ∧ ((-3) ≤ z ∧ z ≤ 18)) hx hG p0 (fun z Z' h' q1 q2 q3 q4 => ⟨z, Z', h', rfl, q1, q2, q3, q4⟩))
  subst e; exact ⟨z, Z', h', hca, q⟩
set_option maxRecDepth 100000 in
theorem cw_272_ {l : Launch} {D : va_G} {b0 : Nat} {ad : Nat → Nat} {Hb : Heap} {tau : Nat → Int64} {d n s : Nat} {S : Nat → xS} {Z : xZ} {h : mx_H} {Post : mx_R → Prop} (hx : XH n s S Z h) (hG : GI n S Z)  {x0 : Int} (p0 : 0 ≤ x0 ∧ x0 ≤ 7) (hP : ∀ z : Int, 1 ≤ z ∧ z ≤ 10000000 → Post (some (xL z), h)) : mx_J (tB l D b0 ad Hb tau) mt_272 (d + 0) 0 [some (xI x0), none, none, none] [] h Post := by
    refine JcL (z := 1) (show mx_Sn _ _ 0 (mx_const (.long 1) 1) from sn_272 0) rfl ?_
    refine mx_J.step (ls2 := [some (xI x0), some (xL 1), none, none]) (sn_272 1) (fun _ _ => rfl) ?_
    refine JcI (z := 0) (show mx_Sn _ _ 2 (mx_const (.int 0) 3) from sn_272 2) rfl ?_
    refine mx_J.step (ls2 := [some (xI x0), some (xL 1), none, some (xI 0)]) (sn_272 3) (fun _ _ => rfl) ?_
    have c4 : ∀ (m1 : Nat) (w1_1 : Int) (w1_3 : Int), 7 - w1_3 < (m1 : Int) → 1 ≤ w1_1 ∧ w1_1 ≤ 10000000 → 0 ≤ w1_3 ∧ w1_3 ≤ 7 → w1_1 = p10 w1_3 → mx_J (tB l D b0 ad Hb tau) mt_272 (d + 0) 4 [some (xI x0), some (xL w1_1), none, some (xI w1_3)] [] h Post := by
      intro m1
      induction m1 with
      | zero => intro w1_1 w1_3 q1 f1_0 f1_1 f1_2; exact absurd q1 (by omega)
      | succ m1 ih1 =>
        intro w1_1 w1_3 q1 f1_0 f1_1 f1_2
        have pb := p10_b w1_3
        refine mx_J.step (sn_272 4) (fun _ _ => rfl) ?_
        refine mx_J.step (sn_272 5) (fun _ _ => rfl) ?_
        refine Jicmp_ge (show mx_Sn _ _ 6 (mx_icmp_ge 21 9) from sn_272 6) (by omega) (by omega) (fun q2 => ?_) (fun q2 => ?_)
        · skip
          have pb := p10_b w1_3
          refine mx_J.step (sn_272 21) (fun _ _ => rfl) ?_
          exact mx_J.ret (sn_272 22) (fun _ _ => rfl) (hP w1_1 (by omega))
        · skip
          have pp := p10_s w1_3 (by omega)
          refine mx_J.step (sn_272 9) (fun _ _ => rfl) ?_
          refine JcL (z := 10) (show mx_Sn _ _ 10 (mx_const (.long 10) 13) from sn_272 10) rfl ?_
          refine Jlmul (show mx_Sn _ _ 13 (mx_lmul 14) from sn_272 13) ?_
          refine mx_J.step (ls2 := [some (xI x0), some (xL (w1_1 * 10)), none, some (xI w1_3)]) (sn_272 14) (fun _ _ => rfl) ?_
          refine Jiinc (z := w1_3) (cz := 1) (ls2 := [some (xI x0), some (xL (w1_1 * 10)), none, some (xI (w1_3 + 1))]) (show mx_Sn _ _ 15 (mx_iinc 3 1 18) from sn_272 15) rfl rfl rfl rfl ?_
          refine mx_J.step (sn_272 18) (fun _ _ => rfl) ?_
          exact ih1 (w1_1 * 10) (w1_3 + 1) (by omega) (by omega) (by omega) (by first | rfl | omega)
    exact c4 (Int.toNat (7 - 0) + 1) 1 0 (by omega) (by omega) (by omega) (by first | rfl | omega)
theorem ct_272_ {l : Launch} {D : va_G} {b0 : Nat} {ad : Nat → Nat} {Hb : Heap} {tau : Nat → Int64} {d n s : Nat} {S : Nat → xS} {Z : xZ} {h : mx_H} (hx : XH n s S Z h) (hG : GI n S Z)  {x0 : Int} (p0 : 0 ≤ x0 ∧ x0 ≤ 7) : ∃ z : Int, mx_Ca (tB l D b0 ad Hb tau) (d + 1) 272 [xI x0] h (some (xL z), h) ∧ (1 ≤ z ∧ z ≤ 10000000) := by
  obtain ⟨r, hca, z, e, hp⟩ := Jmt (B := tB l D b0 ad Hb tau) (M := mt_272) (mi := 272) (as := [xI x0]) (d := d + 0) (ls := [some (xI x0), none, none, none]) rfl rfl rfl rfl rfl rfl (cw_272_ (l := l) (D := D) (b0 := b0) (ad := ad) (Hb := Hb) (tau := tau) (d := d) (Post := fun r => ∃ z : Int, r = (some (xL z), h) ∧ (1 ≤ z ∧ z ≤ 10000000)) hx hG p0 (fun z hz => ⟨z, rfl, hz⟩))
  subst e; exact ⟨z, hca, hp⟩
set_option maxRecDepth 100000 in
theorem cw_273_A0 {l : Launch} {D : va_G} {b0 : Nat} {ad : Nat → Nat} {Hb : Heap} {tau : Nat → Int64} {d n s : Nat} {S : Nat → xS} {Z : xZ} {h : mx_H} {Post : mx_R → Prop} (hx : XH n s S Z h) (hG : GI n S Z)  {x0 : Int} (p0 : (-9223372036854775808) ≤ x0 ∧ x0 ≤ 9223372036854775807) (k0 : ¬ x0 = 0) (hP : ∀ z : Int, (-9223372036854775808) ≤ z ∧ z ≤ 9223372036854775807 ∧ ¬ z = 0 → Post (some (xL z), h)) : mx_J (tB l D b0 ad Hb tau) mt_273 (d + 0) 0 [some (xL x0), none, some (xL 0), none] [] h Post := by
    refine mx_J.step (sn_273 0) (fun _ _ => rfl) ?_
    refine JcL (z := 0) (show mx_Sn _ _ 1 (mx_const (.long 0) 2) from sn_273 1) rfl ?_
    refine Jlif_ne (show mx_Sn _ _ 2 (mx_lif_ne 10 6) from sn_273 2) (by omega) (by omega) (fun q1 => ?_) (fun q1 => ?_)
    · skip
      exfalso; omega
    · skip
      refine mx_J.step (sn_273 6) (fun _ _ => rfl) ?_
      refine mx_J.step (sn_273 7) (fun _ _ => rfl) ?_
      exact mx_J.ret (sn_273 17) (fun _ _ => rfl) (hP x0 (by omega))
theorem ct_273_A0 {l : Launch} {D : va_G} {b0 : Nat} {ad : Nat → Nat} {Hb : Heap} {tau : Nat → Int64} {d n s : Nat} {S : Nat → xS} {Z : xZ} {h : mx_H} (hx : XH n s S Z h) (hG : GI n S Z)  {x0 : Int} (p0 : (-9223372036854775808) ≤ x0 ∧ x0 ≤ 9223372036854775807) (k0 : ¬ x0 = 0) : ∃ z : Int, mx_Ca (tB l D b0 ad Hb tau) (d + 1) 273 [xL x0, xL 0] h (some (xL z), h) ∧ ((-9223372036854775808) ≤ z ∧ z ≤ 9223372036854775807 ∧ ¬ z = 0) := by
  obtain ⟨r, hca, z, e, hp⟩ := Jmt (B := tB l D b0 ad Hb tau) (M := mt_273) (mi := 273) (as := [xL x0, xL 0]) (d := d + 0) (ls := [some (xL x0), none, some (xL 0), none]) rfl rfl rfl rfl rfl rfl (cw_273_A0 (l := l) (D := D) (b0 := b0) (ad := ad) (Hb := Hb) (tau := tau) (d := d) (Post := fun r => ∃ z : Int, r = (some (xL z), h) ∧ ((-9223372036854775808) ≤ z ∧ z ≤ 9223372036854775807 ∧ ¬ z = 0)) hx hG p0 k0 (fun z hz => ⟨z, rfl, hz⟩))
  subst e; exact ⟨z, hca, hp⟩
set_option maxRecDepth 100000 in
theorem cw_273_B1 {l : Launch} {D : va_G} {b0 : Nat} {ad : Nat → Nat} {Hb : Heap} {tau : Nat → Int64} {d n s : Nat} {S : Nat → xS} {Z : xZ} {h : mx_H} {Post : mx_R → Prop} (hx : XH n s S Z h) (hG : GI n S Z)  {x0 x1 : Int} (p0 : (-1) ≤ x0 ∧ x0 ≤ 1) (p1 : (-1) ≤ x1 ∧ x1 ≤ 1) (k0 : ((x0 ≤ 0 → x1 < -x0 ∧ x0 < x1) ∧ (0 ≤ x0 → x1 < x0 ∧ -x0 < x1))) (hP : ∀ z : Int, (-9223372036854775808) ≤ z ∧ z ≤ 9223372036854775807 ∧ ¬ z = 0 → Post (some (xL z), h)) : mx_J (tB l D b0 ad Hb tau) mt_273 (d + 1) 0 [some (xL x0), none, some (xL x1), none] [] h Post := by
    refine mx_J.step (sn_273 0) (fun _ _ => rfl) ?_
    refine JcL (z := 0) (show mx_Sn _ _ 1 (mx_const (.long 0) 2) from sn_273 1) rfl ?_
    have c17 : ∀ (k1_0 : Int), (-9223372036854775808) ≤ k1_0 ∧ k1_0 ≤ 9223372036854775807 → ¬ k1_0 = 0 → mx_J (tB l D b0 ad Hb tau) mt_273 (d + 1) 17 [some (xL x0), none, some (xL x1), none] [xL k1_0] h Post := by
      intro k1_0 f1_0 f1_1
      exact mx_J.ret (sn_273 17) (fun _ _ => rfl) (hP k1_0 (by omega))
    refine Jlif_ne (show mx_Sn _ _ 2 (mx_lif_ne 10 6) from sn_273 2) (by omega) (by omega) (fun q2 => ?_) (fun q2 => ?_)
    · skip
      refine mx_J.step (sn_273 10) (fun _ _ => rfl) ?_
      refine mx_J.step (sn_273 11) (fun _ _ => rfl) ?_
      refine mx_J.step (sn_273 12) (fun _ _ => rfl) ?_
      refine JlremB (show mx_Sn _ _ 13 (mx_lrem 14) from sn_273 13) (by omega) (by omega) (by omega) k0 (fun y3 hy3 => ?_)
      have el4 : y3 = 0 := by omega
      rw [el4]
      obtain ⟨z4, hc4, b4⟩ := ct_273_A0 (d := d + 0) (l := l) (D := D) (b0 := b0) (ad := ad) (Hb := Hb) (tau := tau) hx hG (show (-9223372036854775808) ≤ x1 ∧ x1 ≤ 9223372036854775807 by omega) (show ¬ x1 = 0 by omega)
      refine Jcs (show mx_Sn _ _ 14 (mx_calls 273 2 17) from sn_273 14) hc4 rfl rfl rfl ?_
      exact c17 z4 (by omega) (by omega)
    · skip
      refine mx_J.step (sn_273 6) (fun _ _ => rfl) ?_
      refine mx_J.step (sn_273 7) (fun _ _ => rfl) ?_
      exact c17 x0 (by omega) (by omega)
theorem ct_273_B1 {l : Launch} {D : va_G} {b0 : Nat} {ad : Nat → Nat} {Hb : Heap} {tau : Nat → Int64} {d n s : Nat} {S : Nat → xS} {Z : xZ} {h : mx_H} (hx : XH n s S Z h) (hG : GI n S Z)  {x0 x1 : Int} (p0 : (-1) ≤ x0 ∧ x0 ≤ 1) (p1 : (-1) ≤ x1 ∧ x1 ≤ 1) (k0 : ((x0 ≤ 0 → x1 < -x0 ∧ x0 < x1) ∧ (0 ≤ x0 → x1 < x0 ∧ -x0 < x1))) : ∃ z : Int, mx_Ca (tB l D b0 ad Hb tau) (d + 2) 273 [xL x0, xL x1] h (some (xL z), h) ∧ ((-9223372036854775808) ≤ z ∧ z ≤ 9223372036854775807 ∧ ¬ z = 0) := by
  obtain ⟨r, hca, z, e, hp⟩ := Jmt (B := tB l D b0 ad Hb tau) (M := mt_273) (mi := 273) (as := [xL x0, xL x1]) (d := d + 1) (ls := [some (xL x0), none, some (xL x1), none]) rfl rfl rfl rfl rfl rfl (cw_273_B1 (l := l) (D := D) (b0 := b0) (ad := ad) (Hb := Hb) (tau := tau) (d := d) (Post := fun r => ∃ z : Int, r = (some (xL z), h) ∧ ((-9223372036854775808) ≤ z ∧ z ≤ 9223372036854775807 ∧ ¬ z = 0)) hx hG p0 p1 k0 (fun z hz => ⟨z, rfl, hz⟩))
  subst e; exact ⟨z, hca, hp⟩
set_option maxRecDepth 100000 in
theorem cw_273_A1 {l : Launch} {D : va_G} {b0 : Nat} {ad : Nat → Nat} {Hb : Heap} {tau : Nat → Int64} {d n s : Nat} {S : Nat → xS} {Z : xZ} {h : mx_H} {Post : mx_R → Prop} (hx : XH n s S Z h) (hG : GI n S Z)  {x0 x1 : Int} (p0 : (-9223372036854775808) ≤ x0 ∧ x0 ≤ 9223372036854775807) (p1 : (-1) ≤ x1 ∧ x1 ≤ 1) (k0 : ¬ (x0 = 0 ∧ x1 = 0)) (hP : ∀ z : Int, (-9223372036854775808) ≤ z ∧ z ≤ 9223372036854775807 ∧ ¬ z = 0 → Post (some (xL z), h)) : mx_J (tB l D b0 ad Hb tau) mt_273 (d + 2) 0 [some (xL x0), none, some (xL x1), none] [] h Post := by
    refine mx_J.step (sn_273 0) (fun _ _ => rfl) ?_
    refine JcL (z := 0) (show mx_Sn _ _ 1 (mx_const (.long 0) 2) from sn_273 1) rfl ?_
    have c17 : ∀ (k1_0 : Int), (-9223372036854775808) ≤ k1_0 ∧ k1_0 ≤ 9223372036854775807 → ¬ k1_0 = 0 → mx_J (tB l D b0 ad Hb tau) mt_273 (d + 2) 17 [some (xL x0), none, some (xL x1), none] [xL k1_0] h Post := by
      intro k1_0 f1_0 f1_1
      exact mx_J.ret (sn_273 17) (fun _ _ => rfl) (hP k1_0 (by omega))
    refine Jlif_ne (show mx_Sn _ _ 2 (mx_lif_ne 10 6) from sn_273 2) (by omega) (by omega) (fun q2 => ?_) (fun q2 => ?_)
    · skip
      refine mx_J.step (sn_273 10) (fun _ _ => rfl) ?_
      refine mx_J.step (sn_273 11) (fun _ _ => rfl) ?_
      refine mx_J.step (sn_273 12) (fun _ _ => rfl) ?_
      refine JlremA (show mx_Sn _ _ 13 (mx_lrem 14) from sn_273 13) (by omega) (by omega) (by omega) (fun y3 hy3 => ?_)
      obtain ⟨z4, hc4, b4⟩ := ct_273_B1 (d := d + 0) (l := l) (D := D) (b0 := b0) (ad := ad) (Hb := Hb) (tau := tau) hx hG (show (-1) ≤ x1 ∧ x1 ≤ 1 by omega) (show (-1) ≤ y3 ∧ y3 ≤ 1 by omega) (show ((x1 ≤ 0 → y3 < -x1 ∧ x1 < y3) ∧ (0 ≤ x1 → y3 < x1 ∧ -x1 < y3)) by omega)
      refine Jcs (show mx_Sn _ _ 14 (mx_calls 273 2 17) from sn_273 14) hc4 rfl rfl rfl ?_
      exact c17 z4 (by omega) (by omega)
    · skip
      refine mx_J.step (sn_273 6) (fun _ _ => rfl) ?_
      refine mx_J.step (sn_273 7) (fun _ _ => rfl) ?_
      exact c17 x0 (by omega) (by omega)
theorem ct_273_A1 {l : Launch} {D : va_G} {b0 : Nat} {ad : Nat → Nat} {Hb : Heap} {tau : Nat → Int64} {d n s : Nat} {S : Nat → xS} {Z : xZ} {h : mx_H} (hx : XH n s S Z h) (hG : GI n S Z)  {x0 x1 : Int} (p0 : (-9223372036854775808) ≤ x0 ∧ x0 ≤ 9223372036854775807) (p1 : (-1) ≤ x1 ∧ x1 ≤ 1) (k0 : ¬ (x0 = 0 ∧ x1 = 0)) : ∃ z : Int, mx_Ca (tB l D b0 ad Hb tau) (d + 3) 273 [xL x0, xL x1] h (some (xL z), h) ∧ ((-9223372036854775808) ≤ z ∧ z ≤ 9223372036854775807 ∧ ¬ z = 0) := by
  obtain ⟨r, hca, z, e, hp⟩ := Jmt (B := tB l D b0 ad Hb tau) (M := mt_273) (mi := 273) (as := [xL x0, xL x1]) (d := d + 2) (ls := [some (xL x0), none, some (xL x1), none]) rfl rfl rfl rfl rfl rfl (cw_273_A1 (l := l) (D := D) (b0 := b0) (ad := ad) (Hb := Hb) (tau := tau) (d := d) (Post := fun r => ∃ z : Int, r = (some (xL z), h) ∧ ((-9223372036854775808) ≤ z ∧ z ≤ 9223372036854775807 ∧ ¬ z = 0)) hx hG p0 p1 k0 (fun z hz => ⟨z, rfl, hz⟩))
  subst e; exact ⟨z, hca, hp⟩
set_option maxRecDepth 100000 in
theorem cw_273_B2 {l : Launch} {D : va_G} {b0 : Nat} {ad : Nat → Nat} {Hb : Heap} {tau : Nat → Int64} {d n s : Nat} {S : Nat → xS} {Z : xZ} {h : mx_H} {Post : mx_R → Prop} (hx : XH n s S Z h) (hG : GI n S Z)  {x0 x1 : Int} (p0 : (-3) ≤ x0 ∧ x0 ≤ 3) (p1 : (-3) ≤ x1 ∧ x1 ≤ 3) (k0 : ((x0 ≤ 0 → x1 < -x0 ∧ x0 < x1) ∧ (0 ≤ x0 → x1 < x0 ∧ -x0 < x1))) (hP : ∀ z : Int, (-9223372036854775808) ≤ z ∧ z ≤ 9223372036854775807 ∧ ¬ z = 0 → Post (some (xL z), h)) : mx_J (tB l D b0 ad Hb tau) mt_273 (d + 3) 0 [some (xL x0), none, some (xL x1), none] [] h Post := by
    refine mx_J.step (sn_273 0) (fun _ _ => rfl) ?_
    refine JcL (z := 0) (show mx_Sn _ _ 1 (mx_const (.long 0) 2) from sn_273 1) rfl ?_
    have c17 : ∀ (k1_0 : Int), (-9223372036854775808) ≤ k1_0 ∧ k1_0 ≤ 9223372036854775807 → ¬ k1_0 = 0 → mx_J (tB l D b0 ad Hb tau) mt_273 (d + 3) 17 [some (xL x0), none, some (xL x1), none] [xL k1_0] h Post := by
      intro k1_0 f1_0 f1_1
      exact mx_J.ret (sn_273 17) (fun _ _ => rfl) (hP k1_0 (by omega))
    refine Jlif_ne (show mx_Sn _ _ 2 (mx_lif_ne 10 6) from sn_273 2) (by omega) (by omega) (fun q2 => ?_) (fun q2 => ?_)
    · skip
      refine mx_J.step (sn_273 10) (fun _ _ => rfl) ?_
      refine mx_J.step (sn_273 11) (fun _ _ => rfl) ?_
      refine mx_J.step (sn_273 12) (fun _ _ => rfl) ?_
      refine JlremB (show mx_Sn _ _ 13 (mx_lrem 14) from sn_273 13) (by omega) (by omega) (by omega) k0 (fun y3 hy3 => ?_)
      obtain ⟨z4, hc4, b4⟩ := ct_273_A1 (d := d + 0) (l := l) (D := D) (b0 := b0) (ad := ad) (Hb := Hb) (tau := tau) hx hG (show (-9223372036854775808) ≤ x1 ∧ x1 ≤ 9223372036854775807 by omega) (show (-1) ≤ y3 ∧ y3 ≤ 1 by omega) (show ¬ (x1 = 0 ∧ y3 = 0) by omega)
      refine Jcs (show mx_Sn _ _ 14 (mx_calls 273 2 17) from sn_273 14) hc4 rfl rfl rfl ?_
      exact c17 z4 (by omega) (by omega)
    · skip
      refine mx_J.step (sn_273 6) (fun _ _ => rfl) ?_
      refine mx_J.step (sn_273 7) (fun _ _ => rfl) ?_
      exact c17 x0 (by omega) (by omega)
theorem ct_273_B2 {l : Launch} {D : va_G} {b0 : Nat} {ad : Nat → Nat} {Hb : Heap} {tau : Nat → Int64} {d n s : Nat} {S : Nat → xS} {Z : xZ} {h : mx_H} (hx : XH n s S Z h) (hG : GI n S Z)  {x0 x1 : Int} (p0 : (-3) ≤ x0 ∧ x0 ≤ 3) (p1 : (-3) ≤ x1 ∧ x1 ≤ 3) (k0 : ((x0 ≤ 0 → x1 < -x0 ∧ x0 < x1) ∧ (0 ≤ x0 → x1 < x0 ∧ -x0 < x1))) : ∃ z : Int, mx_Ca (tB l D b0 ad Hb tau) (d + 4) 273 [xL x0, xL x1] h (some (xL z), h) ∧ ((-9223372036854775808) ≤ z ∧ z ≤ 9223372036854775807 ∧ ¬ z = 0) := by
  obtain ⟨r, hca, z, e, hp⟩ := Jmt (B := tB l D b0 ad Hb tau) (M := mt_273) (mi := 273) (as := [xL x0, xL x1]) (d := d + 3) (ls := [some (xL x0), none, some (xL x1), none]) rfl rfl rfl rfl rfl rfl (cw_273_B2 (l := l) (D := D) (b0 := b0) (ad := ad) (Hb := Hb) (tau := tau) (d := d) (Post := fun r => ∃ z : Int, r = (some (xL z), h) ∧ ((-9223372036854775808) ≤ z ∧ z ≤ 9223372036854775807 ∧ ¬ z = 0)) hx hG p0 p1 k0 (fun z hz => ⟨z, rfl, hz⟩))
  subst e; exact ⟨z, hca, hp⟩
set_option maxRecDepth 100000 in
theorem cw_273_A2 {l : Launch} {D : va_G} {b0 : Nat} {ad : Nat → Nat} {Hb : Heap} {tau : Nat → Int64} {d n s : Nat} {S : Nat → xS} {Z : xZ} {h : mx_H} {Post : mx_R → Prop} (hx : XH n s S Z h) (hG : GI n S Z)  {x0 x1 : Int} (p0 : (-9223372036854775808) ≤ x0 ∧ x0 ≤ 9223372036854775807) (p1 : (-3) ≤ x1 ∧ x1 ≤ 3) (k0 : ¬ (x0 = 0 ∧ x1 = 0)) (hP : ∀ z : Int, (-9223372036854775808) ≤ z ∧ z ≤ 9223372036854775807 ∧ ¬ z = 0 → Post (some (xL z), h)) : mx_J (tB l D b0 ad Hb tau) mt_273 (d + 4) 0 [some (xL x0), none, some (xL x1), none] [] h Post := by
    refine mx_J.step (sn_273 0) (fun _ _ => rfl) ?_
    refine JcL (z := 0) (show mx_Sn _ _ 1 (mx_const (.long 0) 2) from sn_273 1) rfl ?_
    have c17 : ∀ (k1_0 : Int), (-9223372036854775808) ≤ k1_0 ∧ k1_0 ≤ 9223372036854775807 → ¬ k1_0 = 0 → mx_J (tB l D b0 ad Hb tau) mt_273 (d + 4) 17 [some (xL x0), none, some (xL x1), none] [xL k1_0] h Post := by
      intro k1_0 f1_0 f1_1
      exact mx_J.ret (sn_273 17) (fun _ _ => rfl) (hP k1_0 (by omega))
    refine Jlif_ne (show mx_Sn _ _ 2 (mx_lif_ne 10 6) from sn_273 2) (by omega) (by omega) (fun q2 => ?_) (fun q2 => ?_)
    · skip
      refine mx_J.step (sn_273 10) (fun _ _ => rfl) ?_
      refine mx_J.step (sn_273 11) (fun _ _ => rfl) ?_
      refine mx_J.step (sn_273 12) (fun _ _ => rfl) ?_
      refine JlremA (show mx_Sn _ _ 13 (mx_lrem 14) from sn_273 13) (by omega) (by omega) (by omega) (fun y3 hy3 => ?_)
      obtain ⟨z4, hc4, b4⟩ := ct_273_B2 (d := d + 0) (l := l) (D := D) (b0 := b0) (ad := ad) (Hb := Hb) (tau := tau) hx hG (show (-3) ≤ x1 ∧ x1 ≤ 3 by omega) (show (-3) ≤ y3 ∧ y3 ≤ 3 by omega) (show ((x1 ≤ 0 → y3 < -x1 ∧ x1 < y3) ∧ (0 ≤ x1 → y3 < x1 ∧ -x1 < y3)) by omega)
      refine Jcs (show mx_Sn _ _ 14 (mx_calls 273 2 17) from sn_273 14) hc4 rfl rfl rfl ?_
      exact c17 z4 (by omega) (by omega)
    · skip
      refine mx_J.step (sn_273 6) (fun _ _ => rfl) ?_
      refine mx_J.step (sn_273 7) (fun _ _ => rfl) ?_
      exact c17 x0 (by omega) (by omega)
theorem ct_273_A2 {l : Launch} {D : va_G} {b0 : Nat} {ad : Nat → Nat} {Hb : Heap} {tau : Nat → Int64} {d n s : Nat} {S : Nat → xS} {Z : xZ} {h : mx_H} (hx : XH n s S Z h) (hG : GI n S Z)  {x0 x1 : Int} (p0 : (-9223372036854775808) ≤ x0 ∧ x0 ≤ 9223372036854775807) (p1 : (-3) ≤ x1 ∧ x1 ≤ 3) (k0 : ¬ (x0 = 0 ∧ x1 = 0)) : ∃ z : Int, mx_Ca (tB l D b0 ad Hb tau) (d + 5) 273 [xL x0, xL x1] h (some (xL z), h) ∧ ((-9223372036854775808) ≤ z ∧ z ≤ 9223372036854775807 ∧ ¬ z = 0) := by
  obtain ⟨r, hca, z, e, hp⟩ := Jmt (B := tB l D b0 ad Hb tau) (M := mt_273) (mi := 273) (as := [xL x0, xL x1]) (d := d + 4) (ls := [some (xL x0), none, some (xL x1), none]) rfl rfl rfl rfl rfl rfl (cw_273_A2 (l := l) (D := D) (b0 := b0) (ad := ad) (Hb := Hb) (tau := tau) (d := d) (Post := fun r => ∃ z : Int, r = (some (xL z), h) ∧ ((-9223372036854775808) ≤ z ∧ z ≤ 9223372036854775807 ∧ ¬ z = 0)) hx hG p0 p1 k0 (fun z hz => ⟨z, rfl, hz⟩))
  subst e; exact ⟨z, hca, hp⟩
set_option maxRecDepth 100000 in
theorem cw_273_B3 {l : Launch} {D : va_G} {b0 : Nat} {ad : Nat → Nat} {Hb : Heap} {tau : Nat → Int64} {d n s : Nat} {S : Nat → xS} {Z : xZ} {h : mx_H} {Post : mx_R → Prop} (hx : XH n s S Z h) (hG : GI n S Z)  {x0 x1 : Int} (p0 : (-7) ≤ x0 ∧ x0 ≤ 7) (p1 : (-7) ≤ x1 ∧ x1 ≤ 7) (k0 : ((x0 ≤ 0 → x1 < -x0 ∧ x0 < x1) ∧ (0 ≤ x0 → x1 < x0 ∧ -x0 < x1))) (hP : ∀ z : Int, (-9223372036854775808) ≤ z ∧ z ≤ 9223372036854775807 ∧ ¬ z = 0 → Post (some (xL z), h)) : mx_J (tB l D b0 ad Hb tau) mt_273 (d + 5) 0 [some (xL x0), none, some (xL x1), none] [] h Post := by
    refine mx_J.step (sn_273 0) (fun _ _ => rfl) ?_
    refine JcL (z := 0) (show mx_Sn _ _ 1 (mx_const (.long 0) 2) from sn_273 1) rfl ?_
    have c17 : ∀ (k1_0 : Int), (-9223372036854775808) ≤ k1_0 ∧ k1_0 ≤ 9223372036854775807 → ¬ k1_0 = 0 → mx_J (tB l D b0 ad Hb tau) mt_273 (d + 5) 17 [some (xL x0), none, some (xL x1), none] [xL k1_0] h Post := by
      intro k1_0 f1_0 f1_1
      exact mx_J.ret (sn_273 17) (fun _ _ => rfl) (hP k1_0 (by omega))
    refine Jlif_ne (show mx_Sn _ _ 2 (mx_lif_ne 10 6) from sn_273 2) (by omega) (by omega) (fun q2 => ?_) (fun q2 => ?_)
    · skip
      refine mx_J.step (sn_273 10) (fun _ _ => rfl) ?_
      refine mx_J.step (sn_273 11) (fun _ _ => rfl) ?_
      refine mx_J.step (sn_273 12) (fun _ _ => rfl) ?_
      refine JlremB (show mx_Sn _ _ 13 (mx_lrem 14) from sn_273 13) (by omega) (by omega) (by omega) k0 (fun y3 hy3 => ?_)
      obtain ⟨z4, hc4, b4⟩ := ct_273_A2 (d := d + 0) (l := l) (D := D) (b0 := b0) (ad := ad) (Hb := Hb) (tau := tau) hx hG (show (-9223372036854775808) ≤ x1 ∧ x1 ≤ 9223372036854775807 by omega) (show (-3) ≤ y3 ∧ y3 ≤ 3 by omega) (show ¬ (x1 = 0 ∧ y3 = 0) by omega)
      refine Jcs (show mx_Sn _ _ 14 (mx_calls 273 2 17) from sn_273 14) hc4 rfl rfl rfl ?_
      exact c17 z4 (by omega) (by omega)
    · skip
      refine mx_J.step (sn_273 6) (fun _ _ => rfl) ?_
      refine mx_J.step (sn_273 7) (fun _ _ => rfl) ?_
      exact c17 x0 (by omega) (by omega)
theorem ct_273_B3 {l : Launch} {D : va_G} {b0 : Nat} {ad : Nat → Nat} {Hb : Heap} {tau : Nat → Int64} {d n s : Nat} {S : Nat → xS} {Z : xZ} {h : mx_H} (hx : XH n s S Z h) (hG : GI n S Z)  {x0 x1 : Int} (p0 : (-7) ≤ x0 ∧ x0 ≤ 7) (p1 : (-7) ≤ x1 ∧ x1 ≤ 7) (k0 : ((x0 ≤ 0 → x1 < -x0 ∧ x0 < x1) ∧ (0 ≤ x0 → x1 < x0 ∧ -x0 < x1))) : ∃ z : Int, mx_Ca (tB l D b0 ad Hb tau) (d + 6) 273 [xL x0, xL x1] h (some (xL z), h) ∧ ((-9223372036854775808) ≤ z ∧ z ≤ 9223372036854775807 ∧ ¬ z = 0) := by
  obtain ⟨r, hca, z, e, hp⟩ := Jmt (B := tB l D b0 ad Hb tau) (M := mt_273) (mi := 273) (as := [xL x0, xL x1]) (d := d + 5) (ls := [some (xL x0), none, some (xL x1), none]) rfl rfl rfl rfl rfl rfl (cw_273_B3 (l := l) (D := D) (b0 := b0) (ad := ad) (Hb := Hb) (tau := tau) (d := d) (Post := fun r => ∃ z : Int, r = (some (xL z), h) ∧ ((-9223372036854775808) ≤ z ∧ z ≤ 9223372036854775807 ∧ ¬ z = 0)) hx hG p0 p1 k0 (fun z hz => ⟨z, rfl, hz⟩))
  subst e; exact ⟨z, hca, hp⟩
