set_option maxRecDepth 100000 in
theorem cw_231_56 {l : Launch} {D : va_G} {b0 : Nat} {ad : Nat → Nat} {Hb : Heap} {tau : Nat → Int64} {d n s : Nat} {S : Nat → xS} {Z : xZ} {h : mx_H} {Post : mx_R → Prop} (hx : XH n s S Z h) (hG : GI n S Z)   (hP : ∀ (z : Int) (Z' : xZ) (h' : mx_H), XH n s S Z' h' → GI n S Z' → fr' [(71, (-1))] Z Z' → (-2147483648) ≤ z ∧ z ≤ 2147483647 → Post (some (xI z), h')) : mx_J (tB l D b0 ad Hb tau) mt_231 (d + 0) 0 [some (.ref 56), none, none] [] h Post := by
    have a56 : 56 < n := lt83 (GI_n hG) rfl
    have s56 : S 56 = .inl (12, [0, 2, 2, 2, 2, 0, 0, 0, 0, 0, 0, 0, 0, 0, 0, 2, 2, 2, 0, 2, 2, 2, 0, 0, 2, 2, 2, 2, 2, 2, 0, 0, 2, 2, 2, 2, 2, 2, 2, 2, 2, 2]) := GI_s hG 56 rfl
    have a67 : 67 < n := lt83 (GI_n hG) rfl
    have s67 : S 67 = .inr (.int, 385, 0) := GI_s hG 67 rfl
    have a71 : 71 < n := lt83 (GI_n hG) rfl
    have s71 : S 71 = .inr (.boolean, 385, 0) := GI_s hG 71 rfl
    refine JcI (z := 0) (show mx_Sn _ _ 0 (mx_const (.int 0) 1) from sn_231 0) rfl ?_
    refine mx_J.step (ls2 := [some (.ref 56), some (xI 0), none]) (sn_231 1) (fun _ _ => rfl) ?_
    have c2 : ∀ (m1 : Nat) (w1_1 : Int) (Z2 : xZ) (h2 : mx_H), 385 - w1_1 < (m1 : Int) → 0 ≤ w1_1 ∧ w1_1 ≤ 385 → XH n s S Z2 h2 → GI n S Z2 → fr' [(71, (-1))] Z Z2 → mx_J (tB l D b0 ad Hb tau) mt_231 (d + 0) 2 [some (.ref 56), some (xI w1_1), none] [] h2 Post := by
      intro m1
      induction m1 with
      | zero => intro w1_1 Z2 h2 q1 f1_0 hx2 hG2 hf2; exact absurd q1 (by omega)
      | succ m1 ih1 =>
        intro w1_1 Z2 h2 q1 f1_0 hx2 hG2 hf2
        refine mx_J.step (sn_231 2) (fun _ _ => rfl) ?_
        refine mx_J.step (sn_231 3) (fun _ _ => rfl) ?_
        have b4 : 0 ≤ Z 56 18 ∧ Z 56 18 ≤ 385 := hG.pr 56 18
        refine JgetI (g := 18) (z := Z 56 18) hx2 (show mx_Sn _ _ 4 (mx_getf 12 18 7) from sn_231 4) a56 s56 rfl rfl (hf2 56 18 rfl) ?_
        refine Jicmp_ge (show mx_Sn _ _ 7 (mx_icmp_ge 23 10) from sn_231 7) (by omega) (by omega) (fun q5 => ?_) (fun q5 => ?_)
        · skip
          refine JcI (z := 0) (show mx_Sn _ _ 23 (mx_const (.int 0) 24) from sn_231 23) rfl ?_
          refine mx_J.step (ls2 := [some (.ref 56), some (xI 0), none]) (sn_231 24) (fun _ _ => rfl) ?_
          have c25 : ∀ (m6 : Nat) (w6_1 : Int) (Z7 : xZ) (h7 : mx_H), 385 - w6_1 < (m6 : Int) → 0 ≤ w6_1 ∧ w6_1 ≤ 385 → XH n s S Z7 h7 → GI n S Z7 → fr' [(71, (-1))] Z2 Z7 → mx_J (tB l D b0 ad Hb tau) mt_231 (d + 0) 25 [some (.ref 56), some (xI w6_1), none] [] h7 Post := by
            intro m6
            induction m6 with
            | zero => intro w6_1 Z7 h7 q6 f6_0 hx7 hG7 hf7; exact absurd q6 (by omega)
            | succ m6 ih6 =>
              intro w6_1 Z7 h7 q6 f6_0 hx7 hG7 hf7
              refine mx_J.step (sn_231 25) (fun _ _ => rfl) ?_
              refine mx_J.step (sn_231 26) (fun _ _ => rfl) ?_
              refine JgetI (g := 18) (z := Z 56 18) hx7 (show mx_Sn _ _ 27 (mx_getf 12 18 30) from sn_231 27) a56 s56 rfl rfl ((hf7 56 18 rfl).trans (hf2 56 18 rfl)) ?_
              refine Jicmp_ge (show mx_Sn _ _ 30 (mx_icmp_ge 51 33) from sn_231 30) (by omega) (by omega) (fun q9 => ?_) (fun q9 => ?_)
              · skip
                refine JcI (z := 0) (show mx_Sn _ _ 51 (mx_const (.int 0) 52) from sn_231 51) rfl ?_
                refine mx_J.step (ls2 := [some (.ref 56), some (xI 0), none]) (sn_231 52) (fun _ _ => rfl) ?_
                refine JcI (z := 0) (show mx_Sn _ _ 53 (mx_const (.int 0) 54) from sn_231 53) rfl ?_
                refine mx_J.step (ls2 := [some (.ref 56), some (xI 0), some (xI 0)]) (sn_231 54) (fun _ _ => rfl) ?_
                have c55 : ∀ (m10 : Nat) (w10_1 : Int) (w10_2 : Int), 385 - w10_2 < (m10 : Int) → (-2147483648) ≤ w10_1 ∧ w10_1 ≤ 2147483647 → 0 ≤ w10_2 ∧ w10_2 ≤ 385 → mx_J (tB l D b0 ad Hb tau) mt_231 (d + 0) 55 [some (.ref 56), some (xI w10_1), some (xI w10_2)] [] h7 Post := by
                  intro m10
                  induction m10 with
                  | zero => intro w10_1 w10_2 q10 f10_0 f10_1; exact absurd q10 (by omega)
                  | succ m10 ih10 =>
                    intro w10_1 w10_2 q10 f10_0 f10_1
                    refine mx_J.step (sn_231 55) (fun _ _ => rfl) ?_
                    refine mx_J.step (sn_231 56) (fun _ _ => rfl) ?_
                    refine JgetI (g := 18) (z := Z 56 18) hx7 (show mx_Sn _ _ 57 (mx_getf 12 18 60) from sn_231 57) a56 s56 rfl rfl ((hf7 56 18 rfl).trans (hf2 56 18 rfl)) ?_
                    refine Jicmp_ge (show mx_Sn _ _ 60 (mx_icmp_ge 86 63) from sn_231 60) (by omega) (by omega) (fun q12 => ?_) (fun q12 => ?_)
                    · skip
                      refine mx_J.step (sn_231 86) (fun _ _ => rfl) ?_
                      exact mx_J.ret (sn_231 87) (fun _ _ => rfl) (hP w10_1 Z7 h7 hx7 hG7 (fr_tr (M := [(71, (-1))]) (fr_tr (M := [(71, (-1))]) fr_rf (hf2) (M1 := []) rfl rfl) (hf7) rfl rfl) (by omega))
                    · skip
                      refine mx_J.step (sn_231 63) (fun _ _ => rfl) ?_
                      refine mx_J.step (sn_231 64) (fun _ _ => rfl) ?_
                      refine JgetR (g := 28) (b := 71) hx7 (show mx_Sn _ _ 65 (mx_getf 12 28 68) from sn_231 65) a56 s56 rfl rfl (hG7.prr 56 28 rfl) ?_
                      refine mx_J.step (sn_231 68) (fun _ _ => rfl) ?_
                      have b14 : 0 ≤ Z7 71 w10_2 ∧ Z7 71 w10_2 ≤ 1 := hG7.pr 71 w10_2
                      refine JzaldI (z := Z7 71 w10_2) hx7 (show mx_Sn _ _ 69 (mx_zald 70) from sn_231 69) a71 s71 (by omega) rfl ?_
                      have c78 : ∀ (k15_1 : Int), 0 ≤ k15_1 ∧ k15_1 ≤ 1 → mx_J (tB l D b0 ad Hb tau) mt_231 (d + 0) 78 [some (.ref 56), some (xI w10_1), some (xI w10_2)] [xI k15_1, xI w10_1] h7 Post := by
                        intro k15_1 f15_0
                        refine JiaddN (show mx_Sn _ _ 78 (mx_iadd 79) from sn_231 78) (fun y16 hy16 hq16 => ?_)
                        refine mx_J.step (ls2 := [some (.ref 56), some (xI y16), some (xI w10_2)]) (sn_231 79) (fun _ _ => rfl) ?_
                        refine Jiinc (z := w10_2) (cz := 1) (ls2 := [some (.ref 56), some (xI y16), some (xI (w10_2 + 1))]) (show mx_Sn _ _ 80 (mx_iinc 2 1 83) from sn_231 80) rfl rfl rfl rfl ?_
                        refine mx_J.step (sn_231 83) (fun _ _ => rfl) ?_
                        exact ih10 y16 (w10_2 + 1) (by omega) (by omega) (by omega)
                      refine Jif_eq (show mx_Sn _ _ 70 (mx_if_eq 77 73) from sn_231 70) (by omega) (fun q17 => ?_) (fun q17 => ?_)
                      · skip
                        refine JcI (z := 1) (show mx_Sn _ _ 77 (mx_const (.int 1) 78) from sn_231 77) rfl ?_
                        exact c78 1 (by omega)
                      · skip
                        refine JcI (z := 0) (show mx_Sn _ _ 73 (mx_const (.int 0) 74) from sn_231 73) rfl ?_
                        refine mx_J.step (sn_231 74) (fun _ _ => rfl) ?_
                        exact c78 0 (by omega)
                exact c55 (Int.toNat (385 - 0) + 1) 0 0 (by omega) (by omega) (by omega)
              · skip
                refine mx_J.step (sn_231 33) (fun _ _ => rfl) ?_
                refine JgetR (g := 28) (b := 71) hx7 (show mx_Sn _ _ 34 (mx_getf 12 28 37) from sn_231 34) a56 s56 rfl rfl (hG7.prr 56 28 rfl) ?_
                refine mx_J.step (sn_231 37) (fun _ _ => rfl) ?_
                refine JgetR (g := 24) (b := 67) hx7 (show mx_Sn _ _ 38 (mx_getf 12 24 41) from sn_231 38) a56 s56 rfl rfl (hG7.prr 56 24 rfl) ?_
                refine mx_J.step (sn_231 41) (fun _ _ => rfl) ?_
                have b20 : 0 ≤ Z 67 w6_1 ∧ Z 67 w6_1 ≤ 384 := hG.pr 67 w6_1
                refine JialdI (z := Z 67 w6_1) hx7 (show mx_Sn _ _ 42 (mx_iald 43) from sn_231 42) a67 s67 (by omega) ((hf7 67 w6_1 rfl).trans (hf2 67 w6_1 rfl)) ?_
                refine JcI (z := 1) (show mx_Sn _ _ 43 (mx_const (.int 1) 44) from sn_231 43) rfl ?_
                refine JzastI hx7 (show mx_Sn _ _ 44 (mx_zast 1 45) from sn_231 44) a71 s71 rfl (by omega) (by omega) (fun Z21 h21 hx21 hE21 => ?_)
                have hG21 := GI_up hG7 hE21 (show 0 ≤ 1 ∧ 1 ≤ 1 by omega) trivial rfl
                refine Jiinc (z := w6_1) (cz := 1) (ls2 := [some (.ref 56), some (xI (w6_1 + 1)), none]) (show mx_Sn _ _ 45 (mx_iinc 1 1 48) from sn_231 45) rfl rfl rfl rfl ?_
                refine mx_J.step (sn_231 48) (fun _ _ => rfl) ?_
                exact ih6 (w6_1 + 1) Z21 h21 (by omega) (by omega) hx21 hG21 (fr_tr (M := [(71, (-1))]) (fr_tr (M := [(71, (-1))]) fr_rf (hf7) (M1 := []) rfl rfl) (fr_ua hE21) rfl rfl)
          exact c25 (Int.toNat (385 - 0) + 1) 0 Z2 h2 (by omega) (by omega) hx2 hG2 fr_rf
        · skip
          refine mx_J.step (sn_231 10) (fun _ _ => rfl) ?_
          refine JgetR (g := 28) (b := 71) hx2 (show mx_Sn _ _ 11 (mx_getf 12 28 14) from sn_231 11) a56 s56 rfl rfl (hG2.prr 56 28 rfl) ?_
          refine mx_J.step (sn_231 14) (fun _ _ => rfl) ?_
          refine JcI (z := 0) (show mx_Sn _ _ 15 (mx_const (.int 0) 16) from sn_231 15) rfl ?_
          refine JzastI hx2 (show mx_Sn _ _ 16 (mx_zast 1 17) from sn_231 16) a71 s71 rfl (by omega) (by omega) (fun Z23 h23 hx23 hE23 => ?_)
          have hG23 := GI_up hG2 hE23 (show 0 ≤ 0 ∧ 0 ≤ 1 by omega) trivial rfl
          refine Jiinc (z := w1_1) (cz := 1) (ls2 := [some (.ref 56), some (xI (w1_1 + 1)), none]) (show mx_Sn _ _ 17 (mx_iinc 1 1 20) from sn_231 17) rfl rfl rfl rfl ?_
          refine mx_J.step (sn_231 20) (fun _ _ => rfl) ?_
          exact ih1 (w1_1 + 1) Z23 h23 (by omega) (by omega) hx23 hG23 (fr_tr (M := [(71, (-1))]) (fr_tr (M := [(71, (-1))]) fr_rf (hf2) (M1 := []) rfl rfl) (fr_ua hE23) rfl rfl)
    exact c2 (Int.toNat (385 - 0) + 1) 0 Z h (by omega) (by omega) hx hG fr_rf
theorem ct_231_56 {l : Launch} {D : va_G} {b0 : Nat} {ad : Nat → Nat} {Hb : Heap} {tau : Nat → Int64} {d n s : Nat} {S : Nat → xS} {Z : xZ} {h : mx_H} (hx : XH n s S Z h) (hG : GI n S Z)   : ∃ (z : Int) (Z' : xZ) (h' : mx_H), mx_Ca (tB l D b0 ad Hb tau) (d + 1) 231 [.ref 56] h (some (xI z), h') ∧ XH n s S Z' h' ∧ GI n S Z' ∧ fr' [(71, (-1))] Z Z' ∧ ((-2147483648) ≤ z ∧ z ≤ 2147483647) := by
  obtain ⟨r, hca, z, Z', h', e, q⟩ := Jmt (B := tB l D b0 ad Hb tau) (M := mt_231) (mi := 231) (as := [.ref 56]) (d := d + 0) (ls := [some (.ref 56), none, none]) rfl rfl rfl rfl rfl rfl (cw_231_56 (l := l) (D := D) (b0 := b0) (ad := ad) (Hb := Hb) (tau := tau) (d := d) (Post := fun r => ∃ (z : Int) (Z' : xZ) (h' : mx_H), r = (some (xI z), h') ∧ XH n s S Z' h' ∧ GI n S Z' ∧ fr' [(71, (-1))] Z Z' ∧ ((-2147483648) ≤ z ∧ z ≤ 2147483647)) hx hG  (fun z Z' h' q1 q2 q3 q4 => ⟨z, Z', h', rfl, q1, q2, q3, q4⟩))
  subst e; exact ⟨z, Z', h', hca, q⟩
set_option maxRecDepth 100000 in
theorem cw_232_56 {l : Launch} {D : va_G} {b0 : Nat} {ad : Nat → Nat} {Hb : Heap} {tau : Nat → Int64} {d n s : Nat} {S : Nat → xS} {Z : xZ} {h : mx_H} {Post : mx_R → Prop} (hx : XH n s S Z h) (hG : GI n S Z)  {x0 : Int} (p0 : 0 ≤ x0 ∧ x0 ≤ 384) (k0 : ai 67 Z (Z 56 18) 0 (Z 56 18 - 1) = 1) (k1 : x0 < Z 56 18) (hP : ∀ (z : Int) (Z' : xZ) (h' : mx_H), XH n s S Z' h' → GI n S Z' → fr' [(56, 30), (56, 31), (68, (-1)), (69, (-1))] Z Z' → 0 ≤ z ∧ z ≤ 384 → Post (some (xI z), h')) : mx_J (tB l D b0 ad Hb tau) mt_232 (d + 1) 0 [some (.ref 56), some (xI x0), none, none] [] h Post := by
    have a56 : 56 < n := lt83 (GI_n hG) rfl
    have s56 : S 56 = .inl (12, [0, 2, 2, 2, 2, 0, 0, 0, 0, 0, 0, 0, 0, 0, 0, 2, 2, 2, 0, 2, 2, 2, 0, 0, 2, 2, 2, 2, 2, 2, 0, 0, 2, 2, 2, 2, 2, 2, 2, 2, 2, 2]) := GI_s hG 56 rfl
    have a69 : 69 < n := lt83 (GI_n hG) rfl
    have s69 : S 69 = .inr (.int, 386, 0) := GI_s hG 69 rfl
    refine mx_J.step (sn_232 0) (fun _ _ => rfl) ?_
    refine mx_J.step (sn_232 1) (fun _ _ => rfl) ?_
    have b2 : 0 ≤ Z 56 18 ∧ Z 56 18 ≤ 385 := hG.pr 56 18
    obtain ⟨Z1, h1, hc1, hx1, hG1, hf1, b1⟩ := ct_227_56 (d := d + 0) (l := l) (D := D) (b0 := b0) (ad := ad) (Hb := Hb) (tau := tau) hx hG (show 0 ≤ x0 ∧ x0 ≤ 384 by omega) (show ai 67 Z (Z 56 18) 0 (Z 56 18 - 1) = 1 by omega) (show x0 < Z 56 18 by omega)
    have b3 : 0 ≤ Z1 56 30 ∧ Z1 56 30 ≤ 386 := hG1.pr 56 30
    have b4 : 0 ≤ Z1 56 31 ∧ Z1 56 31 ≤ 385 := hG1.pr 56 31
    refine Jcv0 hx (show mx_Sn _ _ 2 (mx_callv 227 2 12 5) from sn_232 2) a56 s56 hc1 rfl rfl rfl ?_
    refine mx_J.step (sn_232 5) (fun _ _ => rfl) ?_
    refine JgetR (g := 26) (b := 69) hx1 (show mx_Sn _ _ 6 (mx_getf 12 26 9) from sn_232 6) a56 s56 rfl rfl (hG1.prr 56 26 rfl) ?_
    refine mx_J.step (sn_232 9) (fun _ _ => rfl) ?_
    refine JgetI (g := 31) (z := Z1 56 31) hx1 (show mx_Sn _ _ 10 (mx_getf 12 31 13) from sn_232 10) a56 s56 rfl rfl rfl ?_
    have b7 : 0 ≤ Z1 69 (Z1 56 31) ∧ Z1 69 (Z1 56 31) ≤ 384 := hG1.pr 69 (Z1 56 31)
    refine JialdI (z := Z1 69 (Z1 56 31)) hx1 (show mx_Sn _ _ 13 (mx_iald 14) from sn_232 13) a69 s69 (by omega) rfl ?_
    refine mx_J.step (ls2 := [some (.ref 56), some (xI x0), some (xI (Z1 69 (Z1 56 31))), none]) (sn_232 14) (fun _ _ => rfl) ?_
    refine mx_J.step (sn_232 15) (fun _ _ => rfl) ?_
    refine JgetI (g := 31) (z := Z1 56 31) hx1 (show mx_Sn _ _ 16 (mx_getf 12 31 19) from sn_232 16) a56 s56 rfl rfl rfl ?_
    refine mx_J.step (ls2 := [some (.ref 56), some (xI x0), some (xI (Z1 69 (Z1 56 31))), some (xI (Z1 56 31))]) (sn_232 19) (fun _ _ => rfl) ?_
    have c20 : ∀ (m9 : Nat) (w9_2 : Int) (w9_3 : Int), 386 - w9_3 < (m9 : Int) → 0 ≤ w9_2 ∧ w9_2 ≤ 384 → 0 ≤ w9_3 ∧ w9_3 ≤ 386 → mx_J (tB l D b0 ad Hb tau) mt_232 (d + 1) 20 [some (.ref 56), some (xI x0), some (xI w9_2), some (xI w9_3)] [] h1 Post := by
      intro m9
      induction m9 with
      | zero => intro w9_2 w9_3 q9 f9_0 f9_1; exact absurd q9 (by omega)
      | succ m9 ih9 =>
        intro w9_2 w9_3 q9 f9_0 f9_1
        refine mx_J.step (sn_232 20) (fun _ _ => rfl) ?_
        refine mx_J.step (sn_232 21) (fun _ _ => rfl) ?_
        refine JgetI (g := 30) (z := Z1 56 30) hx1 (show mx_Sn _ _ 22 (mx_getf 12 30 25) from sn_232 22) a56 s56 rfl rfl rfl ?_
        refine Jicmp_ge (show mx_Sn _ _ 25 (mx_icmp_ge 55 28) from sn_232 25) (by omega) (by omega) (fun q11 => ?_) (fun q11 => ?_)
        · skip
          refine mx_J.step (sn_232 55) (fun _ _ => rfl) ?_
          have eq12 : Z1 56 18 = Z 56 18 := (hf1 56 18 rfl)
          have eq13 : (ai 67) Z1 (Z 56 18) 0 (Z 56 18 - 1) = (ai 67) Z (Z 56 18) 0 (Z 56 18 - 1) := (ai_c (fun i => hf1 67 i rfl))
          exact mx_J.ret (sn_232 56) (fun _ _ => rfl) (hP w9_2 Z1 h1 hx1 hG1 (fr_tr (M := [(56, 30), (56, 31), (68, (-1)), (69, (-1))]) fr_rf (hf1) (M1 := []) rfl rfl) (by omega))
        · skip
          refine mx_J.step (sn_232 28) (fun _ _ => rfl) ?_
          refine JgetR (g := 26) (b := 69) hx1 (show mx_Sn _ _ 29 (mx_getf 12 26 32) from sn_232 29) a56 s56 rfl rfl (hG1.prr 56 26 rfl) ?_
          refine mx_J.step (sn_232 32) (fun _ _ => rfl) ?_
          have b15 : 0 ≤ Z1 69 w9_3 ∧ Z1 69 w9_3 ≤ 384 := hG1.pr 69 w9_3
          refine JialdI (z := Z1 69 w9_3) hx1 (show mx_Sn _ _ 33 (mx_iald 34) from sn_232 33) a69 s69 (by omega) rfl ?_
          refine mx_J.step (sn_232 34) (fun _ _ => rfl) ?_
          have c48 : ∀ (k16_0 : Int), 0 ≤ k16_0 ∧ k16_0 ≤ 384 → mx_J (tB l D b0 ad Hb tau) mt_232 (d + 1) 48 [some (.ref 56), some (xI x0), some (xI w9_2), some (xI w9_3)] [xI k16_0] h1 Post := by
            intro k16_0 f16_0
            refine mx_J.step (ls2 := [some (.ref 56), some (xI x0), some (xI k16_0), some (xI w9_3)]) (sn_232 48) (fun _ _ => rfl) ?_
            refine Jiinc (z := w9_3) (cz := 1) (ls2 := [some (.ref 56), some (xI x0), some (xI k16_0), some (xI (w9_3 + 1))]) (show mx_Sn _ _ 49 (mx_iinc 3 1 52) from sn_232 49) rfl rfl rfl rfl ?_
            refine mx_J.step (sn_232 52) (fun _ _ => rfl) ?_
            exact ih9 k16_0 (w9_3 + 1) (by omega) (by omega) (by omega)
          refine Jicmp_ge (show mx_Sn _ _ 35 (mx_icmp_ge 47 38) from sn_232 35) (by omega) (by omega) (fun q17 => ?_) (fun q17 => ?_)
          · skip
            refine mx_J.step (sn_232 47) (fun _ _ => rfl) ?_
            exact c48 w9_2 (by omega)
          · skip
            refine mx_J.step (sn_232 38) (fun _ _ => rfl) ?_
            refine JgetR (g := 26) (b := 69) hx1 (show mx_Sn _ _ 39 (mx_getf 12 26 42) from sn_232 39) a56 s56 rfl rfl (hG1.prr 56 26 rfl) ?_
            refine mx_J.step (sn_232 42) (fun _ _ => rfl) ?_
            refine JialdI (z := Z1 69 w9_3) hx1 (show mx_Sn _ _ 43 (mx_iald 44) from sn_232 43) a69 s69 (by omega) rfl ?_
            refine mx_J.step (sn_232 44) (fun _ _ => rfl) ?_
            exact c48 (Z1 69 w9_3) (by omega)
    exact c20 (Int.toNat (386 - (Z1 56 31)) + 1) (Z1 69 (Z1 56 31)) (Z1 56 31) (by omega) (by omega) (by omega)
theorem ct_232_56 {l : Launch} {D : va_G} {b0 : Nat} {ad : Nat → Nat} {Hb : Heap} {tau : Nat → Int64} {d n s : Nat} {S : Nat → xS} {Z : xZ} {h : mx_H} (hx : XH n s S Z h) (hG : GI n S Z)  {x0 : Int} (p0 : 0 ≤ x0 ∧ x0 ≤ 384) (k0 : ai 67 Z (Z 56 18) 0 (Z 56 18 - 1) = 1) (k1 : x0 < Z 56 18) : ∃ (z : Int) (Z' : xZ) (h' : mx_H), mx_Ca (tB l D b0 ad Hb tau) (d + 2) 232 [.ref 56, xI x0] h (some (xI z), h') ∧ XH n s S Z' h' ∧ GI n S Z' ∧ fr' [(56, 30), (56, 31), (68, (-1)), (69, (-1))] Z Z' ∧ (0 ≤ z ∧ z ≤ 384) := by
  obtain ⟨r, hca, z, Z', h', e, q⟩ := Jmt (B := tB l D b0 ad Hb tau) (M := mt_232) (mi := 232) (as := [.ref 56, xI x0]) (d := d + 1) (ls := [some (.ref 56), some (xI x0), none, none]) rfl rfl rfl rfl rfl rfl (cw_232_56 (l := l) (D := D) (b0 := b0) (ad := ad) (Hb := Hb) (tau := tau) (d := d) (Post := fun r => ∃ (z : Int) (Z' : xZ) (h' : mx_H), r = (some (xI z), h') ∧ XH n s S Z' h' ∧ GI n S Z' ∧ fr' [(56, 30), (56, 31), (68, (-1)), (69, (-1))] Z Z' ∧ (0 ≤ z ∧ z ≤ 384)) hx hG p0 k0 k1 (fun z Z' h' q1 q2 q3 q4 => ⟨z, Z', h', rfl, q1, q2, q3, q4⟩))
  subst e; exact ⟨z, Z', h', hca, q⟩
set_option maxRecDepth 100000 in
theorem cw_233_56 {l : Launch} {D : va_G} {b0 : Nat} {ad : Nat → Nat} {Hb : Heap} {tau : Nat → Int64} {d n s : Nat} {S : Nat → xS} {Z : xZ} {h : mx_H} {Post : mx_R → Prop} (hx : XH n s S Z h) (hG : GI n S Z)  {x0 : Int} (p0 : (-2147483648) ≤ x0 ∧ x0 ≤ 2147483647) (hP : ∀ (z : Int) (Z' : xZ) (h' : mx_H), XH n s S Z' h' → GI n S Z' → fr' [(56, 0), (56, 30), (56, 31), (62, (-1)), (64, (-1)), (65, (-1)), (67, (-1)), (68, (-1)), (69, (-1)), (70, (-1)), (71, (-1))] Z Z' → (-2147483648) ≤ z ∧ z ≤ 2147483647 → Post (some (xI z), h')) : mx_J (tB l D b0 ad Hb tau) mt_233 (d + 7) 0 [some (.ref 56), some (xI x0), none, none, none, none] [] h Post := by
    have a56 : 56 < n := lt83 (GI_n hG) rfl
    have s56 : S 56 = .inl (12, [0, 2, 2, 2, 2, 0, 0, 0, 0, 0, 0, 0, 0, 0, 0, 2, 2, 2, 0, 2, 2, 2, 0, 0, 2, 2, 2, 2, 2, 2, 0, 0, 2, 2, 2, 2, 2, 2, 2, 2, 2, 2]) := GI_s hG 56 rfl
    have a57 : 57 < n := lt83 (GI_n hG) rfl
    have s57 : S 57 = .inr (.int, 2886, 0) := GI_s hG 57 rfl
    have a70 : 70 < n := lt83 (GI_n hG) rfl
    have s70 : S 70 = .inr (.boolean, 385, 0) := GI_s hG 70 rfl
    refine mx_J.step (sn_233 0) (fun _ _ => rfl) ?_
    refine JcI (z := 0) (show mx_Sn _ _ 1 (mx_const (.int 0) 2) from sn_233 1) rfl ?_
    refine JputI (g := 0) hx (show mx_Sn _ _ 2 (mx_putf 1 12 0 (.int) 5) from sn_233 2) a56 s56 rfl rfl rfl rfl (fun Z1 h1 hx1 hE1 => ?_)
    have hG1 := GI_up hG hE1 (show (-2147483648) ≤ 0 ∧ 0 ≤ 2147483647 by omega) trivial rfl
    refine mx_J.step (sn_233 5) (fun _ _ => rfl) ?_
    refine Ji2l (show mx_Sn _ _ 6 (mx_i2l 7) from sn_233 6) (by omega) ?_
    refine JcL (z := 0) (show mx_Sn _ _ 7 (mx_const (.long 0) 8) from sn_233 7) rfl ?_
    refine JcL (z := 5) (show mx_Sn _ _ 8 (mx_const (.long 5) 11) from sn_233 8) rfl ?_
    obtain ⟨z2, hc2, b2⟩ := ct_154_ (d := d + 6) (l := l) (D := D) (b0 := b0) (ad := ad) (Hb := Hb) (tau := tau) hx1 hG1 (show (-9223372036854775808) ≤ x0 ∧ x0 ≤ 9223372036854775807 by omega) (show (-9223372036854775808) ≤ 0 ∧ 0 ≤ 9223372036854775807 by omega) (show (-9223372036854775808) ≤ 5 ∧ 5 ≤ 9223372036854775807 by omega)
    refine Jcs (show mx_Sn _ _ 11 (mx_calls 154 3 14) from sn_233 11) hc2 rfl rfl rfl ?_
    refine Jif_ne (show mx_Sn _ _ 14 (mx_if_ne 20 17) from sn_233 14) (by omega) (fun q3 => ?_) (fun q3 => ?_)
    · skip
      refine mx_J.step (sn_233 20) (fun _ _ => rfl) ?_
      refine Jif_ne (show mx_Sn _ _ 21 (mx_if_ne 29 24) from sn_233 21) (by omega) (fun q4 => ?_) (fun q4 => ?_)
      · skip
        refine mx_J.step (sn_233 29) (fun _ _ => rfl) ?_
        have eq6 : Z1 56 18 = Z 56 18 := (up_ni hE1 (by decide))
        have b7 : 0 ≤ Z 56 18 ∧ Z 56 18 ≤ 385 := hG.pr 56 18
        obtain ⟨Z5, h5, hc5, hx5, hG5, hf5, b5⟩ := ct_230_56 (d := d + 0) (l := l) (D := D) (b0 := b0) (ad := ad) (Hb := Hb) (tau := tau) hx1 hG1 
        try rw [eq6] at b5
        refine Jcv0 hx1 (show mx_Sn _ _ 30 (mx_callv 230 1 12 33) from sn_233 30) a56 s56 hc5 rfl rfl rfl ?_
        refine mx_J.step (sn_233 33) (fun _ _ => rfl) ?_
        refine JcI (z := 1) (show mx_Sn _ _ 34 (mx_const (.int 1) 35) from sn_233 34) rfl ?_
        refine Jicmp_ne (show mx_Sn _ _ 35 (mx_icmp_ne 43 38) from sn_233 35) (by omega) (by omega) (fun q8 => ?_) (fun q8 => ?_)
        · skip
          refine mx_J.step (sn_233 43) (fun _ _ => rfl) ?_
          refine mx_J.step (sn_233 44) (fun _ _ => rfl) ?_
          refine JgetR (g := 1) (b := 57) hx5 (show mx_Sn _ _ 45 (mx_getf 12 1 48) from sn_233 45) a56 s56 rfl rfl (hG5.prr 56 1 rfl) ?_
          refine JcI (z := 27) (show mx_Sn _ _ 48 (mx_const (.int 27) 50) from sn_233 48) rfl ?_
          have b10 := GI_st hG 27
          have b11 : 0 ≤ Z 57 27 ∧ Z 57 27 ≤ 384 := by have hq := GI_ex hG 57 27; replace hq : f57 (27 % 962) (Z 57 27) := hq; unfold f57 at hq; omega
          have b12 : (-2147483648) ≤ Z 57 27 ∧ Z 57 27 ≤ 2147483647 := hG.pr 57 27
          refine JialdI (z := Z 57 27) hx5 (show mx_Sn _ _ 50 (mx_iald 51) from sn_233 50) a57 s57 (by omega) ((hf5 57 27 rfl).trans (up_nk hE1 rfl)) ?_
          have eq14 : Z5 56 18 = Z 56 18 := ((hf5 56 18 rfl).trans (up_ni hE1 (by decide)))
          obtain ⟨z13, Z13, h13, hc13, hx13, hG13, hf13, b13⟩ := ct_232_56 (d := d + 5) (l := l) (D := D) (b0 := b0) (ad := ad) (Hb := Hb) (tau := tau) hx5 hG5 (show 0 ≤ Z 57 27 ∧ Z 57 27 ≤ 384 by omega) (show ai 67 Z5 (Z5 56 18) 0 (Z5 56 18 - 1) = 1 by first | omega | (simp only [eq14]; omega)) (show (Z 57 27) < Z5 56 18 by first | omega | (simp only [eq14]; omega))
          try rw [eq14] at b13
          refine Jcv hx5 (show mx_Sn _ _ 51 (mx_callv 232 2 12 54) from sn_233 51) a56 s56 hc13 rfl rfl rfl ?_
          refine mx_J.step (ls2 := [some (.ref 56), some (xI x0), some (xI z13), none, none, none]) (sn_233 54) (fun _ _ => rfl) ?_
          refine JcI (z := 0) (show mx_Sn _ _ 55 (mx_const (.int 0) 56) from sn_233 55) rfl ?_
          refine mx_J.step (ls2 := [some (.ref 56), some (xI x0), some (xI z13), some (xI 0), none, none]) (sn_233 56) (fun _ _ => rfl) ?_
          refine JcI (z := 0) (show mx_Sn _ _ 57 (mx_const (.int 0) 58) from sn_233 57) rfl ?_
          refine mx_J.step (ls2 := [some (.ref 56), some (xI x0), some (xI z13), some (xI 0), some (xI 0), none]) (sn_233 58) (fun _ _ => rfl) ?_
          have c60 : ∀ (m15 : Nat) (w15_3 : Int) (w15_4 : Int) (u15_5 : Option Value) (Z16 : xZ) (h16 : mx_H), 385 - w15_4 < (m15 : Int) → (-2147483648) ≤ w15_3 ∧ w15_3 ≤ 2147483647 → 0 ≤ w15_4 ∧ w15_4 ≤ 385 → XH n s S Z16 h16 → GI n S Z16 → fr' [(56, 30), (56, 31), (68, (-1)), (69, (-1))] Z13 Z16 → mx_J (tB l D b0 ad Hb tau) mt_233 (d + 7) 60 [some (.ref 56), some (xI x0), some (xI z13), some (xI w15_3), some (xI w15_4), u15_5] [] h16 Post := by
            intro m15
            induction m15 with
            | zero => intro w15_3 w15_4 u15_5 Z16 h16 q15 f15_0 f15_1 hx16 hG16 hf16; exact absurd q15 (by omega)
            | succ m15 ih15 =>
              intro w15_3 w15_4 u15_5 Z16 h16 q15 f15_0 f15_1 hx16 hG16 hf16
              refine mx_J.step (sn_233 60) (fun _ _ => rfl) ?_
              refine mx_J.step (sn_233 62) (fun _ _ => rfl) ?_
              refine JgetI (g := 18) (z := Z 56 18) hx16 (show mx_Sn _ _ 63 (mx_getf 12 18 66) from sn_233 63) a56 s56 rfl rfl ((hf16 56 18 rfl).trans ((hf13 56 18 rfl).trans ((hf5 56 18 rfl).trans (up_ni hE1 (by decide))))) ?_
              refine Jicmp_ge (show mx_Sn _ _ 66 (mx_icmp_ge 171 69) from sn_233 66) (by omega) (by omega) (fun q18 => ?_) (fun q18 => ?_)
              · skip
                refine mx_J.step (sn_233 171) (fun _ _ => rfl) ?_
                exact mx_J.ret (sn_233 172) (fun _ _ => rfl) (hP w15_3 Z16 h16 hx16 hG16 (fr_tr (M := [(56, 0), (56, 30), (56, 31), (62, (-1)), (64, (-1)), (65, (-1)), (67, (-1)), (68, (-1)), (69, (-1)), (70, (-1)), (71, (-1))]) (fr_tr (M := [(56, 0), (56, 30), (56, 31), (62, (-1)), (64, (-1)), (65, (-1)), (67, (-1)), (68, (-1)), (69, (-1)), (70, (-1)), (71, (-1))]) (fr_tr (M := [(56, 0), (56, 30), (56, 31), (62, (-1)), (64, (-1)), (65, (-1)), (67, (-1)), (68, (-1)), (69, (-1)), (70, (-1)), (71, (-1))]) (fr_tr (M := [(56, 0), (56, 30), (56, 31), (62, (-1)), (64, (-1)), (65, (-1)), (67, (-1)), (68, (-1)), (69, (-1)), (70, (-1)), (71, (-1))]) fr_rf (fr_up hE1) (M1 := []) rfl rfl) (hf5) rfl rfl) (hf13) rfl rfl) (hf16) rfl rfl) (by omega))
              · skip
                refine mx_J.step (sn_233 69) (fun _ _ => rfl) ?_
                refine mx_J.step (sn_233 70) (fun _ _ => rfl) ?_
                have eq20 : Z16 56 18 = Z 56 18 := ((hf16 56 18 rfl).trans ((hf13 56 18 rfl).trans ((hf5 56 18 rfl).trans (up_ni hE1 (by decide)))))
                have eq21 : (ai 67) Z16 (Z 56 18) 0 (Z 56 18 - 1) = (ai 67) Z5 (Z 56 18) 0 (Z 56 18 - 1) := ((ai_c (fun i => hf16 67 i rfl)).trans (ai_c (fun i => hf13 67 i rfl)))
                obtain ⟨z19, Z19, h19, hc19, hx19, hG19, hf19, b19⟩ := ct_232_56 (d := d + 5) (l := l) (D := D) (b0 := b0) (ad := ad) (Hb := Hb) (tau := tau) hx16 hG16 (show 0 ≤ w15_4 ∧ w15_4 ≤ 384 by omega) (show ai 67 Z16 (Z16 56 18) 0 (Z16 56 18 - 1) = 1 by first | omega | (simp only [eq20]; omega)) (show w15_4 < Z16 56 18 by first | omega | (simp only [eq20]; omega))
                try rw [eq20] at b19
                refine Jcv hx16 (show mx_Sn _ _ 72 (mx_callv 232 2 12 75) from sn_233 72) a56 s56 hc19 rfl rfl rfl ?_
                refine mx_J.step (ls2 := [some (.ref 56), some (xI x0), some (xI z13), some (xI w15_3), some (xI w15_4), some (xI z19)]) (sn_233 75) (fun _ _ => rfl) ?_
                refine mx_J.step (sn_233 77) (fun _ _ => rfl) ?_
                refine JcI (z := 2) (show mx_Sn _ _ 78 (mx_const (.int 2) 79) from sn_233 78) rfl ?_
                have c165 : ∀ (w22_3 : Int), (-2147483648) ≤ w22_3 ∧ w22_3 ≤ 2147483647 → mx_J (tB l D b0 ad Hb tau) mt_233 (d + 7) 165 [some (.ref 56), some (xI x0), some (xI z13), some (xI w22_3), some (xI w15_4), some (xI z19)] [] h19 Post := by
                  intro w22_3 f22_0
                  refine Jiinc (z := w15_4) (cz := 1) (ls2 := [some (.ref 56), some (xI x0), some (xI z13), some (xI w22_3), some (xI (w15_4 + 1)), some (xI z19)]) (show mx_Sn _ _ 165 (mx_iinc 4 1 168) from sn_233 165) rfl rfl rfl rfl ?_
                  refine mx_J.step (sn_233 168) (fun _ _ => rfl) ?_
                  exact ih15 w22_3 (w15_4 + 1) (some (xI z19)) Z19 h19 (by omega) (by omega) (by omega) hx19 hG19 (fr_tr (M := [(56, 30), (56, 31), (68, (-1)), (69, (-1))]) (fr_tr (M := [(56, 30), (56, 31), (68, (-1)), (69, (-1))]) fr_rf (hf16) (M1 := []) rfl rfl) (hf19) rfl rfl)
                refine Jicmp_ne (show mx_Sn _ _ 79 (mx_icmp_ne 103 82) from sn_233 79) (by omega) (by omega) (fun q23 => ?_) (fun q23 => ?_)
                · skip
                  refine mx_J.step (sn_233 103) (fun _ _ => rfl) ?_
                  refine JcI (z := 3) (show mx_Sn _ _ 104 (mx_const (.int 3) 105) from sn_233 104) rfl ?_
                  refine Jicmp_ne (show mx_Sn _ _ 105 (mx_icmp_ne 126 108) from sn_233 105) (by omega) (by omega) (fun q24 => ?_) (fun q24 => ?_)
                  · skip
                    refine mx_J.step (sn_233 126) (fun _ _ => rfl) ?_
                    refine JcI (z := 4) (show mx_Sn _ _ 127 (mx_const (.int 4) 128) from sn_233 127) rfl ?_
                    refine Jicmp_ne (show mx_Sn _ _ 128 (mx_icmp_ne 151 131) from sn_233 128) (by omega) (by omega) (fun q25 => ?_) (fun q25 => ?_)
                    · skip
                      refine mx_J.step (sn_233 151) (fun _ _ => rfl) ?_
                      refine mx_J.step (sn_233 152) (fun _ _ => rfl) ?_
                      refine mx_J.step (sn_233 154) (fun _ _ => rfl) ?_
                      have c163 : ∀ (k26_1 : Int), 0 ≤ k26_1 ∧ k26_1 ≤ 1 → mx_J (tB l D b0 ad Hb tau) mt_233 (d + 7) 163 [some (.ref 56), some (xI x0), some (xI z13), some (xI w15_3), some (xI w15_4), some (xI z19)] [xI k26_1, xI w15_3] h19 Post := by
                        intro k26_1 f26_0
                        refine JiaddN (show mx_Sn _ _ 163 (mx_iadd 164) from sn_233 163) (fun y27 hy27 hq27 => ?_)
                        refine mx_J.step (ls2 := [some (.ref 56), some (xI x0), some (xI z13), some (xI y27), some (xI w15_4), some (xI z19)]) (sn_233 164) (fun _ _ => rfl) ?_
                        exact c165 y27 (by omega)
                      refine Jicmp_ne (show mx_Sn _ _ 155 (mx_icmp_ne 162 158) from sn_233 155) (by omega) (by omega) (fun q28 => ?_) (fun q28 => ?_)
                      · skip
                        refine JcI (z := 0) (show mx_Sn _ _ 162 (mx_const (.int 0) 163) from sn_233 162) rfl ?_
                        exact c163 0 (by omega)
                      · skip
                        refine JcI (z := 1) (show mx_Sn _ _ 158 (mx_const (.int 1) 159) from sn_233 158) rfl ?_
                        refine mx_J.step (sn_233 159) (fun _ _ => rfl) ?_
                        exact c163 1 (by omega)
                    · skip
                      refine mx_J.step (sn_233 131) (fun _ _ => rfl) ?_
                      have b30 : 0 ≤ Z19 56 31 ∧ Z19 56 31 ≤ 385 := hG19.pr 56 31
                      refine JgetI (g := 31) (z := Z19 56 31) hx19 (show mx_Sn _ _ 132 (mx_getf 12 31 135) from sn_233 132) a56 s56 rfl rfl rfl ?_
                      refine mx_J.step (sn_233 135) (fun _ _ => rfl) ?_
                      have c147 : ∀ (k31_0 : Int), 0 ≤ k31_0 ∧ k31_0 ≤ 2147483647 → mx_J (tB l D b0 ad Hb tau) mt_233 (d + 7) 147 [some (.ref 56), some (xI x0), some (xI z13), some (xI w15_3), some (xI w15_4), some (xI z19)] [xI k31_0] h19 Post := by
                        intro k31_0 f31_0
                        refine mx_J.step (ls2 := [some (.ref 56), some (xI x0), some (xI z13), some (xI k31_0), some (xI w15_4), some (xI z19)]) (sn_233 147) (fun _ _ => rfl) ?_
                        refine mx_J.step (sn_233 148) (fun _ _ => rfl) ?_
                        exact c165 k31_0 (by omega)
                      refine Jicmp_le (show mx_Sn _ _ 136 (mx_icmp_le 146 139) from sn_233 136) (by omega) (by omega) (fun q32 => ?_) (fun q32 => ?_)
                      · skip
                        refine mx_J.step (sn_233 146) (fun _ _ => rfl) ?_
                        exact c147 w15_3 (by omega)
                      · skip
                        refine mx_J.step (sn_233 139) (fun _ _ => rfl) ?_
                        refine JgetI (g := 31) (z := Z19 56 31) hx19 (show mx_Sn _ _ 140 (mx_getf 12 31 143) from sn_233 140) a56 s56 rfl rfl rfl ?_
                        refine mx_J.step (sn_233 143) (fun _ _ => rfl) ?_
                        exact c147 (Z19 56 31) (by omega)
                  · skip
                    refine mx_J.step (sn_233 108) (fun _ _ => rfl) ?_
                    refine mx_J.step (sn_233 109) (fun _ _ => rfl) ?_
                    refine mx_J.step (sn_233 111) (fun _ _ => rfl) ?_
                    have c121 : ∀ (k34_1 : Int), 0 ≤ k34_1 ∧ k34_1 ≤ 1 → mx_J (tB l D b0 ad Hb tau) mt_233 (d + 7) 121 [some (.ref 56), some (xI x0), some (xI z13), some (xI w15_3), some (xI w15_4), some (xI z19)] [xI k34_1, xI w15_3] h19 Post := by
                      intro k34_1 f34_0
                      refine JiaddN (show mx_Sn _ _ 121 (mx_iadd 122) from sn_233 121) (fun y35 hy35 hq35 => ?_)
                      refine mx_J.step (ls2 := [some (.ref 56), some (xI x0), some (xI z13), some (xI y35), some (xI w15_4), some (xI z19)]) (sn_233 122) (fun _ _ => rfl) ?_
                      refine mx_J.step (sn_233 123) (fun _ _ => rfl) ?_
                      exact c165 y35 (by omega)
                    refine Jicmp_ne (show mx_Sn _ _ 113 (mx_icmp_ne 120 116) from sn_233 113) (by omega) (by omega) (fun q36 => ?_) (fun q36 => ?_)
                    · skip
                      refine JcI (z := 0) (show mx_Sn _ _ 120 (mx_const (.int 0) 121) from sn_233 120) rfl ?_
                      exact c121 0 (by omega)
                    · skip
                      refine JcI (z := 1) (show mx_Sn _ _ 116 (mx_const (.int 1) 117) from sn_233 116) rfl ?_
                      refine mx_J.step (sn_233 117) (fun _ _ => rfl) ?_
                      exact c121 1 (by omega)
                · skip
                  refine mx_J.step (sn_233 82) (fun _ _ => rfl) ?_
                  refine mx_J.step (sn_233 83) (fun _ _ => rfl) ?_
                  refine JgetR (g := 27) (b := 70) hx19 (show mx_Sn _ _ 84 (mx_getf 12 27 87) from sn_233 84) a56 s56 rfl rfl (hG19.prr 56 27 rfl) ?_
                  refine mx_J.step (sn_233 87) (fun _ _ => rfl) ?_
                  have b38 : 0 ≤ Z5 70 w15_4 ∧ Z5 70 w15_4 ≤ 1 := hG5.pr 70 w15_4
                  refine JzaldI (z := Z5 70 w15_4) hx19 (show mx_Sn _ _ 89 (mx_zald 90) from sn_233 89) a70 s70 (by omega) ((hf19 70 w15_4 rfl).trans ((hf16 70 w15_4 rfl).trans (hf13 70 w15_4 rfl))) ?_
                  have c98 : ∀ (k39_1 : Int), 0 ≤ k39_1 ∧ k39_1 ≤ 1 → mx_J (tB l D b0 ad Hb tau) mt_233 (d + 7) 98 [some (.ref 56), some (xI x0), some (xI z13), some (xI w15_3), some (xI w15_4), some (xI z19)] [xI k39_1, xI w15_3] h19 Post := by
                    intro k39_1 f39_0
                    refine JiaddN (show mx_Sn _ _ 98 (mx_iadd 99) from sn_233 98) (fun y40 hy40 hq40 => ?_)
                    refine mx_J.step (ls2 := [some (.ref 56), some (xI x0), some (xI z13), some (xI y40), some (xI w15_4), some (xI z19)]) (sn_233 99) (fun _ _ => rfl) ?_
                    refine mx_J.step (sn_233 100) (fun _ _ => rfl) ?_
                    exact c165 y40 (by omega)
                  refine Jif_eq (show mx_Sn _ _ 90 (mx_if_eq 97 93) from sn_233 90) (by omega) (fun q41 => ?_) (fun q41 => ?_)
                  · skip
                    refine JcI (z := 0) (show mx_Sn _ _ 97 (mx_const (.int 0) 98) from sn_233 97) rfl ?_
                    exact c98 0 (by omega)
                  · skip
                    refine JcI (z := 1) (show mx_Sn _ _ 93 (mx_const (.int 1) 94) from sn_233 93) rfl ?_
                    refine mx_J.step (sn_233 94) (fun _ _ => rfl) ?_
                    exact c98 1 (by omega)
          exact c60 (Int.toNat (385 - 0) + 1) 0 0 none Z13 h13 (by omega) (by omega) (by omega) hx13 hG13 fr_rf
        · skip
          refine mx_J.step (sn_233 38) (fun _ _ => rfl) ?_
          obtain ⟨z42, Z42, h42, hc42, hx42, hG42, hf42, b42⟩ := ct_231_56 (d := d + 6) (l := l) (D := D) (b0 := b0) (ad := ad) (Hb := Hb) (tau := tau) hx5 hG5 
          refine Jcv hx5 (show mx_Sn _ _ 39 (mx_callv 231 1 12 42) from sn_233 39) a56 s56 hc42 rfl rfl rfl ?_
          exact mx_J.ret (sn_233 42) (fun _ _ => rfl) (hP z42 Z42 h42 hx42 hG42 (fr_tr (M := [(56, 0), (56, 30), (56, 31), (62, (-1)), (64, (-1)), (65, (-1)), (67, (-1)), (68, (-1)), (69, (-1)), (70, (-1)), (71, (-1))]) (fr_tr (M := [(56, 0), (56, 30), (56, 31), (62, (-1)), (64, (-1)), (65, (-1)), (67, (-1)), (68, (-1)), (69, (-1)), (70, (-1)), (71, (-1))]) (fr_tr (M := [(56, 0), (56, 30), (56, 31), (62, (-1)), (64, (-1)), (65, (-1)), (67, (-1)), (68, (-1)), (69, (-1)), (70, (-1)), (71, (-1))]) fr_rf (fr_up hE1) (M1 := []) rfl rfl) (hf5) rfl rfl) (hf42) rfl rfl) (by omega))
      · skip
        refine mx_J.step (sn_233 24) (fun _ _ => rfl) ?_
        have b44 : 0 ≤ Z 56 18 ∧ Z 56 18 ≤ 385 := hG.pr 56 18
        refine JgetI (g := 18) (z := Z 56 18) hx1 (show mx_Sn _ _ 25 (mx_getf 12 18 28) from sn_233 25) a56 s56 rfl rfl (up_ni hE1 (by decide)) ?_
        exact mx_J.ret (sn_233 28) (fun _ _ => rfl) (hP (Z 56 18) Z1 h1 hx1 hG1 (fr_tr (M := [(56, 0), (56, 30), (56, 31), (62, (-1)), (64, (-1)), (65, (-1)), (67, (-1)), (68, (-1)), (69, (-1)), (70, (-1)), (71, (-1))]) fr_rf (fr_up hE1) (M1 := []) rfl rfl) (by omega))
    · skip
      refine JcI (z := (-2)) (show mx_Sn _ _ 17 (mx_const (.int (-2)) 19) from sn_233 17) rfl ?_
      exact mx_J.ret (sn_233 19) (fun _ _ => rfl) (hP (-2) Z1 h1 hx1 hG1 (fr_tr (M := [(56, 0), (56, 30), (56, 31), (62, (-1)), (64, (-1)), (65, (-1)), (67, (-1)), (68, (-1)), (69, (-1)), (70, (-1)), (71, (-1))]) fr_rf (fr_up hE1) (M1 := []) rfl rfl) (by omega))
theorem ct_233_56 {l : Launch} {D : va_G} {b0 : Nat} {ad : Nat → Nat} {Hb : Heap} {tau : Nat → Int64} {d n s : Nat} {S : Nat → xS} {Z : xZ} {h : mx_H} (hx : XH n s S Z h) (hG : GI n S Z)  {x0 : Int} (p0 : (-2147483648) ≤ x0 ∧ x0 ≤ 2147483647) : ∃ (z : Int) (Z' : xZ) (h' : mx_H), mx_Ca (tB l D b0 ad Hb tau) (d + 8) 233 [.ref 56, xI x0] h (some (xI z), h') ∧ XH n s S Z' h' ∧ GI n S Z' ∧ fr' [(56, 0), (56, 30), (56, 31), (62, (-1)), (64, (-1)), (65, (-1)), (67, (-1)), (68, (-1)), (69, (-1)), (70, (-1)), (71, (-1))] Z Z' ∧ ((-2147483648) ≤ z ∧ z ≤ 2147483647) := by
  obtain ⟨r, hca, z, Z', h', e, q⟩ := Jmt (B := tB l D b0 ad Hb tau) (M := mt_233) (mi := 233) (as := [.ref 56, xI x0]) (d := d + 7) (ls := [some (.ref 56), some (xI x0), none, none, none, none]) rfl rfl rfl rfl rfl rfl (cw_233_56 (l := l) (D := D) (b0 := b0) (ad := ad) (Hb := Hb) (tau := tau) (d := d) (Post := fun r => ∃ (z : Int) (Z' : xZ) (h' : mx_H), r = (some (xI z), h') ∧ XH n s S Z' h' ∧ GI n S Z' ∧ fr' [(56, 0), (56, 30), (56, 31), (62, (-1)), (64, (-1)), (65, (-1)), (67, (-1)), (68, (-1)), (69, (-1)), (70, (-1)), (71, (-1))] Z Z' ∧ ((-2147483648) ≤ z ∧ z ≤ 2147483647)) hx hG p0 (fun z Z' h' q1 q2 q3 q4 => ⟨z, Z', h', rfl, q1, q2, q3, q4⟩))
  subst e; exact ⟨z, Z', h', hca, q⟩
set_option maxRecDepth 100000 in
theorem cw_234_56 {l : Launch} {D : va_G} {b0 : Nat} {ad : Nat → Nat} {Hb : Heap} {tau : Nat → Int64} {d n s : Nat} {S : Nat → xS} {Z : xZ} {h : mx_H} {Post : mx_R → Prop} (hx : XH n s S Z h) (hG : GI n S Z)  {x0 : Int} (p0 : (-2147483648) ≤ x0 ∧ x0 ≤ 2147483647) (hP : ∀ (z : Int) (Z' : xZ) (h' : mx_H), XH n s S Z' h' → GI n S Z' → fr' [(56, 0), (62, (-1)), (64, (-1)), (65, (-1)), (67, (-1)), (71, (-1)), (72, (-1))] Z Z' → (-2147483648) ≤ z ∧ z ≤ 2147483647 → Post (some (xI z), h')) : mx_J (tB l D b0 ad Hb tau) mt_234 (d + 6) 0 [some (.ref 56), some (xI x0), none, none] [] h Post := by
    have a56 : 56 < n := lt83 (GI_n hG) rfl
    have s56 : S 56 = .inl (12, [0, 2, 2, 2, 2, 0, 0, 0, 0, 0, 0, 0, 0, 0, 0, 2, 2, 2, 0, 2, 2, 2, 0, 0, 2, 2, 2, 2, 2, 2, 0, 0, 2, 2, 2, 2, 2, 2, 2, 2, 2, 2]) := GI_s hG 56 rfl
    have a57 : 57 < n := lt83 (GI_n hG) rfl
    have s57 : S 57 = .inr (.int, 2886, 0) := GI_s hG 57 rfl
    have a67 : 67 < n := lt83 (GI_n hG) rfl
    have s67 : S 67 = .inr (.int, 385, 0) := GI_s hG 67 rfl
    have a71 : 71 < n := lt83 (GI_n hG) rfl
    have s71 : S 71 = .inr (.boolean, 385, 0) := GI_s hG 71 rfl
    have a72 : 72 < n := lt83 (GI_n hG) rfl
    have s72 : S 72 = .inr (.boolean, 385, 0) := GI_s hG 72 rfl
    refine mx_J.step (sn_234 0) (fun _ _ => rfl) ?_
    refine JcI (z := 0) (show mx_Sn _ _ 1 (mx_const (.int 0) 2) from sn_234 1) rfl ?_
    refine JputI (g := 0) hx (show mx_Sn _ _ 2 (mx_putf 1 12 0 (.int) 5) from sn_234 2) a56 s56 rfl rfl rfl rfl (fun Z1 h1 hx1 hE1 => ?_)
    have hG1 := GI_up hG hE1 (show (-2147483648) ≤ 0 ∧ 0 ≤ 2147483647 by omega) trivial rfl
    refine mx_J.step (sn_234 5) (fun _ _ => rfl) ?_
    refine Ji2l (show mx_Sn _ _ 6 (mx_i2l 7) from sn_234 6) (by omega) ?_
    refine JcL (z := 0) (show mx_Sn _ _ 7 (mx_const (.long 0) 8) from sn_234 7) rfl ?_
    refine JcL (z := 9) (show mx_Sn _ _ 8 (mx_const (.long 9) 11) from sn_234 8) rfl ?_
    obtain ⟨z2, hc2, b2⟩ := ct_154_ (d := d + 5) (l := l) (D := D) (b0 := b0) (ad := ad) (Hb := Hb) (tau := tau) hx1 hG1 (show (-9223372036854775808) ≤ x0 ∧ x0 ≤ 9223372036854775807 by omega) (show (-9223372036854775808) ≤ 0 ∧ 0 ≤ 9223372036854775807 by omega) (show (-9223372036854775808) ≤ 9 ∧ 9 ≤ 9223372036854775807 by omega)
    refine Jcs (show mx_Sn _ _ 11 (mx_calls 154 3 14) from sn_234 11) hc2 rfl rfl rfl ?_
    refine Jif_ne (show mx_Sn _ _ 14 (mx_if_ne 20 17) from sn_234 14) (by omega) (fun q3 => ?_) (fun q3 => ?_)
    · skip
      refine mx_J.step (sn_234 20) (fun _ _ => rfl) ?_
      have eq5 : Z1 56 18 = Z 56 18 := (up_ni hE1 (by decide))
      have b6 : 0 ≤ Z 56 18 ∧ Z 56 18 ≤ 385 := hG.pr 56 18
      obtain ⟨Z4, h4, hc4, hx4, hG4, hf4, b4⟩ := ct_226_56 (d := d + 0) (l := l) (D := D) (b0 := b0) (ad := ad) (Hb := Hb) (tau := tau) hx1 hG1 
      try rw [eq5] at b4
      refine Jcv0 hx1 (show mx_Sn _ _ 21 (mx_callv 226 1 12 24) from sn_234 21) a56 s56 hc4 rfl rfl rfl ?_
      refine JcI (z := 0) (show mx_Sn _ _ 24 (mx_const (.int 0) 25) from sn_234 24) rfl ?_
      refine mx_J.step (ls2 := [some (.ref 56), some (xI x0), some (xI 0), none]) (sn_234 25) (fun _ _ => rfl) ?_
      have c26 : ∀ (m7 : Nat) (w7_2 : Int) (Z8 : xZ) (h8 : mx_H), 385 - w7_2 < (m7 : Int) → 0 ≤ w7_2 ∧ w7_2 ≤ 385 → XH n s S Z8 h8 → GI n S Z8 → fr' [(71, (-1))] Z4 Z8 → mx_J (tB l D b0 ad Hb tau) mt_234 (d + 6) 26 [some (.ref 56), some (xI x0), some (xI w7_2), none] [] h8 Post := by
        intro m7
        induction m7 with
        | zero => intro w7_2 Z8 h8 q7 f7_0 hx8 hG8 hf8; exact absurd q7 (by omega)
        | succ m7 ih7 =>
          intro w7_2 Z8 h8 q7 f7_0 hx8 hG8 hf8
          refine mx_J.step (sn_234 26) (fun _ _ => rfl) ?_
          refine mx_J.step (sn_234 27) (fun _ _ => rfl) ?_
          refine JgetI (g := 18) (z := Z 56 18) hx8 (show mx_Sn _ _ 28 (mx_getf 12 18 31) from sn_234 28) a56 s56 rfl rfl ((hf8 56 18 rfl).trans ((hf4 56 18 rfl).trans (up_ni hE1 (by decide)))) ?_
          refine Jicmp_ge (show mx_Sn _ _ 31 (mx_icmp_ge 62 34) from sn_234 31) (by omega) (by omega) (fun q10 => ?_) (fun q10 => ?_)
          · skip
            refine JcI (z := 0) (show mx_Sn _ _ 62 (mx_const (.int 0) 63) from sn_234 62) rfl ?_
            refine mx_J.step (ls2 := [some (.ref 56), some (xI x0), some (xI 0), none]) (sn_234 63) (fun _ _ => rfl) ?_
            have c64 : ∀ (m11 : Nat) (w11_2 : Int) (u11_3 : Option Value) (Z12 : xZ) (h12 : mx_H), 9 - w11_2 < (m11 : Int) → 0 ≤ w11_2 ∧ w11_2 ≤ 9 → XH n s S Z12 h12 → GI n S Z12 → fr' [(71, (-1)), (72, (-1))] Z8 Z12 → mx_J (tB l D b0 ad Hb tau) mt_234 (d + 6) 64 [some (.ref 56), some (xI x0), some (xI w11_2), u11_3] [] h12 Post := by
              intro m11
              induction m11 with
              | zero => intro w11_2 u11_3 Z12 h12 q11 f11_0 hx12 hG12 hf12; exact absurd q11 (by omega)
              | succ m11 ih11 =>
                intro w11_2 u11_3 Z12 h12 q11 f11_0 hx12 hG12 hf12
                refine mx_J.step (sn_234 64) (fun _ _ => rfl) ?_
                refine mx_J.step (sn_234 65) (fun _ _ => rfl) ?_
                refine Jicmp_ge (show mx_Sn _ _ 66 (mx_icmp_ge 136 69) from sn_234 66) (by omega) (by omega) (fun q13 => ?_) (fun q13 => ?_)
                · skip
                  refine JcI (z := 0) (show mx_Sn _ _ 136 (mx_const (.int 0) 137) from sn_234 136) rfl ?_
                  refine mx_J.step (ls2 := [some (.ref 56), some (xI x0), some (xI 0), u11_3]) (sn_234 137) (fun _ _ => rfl) ?_
                  refine JcI (z := 0) (show mx_Sn _ _ 138 (mx_const (.int 0) 139) from sn_234 138) rfl ?_
                  refine mx_J.step (ls2 := [some (.ref 56), some (xI x0), some (xI 0), some (xI 0)]) (sn_234 139) (fun _ _ => rfl) ?_
                  have c140 : ∀ (m14 : Nat) (w14_2 : Int) (w14_3 : Int), 385 - w14_3 < (m14 : Int) → (-2147483648) ≤ w14_2 ∧ w14_2 ≤ 2147483647 → 0 ≤ w14_3 ∧ w14_3 ≤ 385 → mx_J (tB l D b0 ad Hb tau) mt_234 (d + 6) 140 [some (.ref 56), some (xI x0), some (xI w14_2), some (xI w14_3)] [] h12 Post := by
                    intro m14
                    induction m14 with
                    | zero => intro w14_2 w14_3 q14 f14_0 f14_1; exact absurd q14 (by omega)
                    | succ m14 ih14 =>
                      intro w14_2 w14_3 q14 f14_0 f14_1
                      refine mx_J.step (sn_234 140) (fun _ _ => rfl) ?_
                      refine mx_J.step (sn_234 141) (fun _ _ => rfl) ?_
                      refine JgetI (g := 18) (z := Z 56 18) hx12 (show mx_Sn _ _ 142 (mx_getf 12 18 145) from sn_234 142) a56 s56 rfl rfl ((hf12 56 18 rfl).trans ((hf8 56 18 rfl).trans ((hf4 56 18 rfl).trans (up_ni hE1 (by decide))))) ?_
                      refine Jicmp_ge (show mx_Sn _ _ 145 (mx_icmp_ge 171 148) from sn_234 145) (by omega) (by omega) (fun q16 => ?_) (fun q16 => ?_)
                      · skip
                        refine mx_J.step (sn_234 171) (fun _ _ => rfl) ?_
                        exact mx_J.ret (sn_234 172) (fun _ _ => rfl) (hP w14_2 Z12 h12 hx12 hG12 (fr_tr (M := [(56, 0), (62, (-1)), (64, (-1)), (65, (-1)), (67, (-1)), (71, (-1)), (72, (-1))]) (fr_tr (M := [(56, 0), (62, (-1)), (64, (-1)), (65, (-1)), (67, (-1)), (71, (-1)), (72, (-1))]) (fr_tr (M := [(56, 0), (62, (-1)), (64, (-1)), (65, (-1)), (67, (-1)), (71, (-1)), (72, (-1))]) (fr_tr (M := [(56, 0), (62, (-1)), (64, (-1)), (65, (-1)), (67, (-1)), (71, (-1)), (72, (-1))]) fr_rf (fr_up hE1) (M1 := []) rfl rfl) (hf4) rfl rfl) (hf8) rfl rfl) (hf12) rfl rfl) (by omega))
                      · skip
                        refine mx_J.step (sn_234 148) (fun _ _ => rfl) ?_
                        refine mx_J.step (sn_234 149) (fun _ _ => rfl) ?_
                        refine JgetR (g := 28) (b := 71) hx12 (show mx_Sn _ _ 150 (mx_getf 12 28 153) from sn_234 150) a56 s56 rfl rfl (hG12.prr 56 28 rfl) ?_
                        refine mx_J.step (sn_234 153) (fun _ _ => rfl) ?_
                        have b18 : 0 ≤ Z12 71 w14_3 ∧ Z12 71 w14_3 ≤ 1 := hG12.pr 71 w14_3
                        refine JzaldI (z := Z12 71 w14_3) hx12 (show mx_Sn _ _ 154 (mx_zald 155) from sn_234 154) a71 s71 (by omega) rfl ?_
                        have c163 : ∀ (k19_1 : Int), 0 ≤ k19_1 ∧ k19_1 ≤ 1 → mx_J (tB l D b0 ad Hb tau) mt_234 (d + 6) 163 [some (.ref 56), some (xI x0), some (xI w14_2), some (xI w14_3)] [xI k19_1, xI w14_2] h12 Post := by
                          intro k19_1 f19_0
                          refine JiaddN (show mx_Sn _ _ 163 (mx_iadd 164) from sn_234 163) (fun y20 hy20 hq20 => ?_)
                          refine mx_J.step (ls2 := [some (.ref 56), some (xI x0), some (xI y20), some (xI w14_3)]) (sn_234 164) (fun _ _ => rfl) ?_
                          refine Jiinc (z := w14_3) (cz := 1) (ls2 := [some (.ref 56), some (xI x0), some (xI y20), some (xI (w14_3 + 1))]) (show mx_Sn _ _ 165 (mx_iinc 3 1 168) from sn_234 165) rfl rfl rfl rfl ?_
                          refine mx_J.step (sn_234 168) (fun _ _ => rfl) ?_
                          exact ih14 y20 (w14_3 + 1) (by omega) (by omega) (by omega)
                        refine Jif_eq (show mx_Sn _ _ 155 (mx_if_eq 162 158) from sn_234 155) (by omega) (fun q21 => ?_) (fun q21 => ?_)
                        · skip
                          refine JcI (z := 0) (show mx_Sn _ _ 162 (mx_const (.int 0) 163) from sn_234 162) rfl ?_
                          exact c163 0 (by omega)
                        · skip
                          refine JcI (z := 1) (show mx_Sn _ _ 158 (mx_const (.int 1) 159) from sn_234 158) rfl ?_
                          refine mx_J.step (sn_234 159) (fun _ _ => rfl) ?_
                          exact c163 1 (by omega)
                  exact c140 (Int.toNat (385 - 0) + 1) 0 0 (by omega) (by omega) (by omega)
                · skip
                  refine JcI (z := 0) (show mx_Sn _ _ 69 (mx_const (.int 0) 70) from sn_234 69) rfl ?_
                  refine mx_J.step (ls2 := [some (.ref 56), some (xI x0), some (xI w11_2), some (xI 0)]) (sn_234 70) (fun _ _ => rfl) ?_
                  have c71 : ∀ (m22 : Nat) (w22_3 : Int) (Z23 : xZ) (h23 : mx_H), 385 - w22_3 < (m22 : Int) → 0 ≤ w22_3 ∧ w22_3 ≤ 385 → XH n s S Z23 h23 → GI n S Z23 → fr' [(72, (-1))] Z12 Z23 → mx_J (tB l D b0 ad Hb tau) mt_234 (d + 6) 71 [some (.ref 56), some (xI x0), some (xI w11_2), some (xI w22_3)] [] h23 Post := by
                    intro m22
                    induction m22 with
                    | zero => intro w22_3 Z23 h23 q22 f22_0 hx23 hG23 hf23; exact absurd q22 (by omega)
                    | succ m22 ih22 =>
                      intro w22_3 Z23 h23 q22 f22_0 hx23 hG23 hf23
                      refine mx_J.step (sn_234 71) (fun _ _ => rfl) ?_
                      refine mx_J.step (sn_234 72) (fun _ _ => rfl) ?_
                      refine JgetI (g := 18) (z := Z 56 18) hx23 (show mx_Sn _ _ 73 (mx_getf 12 18 76) from sn_234 73) a56 s56 rfl rfl ((hf23 56 18 rfl).trans ((hf12 56 18 rfl).trans ((hf8 56 18 rfl).trans ((hf4 56 18 rfl).trans (up_ni hE1 (by decide)))))) ?_
                      refine Jicmp_ge (show mx_Sn _ _ 76 (mx_icmp_ge 102 79) from sn_234 76) (by omega) (by omega) (fun q25 => ?_) (fun q25 => ?_)
                      · skip
                        refine JcI (z := 0) (show mx_Sn _ _ 102 (mx_const (.int 0) 103) from sn_234 102) rfl ?_
                        refine mx_J.step (ls2 := [some (.ref 56), some (xI x0), some (xI w11_2), some (xI 0)]) (sn_234 103) (fun _ _ => rfl) ?_
                        have c104 : ∀ (m26 : Nat) (w26_3 : Int) (Z27 : xZ) (h27 : mx_H), 385 - w26_3 < (m26 : Int) → 0 ≤ w26_3 ∧ w26_3 ≤ 385 → XH n s S Z27 h27 → GI n S Z27 → fr' [(71, (-1))] Z23 Z27 → mx_J (tB l D b0 ad Hb tau) mt_234 (d + 6) 104 [some (.ref 56), some (xI x0), some (xI w11_2), some (xI w26_3)] [] h27 Post := by
                          intro m26
                          induction m26 with
                          | zero => intro w26_3 Z27 h27 q26 f26_0 hx27 hG27 hf27; exact absurd q26 (by omega)
                          | succ m26 ih26 =>
                            intro w26_3 Z27 h27 q26 f26_0 hx27 hG27 hf27
                            refine mx_J.step (sn_234 104) (fun _ _ => rfl) ?_
                            refine mx_J.step (sn_234 105) (fun _ _ => rfl) ?_
                            refine JgetI (g := 18) (z := Z 56 18) hx27 (show mx_Sn _ _ 106 (mx_getf 12 18 109) from sn_234 106) a56 s56 rfl rfl ((hf27 56 18 rfl).trans ((hf23 56 18 rfl).trans ((hf12 56 18 rfl).trans ((hf8 56 18 rfl).trans ((hf4 56 18 rfl).trans (up_ni hE1 (by decide))))))) ?_
                            refine Jicmp_ge (show mx_Sn _ _ 109 (mx_icmp_ge 130 112) from sn_234 109) (by omega) (by omega) (fun q29 => ?_) (fun q29 => ?_)
                            · skip
                              refine Jiinc (z := w11_2) (cz := 1) (ls2 := [some (.ref 56), some (xI x0), some (xI (w11_2 + 1)), some (xI w26_3)]) (show mx_Sn _ _ 130 (mx_iinc 2 1 133) from sn_234 130) rfl rfl rfl rfl ?_
                              refine mx_J.step (sn_234 133) (fun _ _ => rfl) ?_
                              exact ih11 (w11_2 + 1) (some (xI w26_3)) Z27 h27 (by omega) (by omega) hx27 hG27 (fr_tr (M := [(71, (-1)), (72, (-1))]) (fr_tr (M := [(71, (-1)), (72, (-1))]) (fr_tr (M := [(71, (-1)), (72, (-1))]) fr_rf (hf12) (M1 := []) rfl rfl) (hf23) rfl rfl) (hf27) rfl rfl)
                            · skip
                              refine mx_J.step (sn_234 112) (fun _ _ => rfl) ?_
                              refine JgetR (g := 28) (b := 71) hx27 (show mx_Sn _ _ 113 (mx_getf 12 28 116) from sn_234 113) a56 s56 rfl rfl (hG27.prr 56 28 rfl) ?_
                              refine mx_J.step (sn_234 116) (fun _ _ => rfl) ?_
                              refine mx_J.step (sn_234 117) (fun _ _ => rfl) ?_
                              refine JgetR (g := 29) (b := 72) hx27 (show mx_Sn _ _ 118 (mx_getf 12 29 121) from sn_234 118) a56 s56 rfl rfl (hG27.prr 56 29 rfl) ?_
                              refine mx_J.step (sn_234 121) (fun _ _ => rfl) ?_
                              have b32 : 0 ≤ Z23 72 w26_3 ∧ Z23 72 w26_3 ≤ 1 := hG23.pr 72 w26_3
                              refine JzaldI (z := Z23 72 w26_3) hx27 (show mx_Sn _ _ 122 (mx_zald 123) from sn_234 122) a72 s72 (by omega) (hf27 72 w26_3 rfl) ?_
                              refine JzastI hx27 (show mx_Sn _ _ 123 (mx_zast 1 124) from sn_234 123) a71 s71 rfl (by omega) (by omega) (fun Z33 h33 hx33 hE33 => ?_)
                              have hG33 := GI_up hG27 hE33 (show 0 ≤ Z23 72 w26_3 ∧ Z23 72 w26_3 ≤ 1 by omega) trivial rfl
                              refine Jiinc (z := w26_3) (cz := 1) (ls2 := [some (.ref 56), some (xI x0), some (xI w11_2), some (xI (w26_3 + 1))]) (show mx_Sn _ _ 124 (mx_iinc 3 1 127) from sn_234 124) rfl rfl rfl rfl ?_
                              refine mx_J.step (sn_234 127) (fun _ _ => rfl) ?_
                              exact ih26 (w26_3 + 1) Z33 h33 (by omega) (by omega) hx33 hG33 (fr_tr (M := [(71, (-1))]) (fr_tr (M := [(71, (-1))]) fr_rf (hf27) (M1 := []) rfl rfl) (fr_ua hE33) rfl rfl)
                        exact c104 (Int.toNat (385 - 0) + 1) 0 Z23 h23 (by omega) (by omega) hx23 hG23 fr_rf
                      · skip
                        refine mx_J.step (sn_234 79) (fun _ _ => rfl) ?_
                        refine JgetR (g := 29) (b := 72) hx23 (show mx_Sn _ _ 80 (mx_getf 12 29 83) from sn_234 80) a56 s56 rfl rfl (hG23.prr 56 29 rfl) ?_
                        refine mx_J.step (sn_234 83) (fun _ _ => rfl) ?_
                        refine mx_J.step (sn_234 84) (fun _ _ => rfl) ?_
                        refine JgetR (g := 28) (b := 71) hx23 (show mx_Sn _ _ 85 (mx_getf 12 28 88) from sn_234 85) a56 s56 rfl rfl (hG23.prr 56 28 rfl) ?_
                        refine mx_J.step (sn_234 88) (fun _ _ => rfl) ?_
                        refine JgetR (g := 24) (b := 67) hx23 (show mx_Sn _ _ 89 (mx_getf 12 24 92) from sn_234 89) a56 s56 rfl rfl (hG23.prr 56 24 rfl) ?_
                        refine mx_J.step (sn_234 92) (fun _ _ => rfl) ?_
                        have b37 : 0 ≤ Z4 67 w22_3 ∧ Z4 67 w22_3 ≤ 384 := hG4.pr 67 w22_3
                        refine JialdI (z := Z4 67 w22_3) hx23 (show mx_Sn _ _ 93 (mx_iald 94) from sn_234 93) a67 s67 (by omega) ((hf23 67 w22_3 rfl).trans ((hf12 67 w22_3 rfl).trans (hf8 67 w22_3 rfl))) ?_
                        have b38 : 0 ≤ Z12 71 (Z4 67 w22_3) ∧ Z12 71 (Z4 67 w22_3) ≤ 1 := hG12.pr 71 (Z4 67 w22_3)
                        refine JzaldI (z := Z12 71 (Z4 67 w22_3)) hx23 (show mx_Sn _ _ 94 (mx_zald 95) from sn_234 94) a71 s71 (by omega) (hf23 71 (Z4 67 w22_3) rfl) ?_
                        refine JzastI hx23 (show mx_Sn _ _ 95 (mx_zast 1 96) from sn_234 95) a72 s72 rfl (by omega) (by omega) (fun Z39 h39 hx39 hE39 => ?_)
                        have hG39 := GI_up hG23 hE39 (show 0 ≤ Z12 71 (Z4 67 w22_3) ∧ Z12 71 (Z4 67 w22_3) ≤ 1 by omega) trivial rfl
                        refine Jiinc (z := w22_3) (cz := 1) (ls2 := [some (.ref 56), some (xI x0), some (xI w11_2), some (xI (w22_3 + 1))]) (show mx_Sn _ _ 96 (mx_iinc 3 1 99) from sn_234 96) rfl rfl rfl rfl ?_
                        refine mx_J.step (sn_234 99) (fun _ _ => rfl) ?_
                        exact ih22 (w22_3 + 1) Z39 h39 (by omega) (by omega) hx39 hG39 (fr_tr (M := [(72, (-1))]) (fr_tr (M := [(72, (-1))]) fr_rf (hf23) (M1 := []) rfl rfl) (fr_ua hE39) rfl rfl)
                  exact c71 (Int.toNat (385 - 0) + 1) 0 Z12 h12 (by omega) (by omega) hx12 hG12 fr_rf
            exact c64 (Int.toNat (9 - 0) + 1) 0 none Z8 h8 (by omega) (by omega) hx8 hG8 fr_rf
          · skip
            refine mx_J.step (sn_234 34) (fun _ _ => rfl) ?_
            refine JgetR (g := 28) (b := 71) hx8 (show mx_Sn _ _ 35 (mx_getf 12 28 38) from sn_234 35) a56 s56 rfl rfl (hG8.prr 56 28 rfl) ?_
            refine mx_J.step (sn_234 38) (fun _ _ => rfl) ?_
            refine mx_J.step (sn_234 39) (fun _ _ => rfl) ?_
            refine mx_J.step (sn_234 40) (fun _ _ => rfl) ?_
            refine JgetR (g := 1) (b := 57) hx8 (show mx_Sn _ _ 41 (mx_getf 12 1 44) from sn_234 41) a56 s56 rfl rfl (hG8.prr 56 1 rfl) ?_
            refine JcI (z := 27) (show mx_Sn _ _ 44 (mx_const (.int 27) 46) from sn_234 44) rfl ?_
            have b42 := GI_st hG 27
            have b43 : 0 ≤ Z 57 27 ∧ Z 57 27 ≤ 384 := by have hq := GI_ex hG 57 27; replace hq : f57 (27 % 962) (Z 57 27) := hq; unfold f57 at hq; omega
            have b44 : (-2147483648) ≤ Z 57 27 ∧ Z 57 27 ≤ 2147483647 := hG.pr 57 27
            refine JialdI (z := Z 57 27) hx8 (show mx_Sn _ _ 46 (mx_iald 47) from sn_234 46) a57 s57 (by omega) ((hf8 57 27 rfl).trans ((hf4 57 27 rfl).trans (up_nk hE1 rfl))) ?_
            have c55 : ∀ (k45_2 : Int), 0 ≤ k45_2 ∧ k45_2 ≤ 1 → mx_J (tB l D b0 ad Hb tau) mt_234 (d + 6) 55 [some (.ref 56), some (xI x0), some (xI w7_2), none] [xI k45_2, xI w7_2, .ref 71] h8 Post := by
              intro k45_2 f45_0
              refine JzastI hx8 (show mx_Sn _ _ 55 (mx_zast 1 56) from sn_234 55) a71 s71 rfl (by omega) (by omega) (fun Z46 h46 hx46 hE46 => ?_)
              have hG46 := GI_up hG8 hE46 (show 0 ≤ k45_2 ∧ k45_2 ≤ 1 by omega) trivial rfl
              refine Jiinc (z := w7_2) (cz := 1) (ls2 := [some (.ref 56), some (xI x0), some (xI (w7_2 + 1)), none]) (show mx_Sn _ _ 56 (mx_iinc 2 1 59) from sn_234 56) rfl rfl rfl rfl ?_
              refine mx_J.step (sn_234 59) (fun _ _ => rfl) ?_
              exact ih7 (w7_2 + 1) Z46 h46 (by omega) (by omega) hx46 hG46 (fr_tr (M := [(71, (-1))]) (fr_tr (M := [(71, (-1))]) fr_rf (hf8) (M1 := []) rfl rfl) (fr_ua hE46) rfl rfl)
            refine Jicmp_ne (show mx_Sn _ _ 47 (mx_icmp_ne 54 50) from sn_234 47) (by omega) (by omega) (fun q47 => ?_) (fun q47 => ?_)
            · skip
              refine JcI (z := 0) (show mx_Sn _ _ 54 (mx_const (.int 0) 55) from sn_234 54) rfl ?_
              exact c55 0 (by omega)
            · skip
              refine JcI (z := 1) (show mx_Sn _ _ 50 (mx_const (.int 1) 51) from sn_234 50) rfl ?_
              refine mx_J.step (sn_234 51) (fun _ _ => rfl) ?_
              exact c55 1 (by omega)
      exact c26 (Int.toNat (385 - 0) + 1) 0 Z4 h4 (by omega) (by omega) hx4 hG4 fr_rf
    · skip
      refine JcI (z := (-3)) (show mx_Sn _ _ 17 (mx_const (.int (-3)) 19) from sn_234 17) rfl ?_
      exact mx_J.ret (sn_234 19) (fun _ _ => rfl) (hP (-3) Z1 h1 hx1 hG1 (fr_tr (M := [(56, 0), (62, (-1)), (64, (-1)), (65, (-1)), (67, (-1)), (71, (-1)), (72, (-1))]) fr_rf (fr_up hE1) (M1 := []) rfl rfl) (by omega))
theorem ct_234_56 {l : Launch} {D : va_G} {b0 : Nat} {ad : Nat → Nat} {Hb : Heap} {tau : Nat → Int64} {d n s : Nat} {S : Nat → xS} {Z : xZ} {h : mx_H} (hx : XH n s S Z h) (hG : GI n S Z)  {x0 : Int} (p0 : (-2147483648) ≤ x0 ∧ x0 ≤ 2147483647) : ∃ (z : Int) (Z' : xZ) (h' : mx_H), mx_Ca (tB l D b0 ad Hb tau) (d + 7) 234 [.ref 56, xI x0] h (some (xI z), h') ∧ XH n s S Z' h' ∧ GI n S Z' ∧ fr' [(56, 0), (62, (-1)), (64, (-1)), (65, (-1)), (67, (-1)), (71, (-1)), (72, (-1))] Z Z' ∧ ((-2147483648) ≤ z ∧ z ≤ 2147483647) := by
  obtain ⟨r, hca, z, Z', h', e, q⟩ := Jmt (B := tB l D b0 ad Hb tau) (M := mt_234) (mi := 234) (as := [.ref 56, xI x0]) (d := d + 6) (ls := [some (.ref 56), some (xI x0), none, none]) rfl rfl rfl rfl rfl rfl (cw_234_56 (l := l) (D := D) (b0 := b0) (ad := ad) (Hb := Hb) (tau := tau) (d := d) (Post := fun r => ∃ (z : Int) (Z' : xZ) (h' : mx_H), r = (some (xI z), h') ∧ XH n s S Z' h' ∧ GI n S Z' ∧ fr' [(56, 0), (62, (-1)), (64, (-1)), (65, (-1)), (67, (-1)), (71, (-1)), (72, (-1))] Z Z' ∧ ((-2147483648) ≤ z ∧ z ≤ 2147483647)) hx hG p0 (fun z Z' h' q1 q2 q3 q4 => ⟨z, Z', h', rfl, q1, q2, q3, q4⟩))
  subst e; exact ⟨z, Z', h', hca, q⟩
set_option maxRecDepth 100000 in
theorem cw_235_56 {l : Launch} {D : va_G} {b0 : Nat} {ad : Nat → Nat} {Hb : Heap} {tau : Nat → Int64} {d n s : Nat} {S : Nat → xS} {Z : xZ} {h : mx_H} {Post : mx_R → Prop} (hx : XH n s S Z h) (hG : GI n S Z)   (hP : ∀ (Z' : xZ) (h' : mx_H), XH n s S Z' h' → GI n S Z' → fr' [(62, (-1)), (64, (-1)), (65, (-1)), (73, (-1))] Z Z' → (ai 73 Z' (19 * Z 56 18) (-1) (Z 56 18 - 1) = 1) → Post (none, h')) : mx_J (tB l D b0 ad Hb tau) mt_235 (d + 5) 0 [some (.ref 56), none, none] [] h Post := by
    have a56 : 56 < n := lt83 (GI_n hG) rfl
    have s56 : S 56 = .inl (12, [0, 2, 2, 2, 2, 0, 0, 0, 0, 0, 0, 0, 0, 0, 0, 2, 2, 2, 0, 2, 2, 2, 0, 0, 2, 2, 2, 2, 2, 2, 0, 0, 2, 2, 2, 2, 2, 2, 2, 2, 2, 2]) := GI_s hG 56 rfl
    have a57 : 57 < n := lt83 (GI_n hG) rfl
    have s57 : S 57 = .inr (.int, 2886, 0) := GI_s hG 57 rfl
    have a73 : 73 < n := lt83 (GI_n hG) rfl
    have s73 : S 73 = .inr (.int, 7315, 0) := GI_s hG 73 rfl
    refine JcI (z := 0) (show mx_Sn _ _ 0 (mx_const (.int 0) 1) from sn_235 0) rfl ?_
    refine mx_J.step (ls2 := [some (.ref 56), some (xI 0), none]) (sn_235 1) (fun _ _ => rfl) ?_
    have c2 : ∀ (m1 : Nat) (w1_1 : Int) (u1_2 : Option Value) (Z2 : xZ) (h2 : mx_H), 385 - w1_1 < (m1 : Int) → 0 ≤ w1_1 ∧ w1_1 ≤ 385 → ai 73 Z2 (19 * w1_1) (-1) (Z 56 18 - 1) = 1 → XH n s S Z2 h2 → GI n S Z2 → fr' [(62, (-1)), (64, (-1)), (65, (-1)), (73, (-1))] Z Z2 → mx_J (tB l D b0 ad Hb tau) mt_235 (d + 5) 2 [some (.ref 56), some (xI w1_1), u1_2] [] h2 Post := by
      intro m1
      induction m1 with
      | zero => intro w1_1 u1_2 Z2 h2 q1 f1_0 f1_1 hx2 hG2 hf2; exact absurd q1 (by omega)
      | succ m1 ih1 =>
        intro w1_1 u1_2 Z2 h2 q1 f1_0 f1_1 hx2 hG2 hf2
        refine mx_J.step (sn_235 2) (fun _ _ => rfl) ?_
        refine mx_J.step (sn_235 3) (fun _ _ => rfl) ?_
        have b4 : 0 ≤ Z 56 18 ∧ Z 56 18 ≤ 385 := hG.pr 56 18
        refine JgetI (g := 18) (z := Z 56 18) hx2 (show mx_Sn _ _ 4 (mx_getf 12 18 7) from sn_235 4) a56 s56 rfl rfl (hf2 56 18 rfl) ?_
        refine Jicmp_ge (show mx_Sn _ _ 7 (mx_icmp_ge 67 10) from sn_235 7) (by omega) (by omega) (fun q5 => ?_) (fun q5 => ?_)
        · skip
          have af : ai 73 Z2 (19 * Z 56 18) (-1) (Z 56 18 - 1) = 1 := ai_m (len := 19 * w1_1) (by assumption) (by omega) (by omega) (by omega)
          have eq6 : Z2 56 18 = Z 56 18 := (hf2 56 18 rfl)
          exact mx_J.ret (sn_235 67) (fun _ _ => rfl) (hP Z2 h2 hx2 hG2 (fr_tr (M := [(62, (-1)), (64, (-1)), (65, (-1)), (73, (-1))]) fr_rf (hf2) (M1 := []) rfl rfl) (by omega))
        · skip
          refine JcI (z := 0) (show mx_Sn _ _ 10 (mx_const (.int 0) 11) from sn_235 10) rfl ?_
          refine mx_J.step (ls2 := [some (.ref 56), some (xI w1_1), some (xI 0)]) (sn_235 11) (fun _ _ => rfl) ?_
          have c12 : ∀ (m7 : Nat) (w7_2 : Int) (Z8 : xZ) (h8 : mx_H), 19 - w7_2 < (m7 : Int) → 0 ≤ w7_2 ∧ w7_2 ≤ 19 → ai 73 Z8 (19 * w1_1 + w7_2) (-1) (Z 56 18 - 1) = 1 → XH n s S Z8 h8 → GI n S Z8 → fr' [(62, (-1)), (64, (-1)), (65, (-1)), (73, (-1))] Z2 Z8 → mx_J (tB l D b0 ad Hb tau) mt_235 (d + 5) 12 [some (.ref 56), some (xI w1_1), some (xI w7_2)] [] h8 Post := by
            intro m7
            induction m7 with
            | zero => intro w7_2 Z8 h8 q7 f7_0 f7_1 hx8 hG8 hf8; exact absurd q7 (by omega)
            | succ m7 ih7 =>
              intro w7_2 Z8 h8 q7 f7_0 f7_1 hx8 hG8 hf8
              refine mx_J.step (sn_235 12) (fun _ _ => rfl) ?_
              refine JcI (z := 19) (show mx_Sn _ _ 13 (mx_const (.int 19) 15) from sn_235 13) rfl ?_
              refine Jicmp_ge (show mx_Sn _ _ 15 (mx_icmp_ge 61 18) from sn_235 15) (by omega) (by omega) (fun q9 => ?_) (fun q9 => ?_)
              · skip
                have as2 : ai 73 Z8 (19 * (w1_1 + 1)) (-1) (Z 56 18 - 1) = 1 := ai_m (len := 19 * w1_1 + w7_2) (by assumption) (by omega) (by omega) (by omega)
                refine Jiinc (z := w1_1) (cz := 1) (ls2 := [some (.ref 56), some (xI (w1_1 + 1)), some (xI w7_2)]) (show mx_Sn _ _ 61 (mx_iinc 1 1 64) from sn_235 61) rfl rfl rfl rfl ?_
                refine mx_J.step (sn_235 64) (fun _ _ => rfl) ?_
                exact ih1 (w1_1 + 1) (some (xI w7_2)) Z8 h8 (by omega) (by omega) (by first | exact ai_0 (by omega) | assumption) hx8 hG8 (fr_tr (M := [(62, (-1)), (64, (-1)), (65, (-1)), (73, (-1))]) (fr_tr (M := [(62, (-1)), (64, (-1)), (65, (-1)), (73, (-1))]) fr_rf (hf2) (M1 := []) rfl rfl) (hf8) rfl rfl)
              · skip
                refine mx_J.step (sn_235 18) (fun _ _ => rfl) ?_
                refine JgetR (g := 32) (b := 73) hx8 (show mx_Sn _ _ 19 (mx_getf 12 32 22) from sn_235 19) a56 s56 rfl rfl (hG8.prr 56 32 rfl) ?_
                refine JcI (z := 19) (show mx_Sn _ _ 22 (mx_const (.int 19) 24) from sn_235 22) rfl ?_
                refine mx_J.step (sn_235 24) (fun _ _ => rfl) ?_
                refine Jimul (show mx_Sn _ _ 25 (mx_imul 26) from sn_235 25) ?_
                refine mx_J.step (sn_235 26) (fun _ _ => rfl) ?_
                refine Jiadd (show mx_Sn _ _ 27 (mx_iadd 28) from sn_235 27) ?_
                refine mx_J.step (sn_235 28) (fun _ _ => rfl) ?_
                refine mx_J.step (sn_235 29) (fun _ _ => rfl) ?_
                refine mx_J.step (sn_235 30) (fun _ _ => rfl) ?_
                have eq12 : hv Z8 w1_1 w7_2 = hv Z w1_1 w7_2 := ((hv_c (fun i => hf8 61 i rfl)).trans (hv_c (fun i => hf2 61 i rfl)))
                obtain ⟨z11, hc11, b11⟩ := ct_197_56 (d := d + 2) (l := l) (D := D) (b0 := b0) (ad := ad) (Hb := Hb) (tau := tau) hx8 hG8 (show 0 ≤ w1_1 ∧ w1_1 ≤ 384 by omega) (show (-2147483648) ≤ w7_2 ∧ w7_2 ≤ 2147483647 by omega)
                refine Jcv hx8 (show mx_Sn _ _ 31 (mx_callv 197 3 12 34) from sn_235 31) a56 s56 hc11 rfl rfl rfl ?_
                have c54 : ∀ (k13_2 : Int) (Z14 : xZ) (h14 : mx_H), (-1) ≤ k13_2 ∧ k13_2 ≤ 384 → k13_2 < Z 56 18 → XH n s S Z14 h14 → GI n S Z14 → fr' [(62, (-1)), (64, (-1)), (65, (-1))] Z8 Z14 → mx_J (tB l D b0 ad Hb tau) mt_235 (d + 5) 54 [some (.ref 56), some (xI w1_1), some (xI w7_2)] [xI k13_2, xI ((19 * w1_1) + w7_2), .ref 73] h14 Post := by
                  intro k13_2 Z14 h14 f13_0 f13_1 hx14 hG14 hf14
                  have eq15 : (ai 73) Z14 (19 * w1_1 + w7_2) (-1) (Z 56 18 - 1) = (ai 73) Z8 (19 * w1_1 + w7_2) (-1) (Z 56 18 - 1) := (ai_c (fun i => hf14 73 i rfl))
                  refine JiastI hx14 (show mx_Sn _ _ 54 (mx_iast 1 55) from sn_235 54) a73 s73 rfl (by omega) (fun Z16 h16 hx16 hE16 => ?_)
                  have hG16 := GI_up hG14 hE16 (show (-1) ≤ k13_2 ∧ k13_2 ≤ 384 by omega) trivial rfl
                  have as1 : ai 73 Z16 (19 * w1_1 + (w7_2 + 1)) (-1) (Z 56 18 - 1) = 1 := ai_s (Z := Z14) (len := 19 * w1_1 + w7_2) (by omega) hE16 rfl (by omega) (by omega)
                  refine Jiinc (z := w7_2) (cz := 1) (ls2 := [some (.ref 56), some (xI w1_1), some (xI (w7_2 + 1))]) (show mx_Sn _ _ 55 (mx_iinc 2 1 58) from sn_235 55) rfl rfl rfl rfl ?_
                  refine mx_J.step (sn_235 58) (fun _ _ => rfl) ?_
                  exact ih7 (w7_2 + 1) Z16 h16 (by omega) (by omega) (by first | assumption | exact ai_m (len := 19 * w1_1) (by assumption) (by omega) (by omega) (by omega)) hx16 hG16 (fr_tr (M := [(62, (-1)), (64, (-1)), (65, (-1)), (73, (-1))]) (fr_tr (M := [(62, (-1)), (64, (-1)), (65, (-1)), (73, (-1))]) (fr_tr (M := [(62, (-1)), (64, (-1)), (65, (-1)), (73, (-1))]) fr_rf (hf8) (M1 := []) rfl rfl) (hf14) rfl rfl) (fr_ua hE16) rfl rfl)
                refine Jif_eq (show mx_Sn _ _ 34 (mx_if_eq 53 37) from sn_235 34) (by omega) (fun q17 => ?_) (fun q17 => ?_)
                · skip
                  refine JcI (z := (-1)) (show mx_Sn _ _ 53 (mx_const (.int (-1)) 54) from sn_235 53) rfl ?_
                  exact c54 (-1) Z8 h8 (by omega) (by omega) hx8 hG8 fr_rf
                · skip
                  refine mx_J.step (sn_235 37) (fun _ _ => rfl) ?_
                  refine mx_J.step (sn_235 38) (fun _ _ => rfl) ?_
                  refine mx_J.step (sn_235 39) (fun _ _ => rfl) ?_
                  refine mx_J.step (sn_235 40) (fun _ _ => rfl) ?_
                  refine JgetR (g := 1) (b := 57) hx8 (show mx_Sn _ _ 41 (mx_getf 12 1 44) from sn_235 41) a56 s56 rfl rfl (hG8.prr 56 1 rfl) ?_
                  refine JcI (z := 28) (show mx_Sn _ _ 44 (mx_const (.int 28) 46) from sn_235 44) rfl ?_
                  have b19 : 0 ≤ Z 57 28 ∧ Z 57 28 ≤ 9 := by have hq := GI_ex hG 57 28; replace hq : f57 (28 % 962) (Z 57 28) := hq; unfold f57 at hq; omega
                  have b20 : (-2147483648) ≤ Z 57 28 ∧ Z 57 28 ≤ 2147483647 := hG.pr 57 28
                  refine JialdI (z := Z 57 28) hx8 (show mx_Sn _ _ 46 (mx_iald 47) from sn_235 46) a57 s57 (by omega) ((hf8 57 28 rfl).trans (hf2 57 28 rfl)) ?_
                  have eq22 : Z8 56 18 = Z 56 18 := ((hf8 56 18 rfl).trans (hf2 56 18 rfl))
                  obtain ⟨z21, Z21, h21, hc21, hx21, hG21, hf21, b21⟩ := ct_198_56 (d := d + 0) (l := l) (D := D) (b0 := b0) (ad := ad) (Hb := Hb) (tau := tau) hx8 hG8 (show 0 ≤ w1_1 ∧ w1_1 ≤ 384 by omega) (show (-2147483648) ≤ w7_2 ∧ w7_2 ≤ 2147483647 by omega) (show 0 ≤ Z 57 28 ∧ Z 57 28 ≤ 9 by omega)
                  try rw [eq22] at b21
                  refine Jcv hx8 (show mx_Sn _ _ 47 (mx_callv 198 4 12 50) from sn_235 47) a56 s56 hc21 rfl rfl rfl ?_
                  refine mx_J.step (sn_235 50) (fun _ _ => rfl) ?_
                  exact c54 z21 Z21 h21 (by omega) (by omega) hx21 hG21 (fr_tr (M := [(62, (-1)), (64, (-1)), (65, (-1))]) fr_rf (hf21) (M1 := []) rfl rfl)
          exact c12 (Int.toNat (19 - 0) + 1) 0 Z2 h2 (by omega) (by omega) (by first | assumption | exact ai_m (len := 19 * w1_1) (by assumption) (by omega) (by omega) (by omega)) hx2 hG2 fr_rf
    exact c2 (Int.toNat (385 - 0) + 1) 0 none Z h (by omega) (by omega) (by first | exact ai_0 (by omega) | assumption) hx hG fr_rf
theorem ct_235_56 {l : Launch} {D : va_G} {b0 : Nat} {ad : Nat → Nat} {Hb : Heap} {tau : Nat → Int64} {d n s : Nat} {S : Nat → xS} {Z : xZ} {h : mx_H} (hx : XH n s S Z h) (hG : GI n S Z)   : ∃ (Z' : xZ) (h' : mx_H), mx_Ca (tB l D b0 ad Hb tau) (d + 6) 235 [.ref 56] h (none, h') ∧ XH n s S Z' h' ∧ GI n S Z' ∧ fr' [(62, (-1)), (64, (-1)), (65, (-1)), (73, (-1))] Z Z' ∧ ((ai 73 Z' (19 * Z 56 18) (-1) (Z 56 18 - 1) = 1)) := by
  obtain ⟨r, hca, Z', h', e, q⟩ := Jmt (B := tB l D b0 ad Hb tau) (M := mt_235) (mi := 235) (as := [.ref 56]) (d := d + 5) (ls := [some (.ref 56), none, none]) rfl rfl rfl rfl rfl rfl (cw_235_56 (l := l) (D := D) (b0 := b0) (ad := ad) (Hb := Hb) (tau := tau) (d := d) (Post := fun r => ∃ (Z' : xZ) (h' : mx_H), r = (none, h') ∧ XH n s S Z' h' ∧ GI n S Z' ∧ fr' [(62, (-1)), (64, (-1)), (65, (-1)), (73, (-1))] Z Z' ∧ ((ai 73 Z' (19 * Z 56 18) (-1) (Z 56 18 - 1) = 1))) hx hG  (fun Z' h' q1 q2 q3 q4 => ⟨Z', h', rfl, q1, q2, q3, q4⟩))
  subst e; exact ⟨Z', h', hca, q⟩
set_option maxRecDepth 100000 in
theorem cw_237_56 {l : Launch} {D : va_G} {b0 : Nat} {ad : Nat → Nat} {Hb : Heap} {tau : Nat → Int64} {d n s : Nat} {S : Nat → xS} {Z : xZ} {h : mx_H} {Post : mx_R → Prop} (hx : XH n s S Z h) (hG : GI n S Z)  {x0 : Int} (p0 : 0 ≤ x0 ∧ x0 ≤ 384) (hP : ∀ (z : Int) (Z' : xZ) (h' : mx_H), XH n s S Z' h' → GI n S Z' → fr' [(62, (-1)), (64, (-1)), (65, (-1)), (73, (-1)), (74, (-1))] Z Z' → 0 ≤ z ∧ z ≤ 268435456 ∧ (fu Z' (Z 56 18) = 1 ∧ fl' Z' (Z 56 18) 0 = 1 ∧ ai 73 Z' (19 * Z 56 18) (-1) (Z 56 18 - 1) = 1) → Post (some (xI z), h')) : mx_J (tB l D b0 ad Hb tau) mt_237 (d + 6) 0 [some (.ref 56), some (xI x0), none, none, none] [] h Post := by
    have a56 : 56 < n := lt83 (GI_n hG) rfl
    have s56 : S 56 = .inl (12, [0, 2, 2, 2, 2, 0, 0, 0, 0, 0, 0, 0, 0, 0, 0, 2, 2, 2, 0, 2, 2, 2, 0, 0, 2, 2, 2, 2, 2, 2, 0, 0, 2, 2, 2, 2, 2, 2, 2, 2, 2, 2]) := GI_s hG 56 rfl
    have a57 : 57 < n := lt83 (GI_n hG) rfl
    have s57 : S 57 = .inr (.int, 2886, 0) := GI_s hG 57 rfl
    have a74 : 74 < n := lt83 (GI_n hG) rfl
    have s74 : S 74 = .inr (.int, 385, 0) := GI_s hG 74 rfl
    refine mx_J.step (sn_237 0) (fun _ _ => rfl) ?_
    have b2 : 0 ≤ Z 56 18 ∧ Z 56 18 ≤ 385 := hG.pr 56 18
    obtain ⟨Z1, h1, hc1, hx1, hG1, hf1, b1⟩ := ct_235_56 (d := d + 0) (l := l) (D := D) (b0 := b0) (ad := ad) (Hb := Hb) (tau := tau) hx hG 
    refine Jcv0 hx (show mx_Sn _ _ 1 (mx_callv 235 1 12 4) from sn_237 1) a56 s56 hc1 rfl rfl rfl ?_
    refine JcI (z := 0) (show mx_Sn _ _ 4 (mx_const (.int 0) 5) from sn_237 4) rfl ?_
    refine mx_J.step (ls2 := [some (.ref 56), some (xI x0), some (xI 0), none, none]) (sn_237 5) (fun _ _ => rfl) ?_
    have c6 : ∀ (m3 : Nat) (w3_2 : Int) (Z4 : xZ) (h4 : mx_H), 385 - w3_2 < (m3 : Int) → 0 ≤ w3_2 ∧ w3_2 ≤ 385 → (∀ i, 0 ≤ i → i < w3_2 → (Z4 74 i = 0 ∨ Z4 74 i = 268435456)) → XH n s S Z4 h4 → GI n S Z4 → fr' [(74, (-1))] Z1 Z4 → mx_J (tB l D b0 ad Hb tau) mt_237 (d + 6) 6 [some (.ref 56), some (xI x0), some (xI w3_2), none, none] [] h4 Post := by
      intro m3
      induction m3 with
      | zero => intro w3_2 Z4 h4 q3 f3_0 f3_1 hx4 hG4 hf4; exact absurd q3 (by omega)
      | succ m3 ih3 =>
        intro w3_2 Z4 h4 q3 f3_0 f3_1 hx4 hG4 hf4
        refine mx_J.step (sn_237 6) (fun _ _ => rfl) ?_
        refine mx_J.step (sn_237 7) (fun _ _ => rfl) ?_
        refine JgetI (g := 18) (z := Z 56 18) hx4 (show mx_Sn _ _ 8 (mx_getf 12 18 11) from sn_237 8) a56 s56 rfl rfl ((hf4 56 18 rfl).trans (hf1 56 18 rfl)) ?_
        refine Jicmp_ge (show mx_Sn _ _ 11 (mx_icmp_ge 38 14) from sn_237 11) (by omega) (by omega) (fun q6 => ?_) (fun q6 => ?_)
        · skip
          have fz : fu Z4 (Z 56 18) = 1 := fu_0 (len := w3_2) (by omega) (by assumption)
          refine JcI (z := 1) (show mx_Sn _ _ 38 (mx_const (.int 1) 39) from sn_237 38) rfl ?_
          refine mx_J.step (ls2 := [some (.ref 56), some (xI x0), some (xI 1), none, none]) (sn_237 39) (fun _ _ => rfl) ?_
          have c40 : ∀ (m7 : Nat) (w7_2 : Int) (u7_3 : Option Value) (u7_4 : Option Value) (Z8 : xZ) (h8 : mx_H), (((sn 74 Z8 (Z 56 18) + w7_2).toNat : Nat) : Int) < (m7 : Int) → 0 ≤ w7_2 ∧ w7_2 ≤ 1 → fu Z8 (Z 56 18) = 1 → (w7_2 = 0 → fl' Z8 (Z 56 18) 0 = 1) → XH n s S Z8 h8 → GI n S Z8 → fr' [(74, (-1))] Z4 Z8 → mx_J (tB l D b0 ad Hb tau) mt_237 (d + 6) 40 [some (.ref 56), some (xI x0), some (xI w7_2), u7_3, u7_4] [] h8 Post := by
            intro m7
            induction m7 with
            | zero => intro w7_2 u7_3 u7_4 Z8 h8 q7 f7_0 f7_1 f7_2 hx8 hG8 hf8; exact absurd q7 (by omega)
            | succ m7 ih7 =>
              intro w7_2 u7_3 u7_4 Z8 h8 q7 f7_0 f7_1 f7_2 hx8 hG8 hf8
              have sp := sn_p (Z := Z8) (c := 74) (m := Z 56 18) (fun i => (hG8.pr 74 i).1)
              refine mx_J.step (sn_237 40) (fun _ _ => rfl) ?_
              refine Jif_eq (show mx_Sn _ _ 41 (mx_if_eq 115 44) from sn_237 41) (by omega) (fun q9 => ?_) (fun q9 => ?_)
              · skip
                refine mx_J.step (sn_237 115) (fun _ _ => rfl) ?_
                refine JgetR (g := 33) (b := 74) hx8 (show mx_Sn _ _ 116 (mx_getf 12 33 119) from sn_237 116) a56 s56 rfl rfl (hG8.prr 56 33 rfl) ?_
                refine mx_J.step (sn_237 119) (fun _ _ => rfl) ?_
                refine JgetR (g := 1) (b := 57) hx8 (show mx_Sn _ _ 120 (mx_getf 12 1 123) from sn_237 120) a56 s56 rfl rfl (hG8.prr 56 1 rfl) ?_
                refine JcI (z := 27) (show mx_Sn _ _ 123 (mx_const (.int 27) 125) from sn_237 123) rfl ?_
                have b12 := GI_st hG 27
                have b13 : 0 ≤ Z 57 27 ∧ Z 57 27 ≤ 384 := by have hq := GI_ex hG 57 27; replace hq : f57 (27 % 962) (Z 57 27) := hq; unfold f57 at hq; omega
                have b14 : (-2147483648) ≤ Z 57 27 ∧ Z 57 27 ≤ 2147483647 := hG.pr 57 27
                refine JialdI (z := Z 57 27) hx8 (show mx_Sn _ _ 125 (mx_iald 126) from sn_237 125) a57 s57 (by omega) ((hf8 57 27 rfl).trans ((hf4 57 27 rfl).trans (hf1 57 27 rfl))) ?_
                have b15 : 0 ≤ Z8 74 (Z 57 27) ∧ Z8 74 (Z 57 27) ≤ 268435456 := hG8.pr 74 (Z 57 27)
                refine JialdI (z := Z8 74 (Z 57 27)) hx8 (show mx_Sn _ _ 126 (mx_iald 127) from sn_237 126) a74 s74 (by omega) rfl ?_
                have eq16 : (ai 73) Z8 (19 * Z 56 18) (-1) (Z 56 18 - 1) = (ai 73) Z1 (19 * Z 56 18) (-1) (Z 56 18 - 1) := ((ai_c (fun i => hf8 73 i rfl)).trans (ai_c (fun i => hf4 73 i rfl)))
                have eq17 : Z8 56 18 = Z 56 18 := ((hf8 56 18 rfl).trans ((hf4 56 18 rfl).trans (hf1 56 18 rfl)))
                exact mx_J.ret (sn_237 127) (fun _ _ => rfl) (hP (Z8 74 (Z 57 27)) Z8 h8 hx8 hG8 (fr_tr (M := [(62, (-1)), (64, (-1)), (65, (-1)), (73, (-1)), (74, (-1))]) (fr_tr (M := [(62, (-1)), (64, (-1)), (65, (-1)), (73, (-1)), (74, (-1))]) (fr_tr (M := [(62, (-1)), (64, (-1)), (65, (-1)), (73, (-1)), (74, (-1))]) fr_rf (hf1) (M1 := []) rfl rfl) (hf4) rfl rfl) (hf8) rfl rfl) (by omega))
              · skip
                refine JcI (z := 0) (show mx_Sn _ _ 44 (mx_const (.int 0) 45) from sn_237 44) rfl ?_
                refine mx_J.step (ls2 := [some (.ref 56), some (xI x0), some (xI 0), u7_3, u7_4]) (sn_237 45) (fun _ _ => rfl) ?_
                refine JcI (z := 0) (show mx_Sn _ _ 46 (mx_const (.int 0) 47) from sn_237 46) rfl ?_
                refine mx_J.step (ls2 := [some (.ref 56), some (xI x0), some (xI 0), some (xI 0), u7_4]) (sn_237 47) (fun _ _ => rfl) ?_
                have c48 : ∀ (m18 : Nat) (w18_2 : Int) (w18_3 : Int) (u18_4 : Option Value) (Z19 : xZ) (h19 : mx_H), 385 - w18_3 < (m18 : Int) → 0 ≤ w18_2 ∧ w18_2 ≤ 1 → 0 ≤ w18_3 ∧ w18_3 ≤ 385 → fu Z19 (Z 56 18) = 1 → (sn 74 Z19 (Z 56 18) ≤ sn 74 Z8 (Z 56 18) ∧ (w18_2 = 1 → sn 74 Z19 (Z 56 18) < sn 74 Z8 (Z 56 18))) → (w18_2 = 0 → fl' Z19 w18_3 0 = 1) → XH n s S Z19 h19 → GI n S Z19 → fr' [(74, (-1))] Z8 Z19 → mx_J (tB l D b0 ad Hb tau) mt_237 (d + 6) 48 [some (.ref 56), some (xI x0), some (xI w18_2), some (xI w18_3), u18_4] [] h19 Post := by
                  intro m18
                  induction m18 with
                  | zero => intro w18_2 w18_3 u18_4 Z19 h19 q18 f18_0 f18_1 f18_2 f18_3 f18_4 hx19 hG19 hf19; exact absurd q18 (by omega)
                  | succ m18 ih18 =>
                    intro w18_2 w18_3 u18_4 Z19 h19 q18 f18_0 f18_1 f18_2 f18_3 f18_4 hx19 hG19 hf19
                    refine mx_J.step (sn_237 48) (fun _ _ => rfl) ?_
                    refine mx_J.step (sn_237 49) (fun _ _ => rfl) ?_
                    refine JgetI (g := 18) (z := Z 56 18) hx19 (show mx_Sn _ _ 50 (mx_getf 12 18 53) from sn_237 50) a56 s56 rfl rfl ((hf19 56 18 rfl).trans ((hf8 56 18 rfl).trans ((hf4 56 18 rfl).trans (hf1 56 18 rfl)))) ?_
                    refine Jicmp_ge (show mx_Sn _ _ 53 (mx_icmp_ge 112 56) from sn_237 53) (by omega) (by omega) (fun q21 => ?_) (fun q21 => ?_)
                    · skip
                      have fm : w18_2 = 0 → fl' Z19 (Z 56 18) 0 = 1 := fun e => fl_m (s := w18_3) (d := 0) (by omega) (by omega) (by omega)
                      refine mx_J.step (sn_237 112) (fun _ _ => rfl) ?_
                      exact ih7 w18_2 (some (xI w18_3)) u18_4 Z19 h19 (by omega) (by omega) (by omega) (by omega) hx19 hG19 (fr_tr (M := [(74, (-1))]) (fr_tr (M := [(74, (-1))]) fr_rf (hf8) (M1 := []) rfl rfl) (hf19) rfl rfl)
                    · skip
                      refine JcI (z := 0) (show mx_Sn _ _ 56 (mx_const (.int 0) 57) from sn_237 56) rfl ?_
                      refine mx_J.step (ls2 := [some (.ref 56), some (xI x0), some (xI w18_2), some (xI w18_3), some (xI 0)]) (sn_237 57) (fun _ _ => rfl) ?_
                      have c59 : ∀ (m22 : Nat) (w22_2 : Int) (w22_4 : Int) (Z23 : xZ) (h23 : mx_H), 19 - w22_4 < (m22 : Int) → 0 ≤ w22_2 ∧ w22_2 ≤ 1 → 0 ≤ w22_4 ∧ w22_4 ≤ 19 → fu Z23 (Z 56 18) = 1 → (sn 74 Z23 (Z 56 18) ≤ sn 74 Z8 (Z 56 18) ∧ (w22_2 = 1 → sn 74 Z23 (Z 56 18) < sn 74 Z8 (Z 56 18))) → (w22_2 = 0 → fl' Z23 w18_3 w22_4 = 1) → XH n s S Z23 h23 → GI n S Z23 → fr' [(74, (-1))] Z19 Z23 → mx_J (tB l D b0 ad Hb tau) mt_237 (d + 6) 59 [some (.ref 56), some (xI x0), some (xI w22_2), some (xI w18_3), some (xI w22_4)] [] h23 Post := by
                        intro m22
                        induction m22 with
                        | zero => intro w22_2 w22_4 Z23 h23 q22 f22_0 f22_1 f22_2 f22_3 f22_4 hx23 hG23 hf23; exact absurd q22 (by omega)
                        | succ m22 ih22 =>
                          intro w22_2 w22_4 Z23 h23 q22 f22_0 f22_1 f22_2 f22_3 f22_4 hx23 hG23 hf23
                          refine mx_J.step (sn_237 59) (fun _ _ => rfl) ?_
                          refine JcI (z := 19) (show mx_Sn _ _ 61 (mx_const (.int 19) 63) from sn_237 61) rfl ?_
                          refine Jicmp_ge (show mx_Sn _ _ 63 (mx_icmp_ge 106 66) from sn_237 63) (by omega) (by omega) (fun q24 => ?_) (fun q24 => ?_)
                          · skip
                            have fn : w22_2 = 0 → fl' Z23 (w18_3 + 1) 0 = 1 := fun e => fl_n (d := w22_4) (by omega) (by omega) rfl
                            refine Jiinc (z := w18_3) (cz := 1) (ls2 := [some (.ref 56), some (xI x0), some (xI w22_2), some (xI (w18_3 + 1)), some (xI w22_4)]) (show mx_Sn _ _ 106 (mx_iinc 3 1 109) from sn_237 106) rfl rfl rfl rfl ?_
                            refine mx_J.step (sn_237 109) (fun _ _ => rfl) ?_
                            exact ih18 w22_2 (w18_3 + 1) (some (xI w22_4)) Z23 h23 (by omega) (by omega) (by omega) (by omega) (by omega) (by first | exact (fun _ => fl_0 (by omega) (by omega)) | omega) hx23 hG23 (fr_tr (M := [(74, (-1))]) (fr_tr (M := [(74, (-1))]) fr_rf (hf19) (M1 := []) rfl rfl) (hf23) rfl rfl)
                          · skip
                            refine mx_J.step (sn_237 66) (fun _ _ => rfl) ?_
                            refine mx_J.step (sn_237 67) (fun _ _ => rfl) ?_
                            refine mx_J.step (sn_237 68) (fun _ _ => rfl) ?_
                            obtain ⟨z25, hc25, b25⟩ := ct_236_56 (d := d + 5) (l := l) (D := D) (b0 := b0) (ad := ad) (Hb := Hb) (tau := tau) hx23 hG23 (show 0 ≤ w18_3 ∧ w18_3 ≤ 384 by omega) (show 0 ≤ w22_4 ∧ w22_4 ≤ 18 by omega)
                            refine Jcv hx23 (show mx_Sn _ _ 70 (mx_callv 236 3 12 73) from sn_237 70) a56 s56 hc25 rfl rfl rfl ?_
                            refine mx_J.step (sn_237 73) (fun _ _ => rfl) ?_
                            refine JgetR (g := 33) (b := 74) hx23 (show mx_Sn _ _ 74 (mx_getf 12 33 77) from sn_237 74) a56 s56 rfl rfl (hG23.prr 56 33 rfl) ?_
                            refine mx_J.step (sn_237 77) (fun _ _ => rfl) ?_
                            have b27 : 0 ≤ Z23 74 w18_3 ∧ Z23 74 w18_3 ≤ 268435456 := hG23.pr 74 w18_3
                            refine JialdI (z := Z23 74 w18_3) hx23 (show mx_Sn _ _ 78 (mx_iald 79) from sn_237 78) a74 s74 (by omega) rfl ?_
                            have c100 : ∀ (w28_2 : Int) (Z29 : xZ) (h29 : mx_H), 0 ≤ w28_2 ∧ w28_2 ≤ 1 → fu Z29 (Z 56 18) = 1 → (sn 74 Z29 (Z 56 18) ≤ sn 74 Z8 (Z 56 18) ∧ (w28_2 = 1 → sn 74 Z29 (Z 56 18) < sn 74 Z8 (Z 56 18))) → (w28_2 = 0 → fl' Z29 w18_3 (w22_4 + 1) = 1) → XH n s S Z29 h29 → GI n S Z29 → fr' [(74, (-1))] Z23 Z29 → mx_J (tB l D b0 ad Hb tau) mt_237 (d + 6) 100 [some (.ref 56), some (xI x0), some (xI w28_2), some (xI w18_3), some (xI w22_4)] [] h29 Post := by
                              intro w28_2 Z29 h29 f28_0 f28_1 f28_2 f28_3 hx29 hG29 hf29
                              refine Jiinc (z := w22_4) (cz := 1) (ls2 := [some (.ref 56), some (xI x0), some (xI w28_2), some (xI w18_3), some (xI (w22_4 + 1))]) (show mx_Sn _ _ 100 (mx_iinc 4 1 103) from sn_237 100) rfl rfl rfl rfl ?_
                              refine mx_J.step (sn_237 103) (fun _ _ => rfl) ?_
                              exact ih22 w28_2 (w22_4 + 1) Z29 h29 (by omega) (by omega) (by omega) (by omega) (by omega) (by omega) hx29 hG29 (fr_tr (M := [(74, (-1))]) (fr_tr (M := [(74, (-1))]) fr_rf (hf23) (M1 := []) rfl rfl) (hf29) rfl rfl)
                            refine Jicmp_lt (show mx_Sn _ _ 79 (mx_icmp_lt 85 82) from sn_237 79) (by omega) (by omega) (fun q30 => ?_) (fun q30 => ?_)
                            · skip
                              refine mx_J.step (sn_237 85) (fun _ _ => rfl) ?_
                              refine JgetR (g := 33) (b := 74) hx23 (show mx_Sn _ _ 86 (mx_getf 12 33 89) from sn_237 86) a56 s56 rfl rfl (hG23.prr 56 33 rfl) ?_
                              refine mx_J.step (sn_237 89) (fun _ _ => rfl) ?_
                              refine mx_J.step (sn_237 90) (fun _ _ => rfl) ?_
                              refine mx_J.step (sn_237 91) (fun _ _ => rfl) ?_
                              refine mx_J.step (sn_237 92) (fun _ _ => rfl) ?_
                              obtain ⟨z32, hc32, b32⟩ := ct_236_56 (d := d + 5) (l := l) (D := D) (b0 := b0) (ad := ad) (Hb := Hb) (tau := tau) hx23 hG23 (show 0 ≤ w18_3 ∧ w18_3 ≤ 384 by omega) (show 0 ≤ w22_4 ∧ w22_4 ≤ 18 by omega)
                              refine Jcv hx23 (show mx_Sn _ _ 94 (mx_callv 236 3 12 97) from sn_237 94) a56 s56 hc32 rfl rfl rfl ?_
                              refine JiastI hx23 (show mx_Sn _ _ 97 (mx_iast 1 98) from sn_237 97) a74 s74 rfl (by omega) (fun Z33 h33 hx33 hE33 => ?_)
                              have hG33 := GI_up hG23 hE33 (show 0 ≤ z32 ∧ z32 ≤ 268435456 by omega) trivial rfl
                              have fq := fu_u (Z := Z23) (Z2 := Z33) (m := Z 56 18) (s := w18_3) (d := w22_4) (by omega) (by have e9 : fb Z23 w18_3 w22_4 = z32 := (by omega); rw [e9]; first | done | exact hE33) (by omega) (by omega) (by omega) (fun i => hG23.pr 74 i)
                              have sq := sn_u (m := Z 56 18) hE33 (by omega)
                              refine JcI (z := 1) (show mx_Sn _ _ 98 (mx_const (.int 1) 99) from sn_237 98) rfl ?_
                              refine mx_J.step (ls2 := [some (.ref 56), some (xI x0), some (xI 1), some (xI w18_3), some (xI w22_4)]) (sn_237 99) (fun _ _ => rfl) ?_
                              exact c100 1 Z33 h33 (by omega) (by omega) (by omega) (by omega) hx33 hG33 (fr_tr (M := [(74, (-1))]) fr_rf (fr_ua hE33) (M1 := []) rfl rfl)
                            · skip
                              have fs : w22_2 = 0 → fl' Z23 w18_3 (w22_4 + 1) = 1 := fun e => fl_s (d := w22_4) (by omega) (by omega) rfl
                              refine mx_J.step (sn_237 82) (fun _ _ => rfl) ?_
                              exact c100 w22_2 Z23 h23 (by omega) (by omega) (by omega) (by omega) hx23 hG23 fr_rf
                      exact c59 (Int.toNat (19 - 0) + 1) w18_2 0 Z19 h19 (by omega) (by omega) (by omega) (by omega) (by omega) (by omega) hx19 hG19 fr_rf
                exact c48 (Int.toNat (385 - 0) + 1) 0 0 u7_4 Z8 h8 (by omega) (by omega) (by omega) (by omega) (by omega) (by first | exact (fun _ => fl_0 (by omega) (by omega)) | omega) hx8 hG8 fr_rf
          exact c40 (Int.toNat ((((sn 74 Z4 (Z 56 18) + 1).toNat : Nat) : Int)) + 1) 1 none none Z4 h4 (by omega) (by omega) (by omega) (by omega) hx4 hG4 fr_rf
        · skip
          refine mx_J.step (sn_237 14) (fun _ _ => rfl) ?_
          refine JgetR (g := 33) (b := 74) hx4 (show mx_Sn _ _ 15 (mx_getf 12 33 18) from sn_237 15) a56 s56 rfl rfl (hG4.prr 56 33 rfl) ?_
          refine mx_J.step (sn_237 18) (fun _ _ => rfl) ?_
          refine mx_J.step (sn_237 19) (fun _ _ => rfl) ?_
          refine mx_J.step (sn_237 20) (fun _ _ => rfl) ?_
          have c31 : ∀ (k35_2 : Int), 0 ≤ k35_2 ∧ k35_2 ≤ 268435456 → (k35_2 = 0 ∨ k35_2 = 268435456) → mx_J (tB l D b0 ad Hb tau) mt_237 (d + 6) 31 [some (.ref 56), some (xI x0), some (xI w3_2), none, none] [xI k35_2, xI w3_2, .ref 74] h4 Post := by
            intro k35_2 f35_0 f35_1
            refine JiastI hx4 (show mx_Sn _ _ 31 (mx_iast 1 32) from sn_237 31) a74 s74 rfl (by omega) (fun Z36 h36 hx36 hE36 => ?_)
            have hG36 := GI_up hG4 hE36 (show 0 ≤ k35_2 ∧ k35_2 ≤ 268435456 by omega) trivial rfl
            have f0 : (∀ i, 0 ≤ i → i < (w3_2 + 1) → (Z36 74 i = 0 ∨ Z36 74 i = 268435456)) := fun i i0 i1 => if hi : i = w3_2 then (by rw [hi, up_at hE36]; omega) else (by rw [up_ni hE36 hi]; exact (by assumption : (∀ i, 0 ≤ i → i < w3_2 → (Z4 74 i = 0 ∨ Z4 74 i = 268435456))) i i0 (by omega))
            refine Jiinc (z := w3_2) (cz := 1) (ls2 := [some (.ref 56), some (xI x0), some (xI (w3_2 + 1)), none, none]) (show mx_Sn _ _ 32 (mx_iinc 2 1 35) from sn_237 32) rfl rfl rfl rfl ?_
            refine mx_J.step (sn_237 35) (fun _ _ => rfl) ?_
            exact ih3 (w3_2 + 1) Z36 h36 (by omega) (by omega) (by first | exact (fun i i0 i1 => absurd i1 (by omega)) | assumption) hx36 hG36 (fr_tr (M := [(74, (-1))]) (fr_tr (M := [(74, (-1))]) fr_rf (hf4) (M1 := []) rfl rfl) (fr_ua hE36) rfl rfl)
          refine Jicmp_ne (show mx_Sn _ _ 21 (mx_icmp_ne 28 24) from sn_237 21) (by omega) (by omega) (fun q37 => ?_) (fun q37 => ?_)
          · skip
            refine JcI (z := 268435456) (show mx_Sn _ _ 28 (mx_const (.int 268435456) 31) from sn_237 28) rfl ?_
            exact c31 268435456 (by omega) (by omega)
          · skip
            refine JcI (z := 0) (show mx_Sn _ _ 24 (mx_const (.int 0) 25) from sn_237 24) rfl ?_
            refine mx_J.step (sn_237 25) (fun _ _ => rfl) ?_
            exact c31 0 (by omega) (by omega)
    exact c6 (Int.toNat (385 - 0) + 1) 0 Z1 h1 (by omega) (by omega) (by first | exact (fun i i0 i1 => absurd i1 (by omega)) | assumption) hx1 hG1 fr_rf
theorem ct_237_56 {l : Launch} {D : va_G} {b0 : Nat} {ad : Nat → Nat} {Hb : Heap} {tau : Nat → Int64} {d n s : Nat} {S : Nat → xS} {Z : xZ} {h : mx_H} (hx : XH n s S Z h) (hG : GI n S Z)  {x0 : Int} (p0 : 0 ≤ x0 ∧ x0 ≤ 384) : ∃ (z : Int) (Z' : xZ) (h' : mx_H), mx_Ca (tB l D b0 ad Hb tau) (d + 7) 237 [.ref 56, xI x0] h (some (xI z), h') ∧ XH n s S Z' h' ∧ GI n S Z' ∧ fr' [(62, (-1)), (64, (-1)), (65, (-1)), (73, (-1)), (74, (-1))] Z Z' ∧ (0 ≤ z ∧ z ≤ 268435456 ∧ (fu Z' (Z 56 18) = 1 ∧ fl' Z' (Z 56 18) 0 = 1 ∧ ai 73 Z' (19 * Z 56 18) (-1) (Z 56 18 - 1) = 1)) := by
  obtain ⟨r, hca, z, Z', h', e, q⟩ := Jmt (B := tB l D b0 ad Hb tau) (M := mt_237) (mi := 237) (as := [.ref 56, xI x0]) (d := d + 6) (ls := [some (.ref 56), some (xI x0), none, none, none]) rfl rfl rfl rfl rfl rfl (cw_237_56 (l := l) (D := D) (b0 := b0) (ad := ad) (Hb := Hb) (tau := tau) (d := d) (Post := fun r => ∃ (z : Int) (Z' : xZ) (h' : mx_H), r = (some (xI z), h') ∧ XH n s S Z' h' ∧ GI n S Z' ∧ fr' [(62, (-1)), (64, (-1)), (65, (-1)), (73, (-1)), (74, (-1))] Z Z' ∧ (0 ≤ z ∧ z ≤ 268435456 ∧ (fu Z' (Z 56 18) = 1 ∧ fl' Z' (Z 56 18) 0 = 1 ∧ ai 73 Z' (19 * Z 56 18) (-1) (Z 56 18 - 1) = 1))) hx hG p0 (fun z Z' h' q1 q2 q3 q4 => ⟨z, Z', h', rfl, q1, q2, q3, q4⟩))
  subst e; exact ⟨z, Z', h', hca, q⟩
set_option maxRecDepth 100000 in
theorem cw_239_56 {l : Launch} {D : va_G} {b0 : Nat} {ad : Nat → Nat} {Hb : Heap} {tau : Nat → Int64} {d n s : Nat} {S : Nat → xS} {Z : xZ} {h : mx_H} {Post : mx_R → Prop} (hx : XH n s S Z h) (hG : GI n S Z)  {x0 : Int} (p0 : (-2147483648) ≤ x0 ∧ x0 ≤ 2147483647) (hP : ∀ z : Int, (-6) ≤ z ∧ z ≤ 0 ∧ (z = 0 → (0 ≤ x0 ∧ x0 ≤ 3 ∧ 1 ≤ Z 81 x0 ∧ Z 81 x0 ≤ 18)) → Post (some (xI z), h)) : mx_J (tB l D b0 ad Hb tau) mt_239 (d + 2) 0 [some (.ref 56), some (xI x0), none, none, none] [] h Post := by
    have a56 : 56 < n := lt83 (GI_n hG) rfl
    have s56 : S 56 = .inl (12, [0, 2, 2, 2, 2, 0, 0, 0, 0, 0, 0, 0, 0, 0, 0, 2, 2, 2, 0, 2, 2, 2, 0, 0, 2, 2, 2, 2, 2, 2, 0, 0, 2, 2, 2, 2, 2, 2, 2, 2, 2, 2]) := GI_s hG 56 rfl
    have a57 : 57 < n := lt83 (GI_n hG) rfl
    have s57 : S 57 = .inr (.int, 2886, 0) := GI_s hG 57 rfl
    have a81 : 81 < n := lt83 (GI_n hG) rfl
    have s81 : S 81 = .inr (.int, 4, 0) := GI_s hG 81 rfl
    have a82 : 82 < n := lt83 (GI_n hG) rfl
    have s82 : S 82 = .inr (.long, 160, 1) := GI_s hG 82 rfl
    refine mx_J.step (sn_239 0) (fun _ _ => rfl) ?_
    refine mx_J.step (sn_239 1) (fun _ _ => rfl) ?_
    have b2 : (-1) ≤ Z 80 x0 ∧ Z 80 x0 ≤ 3 := hG.pr 80 x0
    obtain ⟨z1, hc1, b1⟩ := ct_220_56 (d := d + 0) (l := l) (D := D) (b0 := b0) (ad := ad) (Hb := Hb) (tau := tau) hx hG (show (-2147483648) ≤ x0 ∧ x0 ≤ 2147483647 by omega)
    refine Jcv hx (show mx_Sn _ _ 2 (mx_callv 220 2 12 5) from sn_239 2) a56 s56 hc1 rfl rfl rfl ?_
    refine mx_J.step (ls2 := [some (.ref 56), some (xI x0), some (xI z1), none, none]) (sn_239 5) (fun _ _ => rfl) ?_
    refine mx_J.step (sn_239 6) (fun _ _ => rfl) ?_
    refine Jif_eq (show mx_Sn _ _ 7 (mx_if_eq 12 10) from sn_239 7) (by omega) (fun q3 => ?_) (fun q3 => ?_)
    · skip
      refine mx_J.step (sn_239 12) (fun _ _ => rfl) ?_
      refine JgetR (g := 40) (b := 81) hx (show mx_Sn _ _ 13 (mx_getf 12 40 16) from sn_239 13) a56 s56 rfl rfl (hG.prr 56 40 rfl) ?_
      refine mx_J.step (sn_239 16) (fun _ _ => rfl) ?_
      have b5 : 0 ≤ Z 81 x0 ∧ Z 81 x0 ≤ 40 := hG.pr 81 x0
      refine JialdI (z := Z 81 x0) hx (show mx_Sn _ _ 17 (mx_iald 18) from sn_239 17) a81 s81 (by omega) rfl ?_
      refine Ji2l (show mx_Sn _ _ 18 (mx_i2l 19) from sn_239 18) (by omega) ?_
      refine JcL (z := 1) (show mx_Sn _ _ 19 (mx_const (.long 1) 20) from sn_239 19) rfl ?_
      refine JcL (z := 18) (show mx_Sn _ _ 20 (mx_const (.long 18) 23) from sn_239 20) rfl ?_
      obtain ⟨z6, hc6, b6⟩ := ct_154_ (d := d + 1) (l := l) (D := D) (b0 := b0) (ad := ad) (Hb := Hb) (tau := tau) hx hG (show (-9223372036854775808) ≤ Z 81 x0 ∧ Z 81 x0 ≤ 9223372036854775807 by omega) (show (-9223372036854775808) ≤ 1 ∧ 1 ≤ 9223372036854775807 by omega) (show (-9223372036854775808) ≤ 18 ∧ 18 ≤ 9223372036854775807 by omega)
      refine Jcs (show mx_Sn _ _ 23 (mx_calls 154 3 26) from sn_239 23) hc6 rfl rfl rfl ?_
      refine Jif_ne (show mx_Sn _ _ 26 (mx_if_ne 32 29) from sn_239 26) (by omega) (fun q7 => ?_) (fun q7 => ?_)
      · skip
        refine JcI (z := 0) (show mx_Sn _ _ 32 (mx_const (.int 0) 33) from sn_239 32) rfl ?_
        refine mx_J.step (ls2 := [some (.ref 56), some (xI x0), some (xI z1), some (xI 0), none]) (sn_239 33) (fun _ _ => rfl) ?_
        refine JcI (z := 0) (show mx_Sn _ _ 34 (mx_const (.int 0) 35) from sn_239 34) rfl ?_
        refine mx_J.step (ls2 := [some (.ref 56), some (xI x0), some (xI z1), some (xI 0), some (xI 0)]) (sn_239 35) (fun _ _ => rfl) ?_
        have c37 : ∀ (m8 : Nat) (w8_3 : Int) (w8_4 : Int), 40 - w8_4 < (m8 : Int) → (-2147483648) ≤ w8_3 ∧ w8_3 ≤ 2147483647 → 0 ≤ w8_4 ∧ w8_4 ≤ 40 → mx_J (tB l D b0 ad Hb tau) mt_239 (d + 2) 37 [some (.ref 56), some (xI x0), some (xI z1), some (xI w8_3), some (xI w8_4)] [] h Post := by
          intro m8
          induction m8 with
          | zero => intro w8_3 w8_4 q8 f8_0 f8_1; exact absurd q8 (by omega)
          | succ m8 ih8 =>
            intro w8_3 w8_4 q8 f8_0 f8_1
            refine mx_J.step (sn_239 37) (fun _ _ => rfl) ?_
            refine mx_J.step (sn_239 39) (fun _ _ => rfl) ?_
            refine JgetR (g := 40) (b := 81) hx (show mx_Sn _ _ 40 (mx_getf 12 40 43) from sn_239 40) a56 s56 rfl rfl (hG.prr 56 40 rfl) ?_
            refine mx_J.step (sn_239 43) (fun _ _ => rfl) ?_
            refine JialdI (z := Z 81 x0) hx (show mx_Sn _ _ 44 (mx_iald 45) from sn_239 44) a81 s81 (by omega) rfl ?_
            refine Jicmp_ge (show mx_Sn _ _ 45 (mx_icmp_ge 91 48) from sn_239 45) (by omega) (by omega) (fun q10 => ?_) (fun q10 => ?_)
            · skip
              refine mx_J.step (sn_239 91) (fun _ _ => rfl) ?_
              refine mx_J.step (sn_239 92) (fun _ _ => rfl) ?_
              refine JgetR (g := 1) (b := 57) hx (show mx_Sn _ _ 93 (mx_getf 12 1 96) from sn_239 93) a56 s56 rfl rfl (hG.prr 56 1 rfl) ?_
              refine JcI (z := 1) (show mx_Sn _ _ 96 (mx_const (.int 1) 97) from sn_239 96) rfl ?_
              have b12 : 0 ≤ Z 57 1 ∧ Z 57 1 ≤ 18 := by have hq := GI_ex hG 57 1; replace hq : f57 (1 % 962) (Z 57 1) := hq; unfold f57 at hq; omega
              have b13 : (-2147483648) ≤ Z 57 1 ∧ Z 57 1 ≤ 2147483647 := hG.pr 57 1
              refine JialdI (z := Z 57 1) hx (show mx_Sn _ _ 97 (mx_iald 98) from sn_239 97) a57 s57 (by omega) rfl ?_
              have c107 : ∀ (k14_0 : Int), (-5) ≤ k14_0 ∧ k14_0 ≤ 0 → mx_J (tB l D b0 ad Hb tau) mt_239 (d + 2) 107 [some (.ref 56), some (xI x0), some (xI z1), some (xI w8_3), some (xI w8_4)] [xI k14_0] h Post := by
                intro k14_0 f14_0
                exact mx_J.ret (sn_239 107) (fun _ _ => rfl) (hP k14_0 (by omega))
              refine Jicmp_ne (show mx_Sn _ _ 98 (mx_icmp_ne 105 101) from sn_239 98) (by omega) (by omega) (fun q15 => ?_) (fun q15 => ?_)
              · skip
                refine JcI (z := (-5)) (show mx_Sn _ _ 105 (mx_const (.int (-5)) 107) from sn_239 105) rfl ?_
                exact c107 (-5) (by omega)
              · skip
                refine JcI (z := 0) (show mx_Sn _ _ 101 (mx_const (.int 0) 102) from sn_239 101) rfl ?_
                refine mx_J.step (sn_239 102) (fun _ _ => rfl) ?_
                exact c107 0 (by omega)
            · skip
              refine mx_J.step (sn_239 48) (fun _ _ => rfl) ?_
              refine JgetR (g := 41) (b := 82) hx (show mx_Sn _ _ 49 (mx_getf 12 41 52) from sn_239 49) a56 s56 rfl rfl (hG.prr 56 41 rfl) ?_
              refine JcI (z := 40) (show mx_Sn _ _ 52 (mx_const (.int 40) 54) from sn_239 52) rfl ?_
              refine mx_J.step (sn_239 54) (fun _ _ => rfl) ?_
              refine Jimul (show mx_Sn _ _ 55 (mx_imul 56) from sn_239 55) ?_
              refine mx_J.step (sn_239 56) (fun _ _ => rfl) ?_
              refine Jiadd (show mx_Sn _ _ 58 (mx_iadd 59) from sn_239 58) ?_
              have b17 : (-9223372036854775808) ≤ Z 82 ((40 * x0) + w8_4) ∧ Z 82 ((40 * x0) + w8_4) ≤ 9223372036854775807 := hG.pr 82 ((40 * x0) + w8_4)
              refine JlaldL (z := Z 82 ((40 * x0) + w8_4)) hx (show mx_Sn _ _ 59 (mx_lald 60) from sn_239 59) a82 s82 (by omega) rfl ?_
              obtain ⟨z18, hc18, b18⟩ := ct_208_ (d := d + 0) (l := l) (D := D) (b0 := b0) (ad := ad) (Hb := Hb) (tau := tau) hx hG (show (-9223372036854775808) ≤ Z 82 ((40 * x0) + w8_4) ∧ Z 82 ((40 * x0) + w8_4) ≤ 9223372036854775807 by omega)
              refine Jcs (show mx_Sn _ _ 60 (mx_calls 208 1 63) from sn_239 60) hc18 rfl rfl rfl ?_
              refine Jif_ne (show mx_Sn _ _ 63 (mx_if_ne 69 66) from sn_239 63) (by omega) (fun q19 => ?_) (fun q19 => ?_)
              · skip
                refine mx_J.step (sn_239 69) (fun _ _ => rfl) ?_
                refine mx_J.step (sn_239 70) (fun _ _ => rfl) ?_
                refine JgetR (g := 41) (b := 82) hx (show mx_Sn _ _ 71 (mx_getf 12 41 74) from sn_239 71) a56 s56 rfl rfl (hG.prr 56 41 rfl) ?_
                refine JcI (z := 40) (show mx_Sn _ _ 74 (mx_const (.int 40) 76) from sn_239 74) rfl ?_
                refine mx_J.step (sn_239 76) (fun _ _ => rfl) ?_
                refine Jimul (show mx_Sn _ _ 77 (mx_imul 78) from sn_239 77) ?_
                refine mx_J.step (sn_239 78) (fun _ _ => rfl) ?_
                refine Jiadd (show mx_Sn _ _ 80 (mx_iadd 81) from sn_239 80) ?_
                refine JlaldL (z := Z 82 ((40 * x0) + w8_4)) hx (show mx_Sn _ _ 81 (mx_lald 82) from sn_239 81) a82 s82 (by omega) rfl ?_
                refine Jl2i (show mx_Sn _ _ 82 (mx_l2i 83) from sn_239 82) (Jnorm fun y21 hy21 hq21 => ?_)
                refine JiaddN (show mx_Sn _ _ 83 (mx_iadd 84) from sn_239 83) (fun y22 hy22 hq22 => ?_)
                refine mx_J.step (ls2 := [some (.ref 56), some (xI x0), some (xI z1), some (xI y22), some (xI w8_4)]) (sn_239 84) (fun _ _ => rfl) ?_
                refine Jiinc (z := w8_4) (cz := 1) (ls2 := [some (.ref 56), some (xI x0), some (xI z1), some (xI y22), some (xI (w8_4 + 1))]) (show mx_Sn _ _ 85 (mx_iinc 4 1 88) from sn_239 85) rfl rfl rfl rfl ?_
                refine mx_J.step (sn_239 88) (fun _ _ => rfl) ?_
                exact ih8 y22 (w8_4 + 1) (by omega) (by omega) (by omega)
              · skip
                refine JcI (z := (-3)) (show mx_Sn _ _ 66 (mx_const (.int (-3)) 68) from sn_239 66) rfl ?_
                exact mx_J.ret (sn_239 68) (fun _ _ => rfl) (hP (-3) (by omega))
        exact c37 (Int.toNat (40 - 0) + 1) 0 0 (by omega) (by omega) (by omega)
      · skip
        refine JcI (z := (-4)) (show mx_Sn _ _ 29 (mx_const (.int (-4)) 31) from sn_239 29) rfl ?_
        exact mx_J.ret (sn_239 31) (fun _ _ => rfl) (hP (-4) (by omega))
    · skip
      refine mx_J.step (sn_239 10) (fun _ _ => rfl) ?_
      have b23 : 0 ≤ Z 81 x0 ∧ Z 81 x0 ≤ 40 := hG.pr 81 x0
      exact mx_J.ret (sn_239 11) (fun _ _ => rfl) (hP z1 (by omega))
theorem ct_239_56 {l : Launch} {D : va_G} {b0 : Nat} {ad : Nat → Nat} {Hb : Heap} {tau : Nat → Int64} {d n s : Nat} {S : Nat → xS} {Z : xZ} {h : mx_H} (hx : XH n s S Z h) (hG : GI n S Z)  {x0 : Int} (p0 : (-2147483648) ≤ x0 ∧ x0 ≤ 2147483647) : ∃ z : Int, mx_Ca (tB l D b0 ad Hb tau) (d + 3) 239 [.ref 56, xI x0] h (some (xI z), h) ∧ ((-6) ≤ z ∧ z ≤ 0 ∧ (z = 0 → (0 ≤ x0 ∧ x0 ≤ 3 ∧ 1 ≤ Z 81 x0 ∧ Z 81 x0 ≤ 18))) := by
  obtain ⟨r, hca, z, e, hp⟩ := Jmt (B := tB l D b0 ad Hb tau) (M := mt_239) (mi := 239) (as := [.ref 56, xI x0]) (d := d + 2) (ls := [some (.ref 56), some (xI x0), none, none, none]) rfl rfl rfl rfl rfl rfl (cw_239_56 (l := l) (D := D) (b0 := b0) (ad := ad) (Hb := Hb) (tau := tau) (d := d) (Post := fun r => ∃ z : Int, r = (some (xI z), h) ∧ ((-6) ≤ z ∧ z ≤ 0 ∧ (z = 0 → (0 ≤ x0 ∧ x0 ≤ 3 ∧ 1 ≤ Z 81 x0 ∧ Z 81 x0 ≤ 18)))) hx hG p0 (fun z hz => ⟨z, rfl, hz⟩))
  subst e; exact ⟨z, hca, hp⟩
set_option maxRecDepth 100000 in
theorem cw_240_56 {l : Launch} {D : va_G} {b0 : Nat} {ad : Nat → Nat} {Hb : Heap} {tau : Nat → Int64} {d n s : Nat} {S : Nat → xS} {Z : xZ} {h : mx_H} {Post : mx_R → Prop} (hx : XH n s S Z h) (hG : GI n S Z)  {x0 : Int} (p0 : 0 ≤ x0 ∧ x0 ≤ 3) (k0 : Z 81 x0 ≤ 18) (hP : ∀ (z : Int) (Z' : xZ) (h' : mx_H), XH n s S Z' h' → GI n S Z' → fr' [(62, (-1))] Z Z' → 0 ≤ z ∧ z ≤ 384 → Post (some (xI z), h')) : mx_J (tB l D b0 ad Hb tau) mt_240 (d + 2) 0 [some (.ref 56), some (xI x0), none] [] h Post := by
    have a56 : 56 < n := lt83 (GI_n hG) rfl
    have s56 : S 56 = .inl (12, [0, 2, 2, 2, 2, 0, 0, 0, 0, 0, 0, 0, 0, 0, 0, 2, 2, 2, 0, 2, 2, 2, 0, 0, 2, 2, 2, 2, 2, 2, 0, 0, 2, 2, 2, 2, 2, 2, 2, 2, 2, 2]) := GI_s hG 56 rfl
    have a62 : 62 < n := lt83 (GI_n hG) rfl
    have s62 : S 62 = .inr (.int, 20, 0) := GI_s hG 62 rfl
    have a81 : 81 < n := lt83 (GI_n hG) rfl
    have s81 : S 81 = .inr (.int, 4, 0) := GI_s hG 81 rfl
    have a82 : 82 < n := lt83 (GI_n hG) rfl
    have s82 : S 82 = .inr (.long, 160, 1) := GI_s hG 82 rfl
    refine mx_J.step (sn_240 0) (fun _ _ => rfl) ?_
    obtain ⟨Z1, h1, hc1, hx1, hG1, hf1⟩ := ct_186_56 (d := d + 1) (l := l) (D := D) (b0 := b0) (ad := ad) (Hb := Hb) (tau := tau) hx hG 
    refine Jcv0 hx (show mx_Sn _ _ 1 (mx_callv 186 1 12 4) from sn_240 1) a56 s56 hc1 rfl rfl rfl ?_
    refine JcI (z := 0) (show mx_Sn _ _ 4 (mx_const (.int 0) 5) from sn_240 4) rfl ?_
    refine mx_J.step (ls2 := [some (.ref 56), some (xI x0), some (xI 0)]) (sn_240 5) (fun _ _ => rfl) ?_
    have c6 : ∀ (m2 : Nat) (w2_2 : Int) (Z3 : xZ) (h3 : mx_H), 40 - w2_2 < (m2 : Int) → 0 ≤ w2_2 ∧ w2_2 ≤ 40 → XH n s S Z3 h3 → GI n S Z3 → fr' [(62, (-1))] Z1 Z3 → mx_J (tB l D b0 ad Hb tau) mt_240 (d + 2) 6 [some (.ref 56), some (xI x0), some (xI w2_2)] [] h3 Post := by
      intro m2
      induction m2 with
      | zero => intro w2_2 Z3 h3 q2 f2_0 hx3 hG3 hf3; exact absurd q2 (by omega)
      | succ m2 ih2 =>
        intro w2_2 Z3 h3 q2 f2_0 hx3 hG3 hf3
        refine mx_J.step (sn_240 6) (fun _ _ => rfl) ?_
        refine mx_J.step (sn_240 7) (fun _ _ => rfl) ?_
        refine JgetR (g := 40) (b := 81) hx3 (show mx_Sn _ _ 8 (mx_getf 12 40 11) from sn_240 8) a56 s56 rfl rfl (hG3.prr 56 40 rfl) ?_
        refine mx_J.step (sn_240 11) (fun _ _ => rfl) ?_
        have b5 : 0 ≤ Z 81 x0 ∧ Z 81 x0 ≤ 40 := hG.pr 81 x0
        refine JialdI (z := Z 81 x0) hx3 (show mx_Sn _ _ 12 (mx_iald 13) from sn_240 12) a81 s81 (by omega) ((hf3 81 x0 rfl).trans (hf1 81 x0 rfl)) ?_
        refine Jicmp_ge (show mx_Sn _ _ 13 (mx_icmp_ge 40 16) from sn_240 13) (by omega) (by omega) (fun q6 => ?_) (fun q6 => ?_)
        · skip
          refine mx_J.step (sn_240 40) (fun _ _ => rfl) ?_
          have eq8 : Z3 56 18 = Z 56 18 := ((hf3 56 18 rfl).trans (hf1 56 18 rfl))
          have b9 : 0 ≤ Z 56 18 ∧ Z 56 18 ≤ 385 := hG.pr 56 18
          obtain ⟨z7, Z7, h7, hc7, hx7, hG7, hf7, b7⟩ := ct_188_56 (d := d + 0) (l := l) (D := D) (b0 := b0) (ad := ad) (Hb := Hb) (tau := tau) hx3 hG3 
          try rw [eq8] at b7
          refine Jcv hx3 (show mx_Sn _ _ 41 (mx_callv 188 1 12 44) from sn_240 41) a56 s56 hc7 rfl rfl rfl ?_
          have eq10 : Z7 81 x0 = Z 81 x0 := ((hf7 81 x0 rfl).trans ((hf3 81 x0 rfl).trans (hf1 81 x0 rfl)))
          exact mx_J.ret (sn_240 44) (fun _ _ => rfl) (hP z7 Z7 h7 hx7 hG7 (fr_tr (M := [(62, (-1))]) (fr_tr (M := [(62, (-1))]) (fr_tr (M := [(62, (-1))]) fr_rf (hf1) (M1 := []) rfl rfl) (hf3) rfl rfl) (hf7) rfl rfl) (by omega))
        · skip
          refine mx_J.step (sn_240 16) (fun _ _ => rfl) ?_
          refine JgetR (g := 16) (b := 62) hx3 (show mx_Sn _ _ 17 (mx_getf 12 16 20) from sn_240 17) a56 s56 rfl rfl (hG3.prr 56 16 rfl) ?_
          refine mx_J.step (sn_240 20) (fun _ _ => rfl) ?_
          refine mx_J.step (sn_240 21) (fun _ _ => rfl) ?_
          refine JgetR (g := 41) (b := 82) hx3 (show mx_Sn _ _ 22 (mx_getf 12 41 25) from sn_240 22) a56 s56 rfl rfl (hG3.prr 56 41 rfl) ?_
          refine JcI (z := 40) (show mx_Sn _ _ 25 (mx_const (.int 40) 27) from sn_240 25) rfl ?_
          refine mx_J.step (sn_240 27) (fun _ _ => rfl) ?_
          refine Jimul (show mx_Sn _ _ 28 (mx_imul 29) from sn_240 28) ?_
          refine mx_J.step (sn_240 29) (fun _ _ => rfl) ?_
          refine Jiadd (show mx_Sn _ _ 30 (mx_iadd 31) from sn_240 30) ?_
          have b13 : (-9223372036854775808) ≤ Z 82 ((40 * x0) + w2_2) ∧ Z 82 ((40 * x0) + w2_2) ≤ 9223372036854775807 := hG.pr 82 ((40 * x0) + w2_2)
          refine JlaldL (z := Z 82 ((40 * x0) + w2_2)) hx3 (show mx_Sn _ _ 31 (mx_lald 32) from sn_240 31) a82 s82 (by omega) ((hf3 82 ((40 * x0) + w2_2) rfl).trans (hf1 82 ((40 * x0) + w2_2) rfl)) ?_
          refine Jl2i (show mx_Sn _ _ 32 (mx_l2i 33) from sn_240 32) (Jnorm fun y14 hy14 hq14 => ?_)
          refine JiastI hx3 (show mx_Sn _ _ 33 (mx_iast 1 34) from sn_240 33) a62 s62 rfl (by omega) (fun Z15 h15 hx15 hE15 => ?_)
          have hG15 := GI_up hG3 hE15 (show (-2147483648) ≤ y14 ∧ y14 ≤ 2147483647 by omega) trivial rfl
          refine Jiinc (z := w2_2) (cz := 1) (ls2 := [some (.ref 56), some (xI x0), some (xI (w2_2 + 1))]) (show mx_Sn _ _ 34 (mx_iinc 2 1 37) from sn_240 34) rfl rfl rfl rfl ?_
          refine mx_J.step (sn_240 37) (fun _ _ => rfl) ?_
          exact ih2 (w2_2 + 1) Z15 h15 (by omega) (by omega) hx15 hG15 (fr_tr (M := [(62, (-1))]) (fr_tr (M := [(62, (-1))]) fr_rf (hf3) (M1 := []) rfl rfl) (fr_ua hE15) rfl rfl)
    exact c6 (Int.toNat (40 - 0) + 1) 0 Z1 h1 (by omega) (by omega) hx1 hG1 fr_rf
theorem ct_240_56 {l : Launch} {D : va_G} {b0 : Nat} {ad : Nat → Nat} {Hb : Heap} {tau : Nat → Int64} {d n s : Nat} {S : Nat → xS} {Z : xZ} {h : mx_H} (hx : XH n s S Z h) (hG : GI n S Z)  {x0 : Int} (p0 : 0 ≤ x0 ∧ x0 ≤ 3) (k0 : Z 81 x0 ≤ 18) : ∃ (z : Int) (Z' : xZ) (h' : mx_H), mx_Ca (tB l D b0 ad Hb tau) (d + 3) 240 [.ref 56, xI x0] h (some (xI z), h') ∧ XH n s S Z' h' ∧ GI n S Z' ∧ fr' [(62, (-1))] Z Z' ∧ (0 ≤ z ∧ z ≤ 384) := by
  obtain ⟨r, hca, z, Z', h', e, q⟩ := Jmt (B := tB l D b0 ad Hb tau) (M := mt_240) (mi := 240) (as := [.ref 56, xI x0]) (d := d + 2) (ls := [some (.ref 56), some (xI x0), none]) rfl rfl rfl rfl rfl rfl (cw_240_56 (l := l) (D := D) (b0 := b0) (ad := ad) (Hb := Hb) (tau := tau) (d := d) (Post := fun r => ∃ (z : Int) (Z' : xZ) (h' : mx_H), r = (some (xI z), h') ∧ XH n s S Z' h' ∧ GI n S Z' ∧ fr' [(62, (-1))] Z Z' ∧ (0 ≤ z ∧ z ≤ 384)) hx hG p0 k0 (fun z Z' h' q1 q2 q3 q4 => ⟨z, Z', h', rfl, q1, q2, q3, q4⟩))
  subst e; exact ⟨z, Z', h', hca, q⟩
set_option maxRecDepth 100000 in
theorem cw_241_56 {l : Launch} {D : va_G} {b0 : Nat} {ad : Nat → Nat} {Hb : Heap} {tau : Nat → Int64} {d n s : Nat} {S : Nat → xS} {Z : xZ} {h : mx_H} {Post : mx_R → Prop} (hx : XH n s S Z h) (hG : GI n S Z)  {x0 : Int} (p0 : (-2147483648) ≤ x0 ∧ x0 ≤ 2147483647) (hP : ∀ (z : Int) (Z' : xZ) (h' : mx_H), XH n s S Z' h' → GI n S Z' → fr' [(56, 0), (62, (-1)), (64, (-1)), (65, (-1)), (73, (-1)), (74, (-1))] Z Z' → (-6) ≤ z ∧ z ≤ 268435455 → Post (some (xI z), h')) : mx_J (tB l D b0 ad Hb tau) mt_241 (d + 7) 0 [some (.ref 56), some (xI x0), none] [] h Post := by
    have a56 : 56 < n := lt83 (GI_n hG) rfl
    have s56 : S 56 = .inl (12, [0, 2, 2, 2, 2, 0, 0, 0, 0, 0, 0, 0, 0, 0, 0, 2, 2, 2, 0, 2, 2, 2, 0, 0, 2, 2, 2, 2, 2, 2, 0, 0, 2, 2, 2, 2, 2, 2, 2, 2, 2, 2]) := GI_s hG 56 rfl
    refine mx_J.step (sn_241 0) (fun _ _ => rfl) ?_
    refine JcI (z := 0) (show mx_Sn _ _ 1 (mx_const (.int 0) 2) from sn_241 1) rfl ?_
    refine JputI (g := 0) hx (show mx_Sn _ _ 2 (mx_putf 1 12 0 (.int) 5) from sn_241 2) a56 s56 rfl rfl rfl rfl (fun Z1 h1 hx1 hE1 => ?_)
    have hG1 := GI_up hG hE1 (show (-2147483648) ≤ 0 ∧ 0 ≤ 2147483647 by omega) trivial rfl
    refine mx_J.step (sn_241 5) (fun _ _ => rfl) ?_
    refine mx_J.step (sn_241 6) (fun _ _ => rfl) ?_
    have eq3 : Z1 81 x0 = Z 81 x0 := (up_nk hE1 rfl)
    have b4 : 0 ≤ Z 81 x0 ∧ Z 81 x0 ≤ 40 := hG.pr 81 x0
    obtain ⟨z2, hc2, b2⟩ := ct_239_56 (d := d + 4) (l := l) (D := D) (b0 := b0) (ad := ad) (Hb := Hb) (tau := tau) hx1 hG1 (show (-2147483648) ≤ x0 ∧ x0 ≤ 2147483647 by omega)
    try rw [eq3] at b2
    refine Jcv hx1 (show mx_Sn _ _ 7 (mx_callv 239 2 12 10) from sn_241 7) a56 s56 hc2 rfl rfl rfl ?_
    refine mx_J.step (ls2 := [some (.ref 56), some (xI x0), some (xI z2)]) (sn_241 10) (fun _ _ => rfl) ?_
    refine mx_J.step (sn_241 11) (fun _ _ => rfl) ?_
    have c31 : ∀ (k5_0 : Int) (Z6 : xZ) (h6 : mx_H), (-6) ≤ k5_0 ∧ k5_0 ≤ 268435455 → XH n s S Z6 h6 → GI n S Z6 → fr' [(62, (-1)), (64, (-1)), (65, (-1)), (73, (-1)), (74, (-1))] Z1 Z6 → mx_J (tB l D b0 ad Hb tau) mt_241 (d + 7) 31 [some (.ref 56), some (xI x0), some (xI z2)] [xI k5_0] h6 Post := by
      intro k5_0 Z6 h6 f5_0 hx6 hG6 hf6
      exact mx_J.ret (sn_241 31) (fun _ _ => rfl) (hP k5_0 Z6 h6 hx6 hG6 (fr_tr (M := [(56, 0), (62, (-1)), (64, (-1)), (65, (-1)), (73, (-1)), (74, (-1))]) (fr_tr (M := [(56, 0), (62, (-1)), (64, (-1)), (65, (-1)), (73, (-1)), (74, (-1))]) fr_rf (fr_up hE1) (M1 := []) rfl rfl) (hf6) rfl rfl) (by omega))
    refine Jif_eq (show mx_Sn _ _ 12 (mx_if_eq 19 15) from sn_241 12) (by omega) (fun q7 => ?_) (fun q7 => ?_)
    · skip
      refine mx_J.step (sn_241 19) (fun _ _ => rfl) ?_
      refine mx_J.step (sn_241 20) (fun _ _ => rfl) ?_
      refine mx_J.step (sn_241 21) (fun _ _ => rfl) ?_
      have eq9 : Z1 81 x0 = Z 81 x0 := (up_nk hE1 rfl)
      obtain ⟨z8, Z8, h8, hc8, hx8, hG8, hf8, b8⟩ := ct_240_56 (d := d + 4) (l := l) (D := D) (b0 := b0) (ad := ad) (Hb := Hb) (tau := tau) hx1 hG1 (show 0 ≤ x0 ∧ x0 ≤ 3 by omega) (show Z1 81 x0 ≤ 18 by first | omega | (simp only [eq9]; omega))
      try rw [eq9] at b8
      refine Jcv hx1 (show mx_Sn _ _ 22 (mx_callv 240 2 12 25) from sn_241 22) a56 s56 hc8 rfl rfl rfl ?_
      have eq11 : Z8 56 18 = Z 56 18 := ((hf8 56 18 rfl).trans (up_ni hE1 (by decide)))
      have b12 : 0 ≤ Z 56 18 ∧ Z 56 18 ≤ 385 := hG.pr 56 18
      obtain ⟨z10, Z10, h10, hc10, hx10, hG10, hf10, b10⟩ := ct_237_56 (d := d + 0) (l := l) (D := D) (b0 := b0) (ad := ad) (Hb := Hb) (tau := tau) hx8 hG8 (show 0 ≤ z8 ∧ z8 ≤ 384 by omega)
      try rw [eq11] at b10
      refine Jcv hx8 (show mx_Sn _ _ 25 (mx_callv 237 2 12 28) from sn_241 25) a56 s56 hc10 rfl rfl rfl ?_
      obtain ⟨z13, hc13, b13⟩ := ct_238_ (d := d + 6) (l := l) (D := D) (b0 := b0) (ad := ad) (Hb := Hb) (tau := tau) hx10 hG10 (show 0 ≤ z10 ∧ z10 ≤ 268435456 by omega)
      refine Jcs (show mx_Sn _ _ 28 (mx_calls 238 1 31) from sn_241 28) hc13 rfl rfl rfl ?_
      exact c31 z13 Z10 h10 (by omega) hx10 hG10 (fr_tr (M := [(62, (-1)), (64, (-1)), (65, (-1)), (73, (-1)), (74, (-1))]) (fr_tr (M := [(62, (-1)), (64, (-1)), (65, (-1)), (73, (-1)), (74, (-1))]) fr_rf (hf8) (M1 := []) rfl rfl) (hf10) rfl rfl)
    · skip
      refine mx_J.step (sn_241 15) (fun _ _ => rfl) ?_
      refine mx_J.step (sn_241 16) (fun _ _ => rfl) ?_
      exact c31 z2 Z1 h1 (by omega) hx1 hG1 fr_rf
theorem ct_241_56 {l : Launch} {D : va_G} {b0 : Nat} {ad : Nat → Nat} {Hb : Heap} {tau : Nat → Int64} {d n s : Nat} {S : Nat → xS} {Z : xZ} {h : mx_H} (hx : XH n s S Z h) (hG : GI n S Z)  {x0 : Int} (p0 : (-2147483648) ≤ x0 ∧ x0 ≤ 2147483647) : ∃ (z : Int) (Z' : xZ) (h' : mx_H), mx_Ca (tB l D b0 ad Hb tau) (d + 8) 241 [.ref 56, xI x0] h (some (xI z), h') ∧ XH n s S Z' h' ∧ GI n S Z' ∧ fr' [(56, 0), (62, (-1)), (64, (-1)), (65, (-1)), (73, (-1)), (74, (-1))] Z Z' ∧ ((-6) ≤ z ∧ z ≤ 268435455) := by
  obtain ⟨r, hca, z, Z', h', e, q⟩ := Jmt (B := tB l D b0 ad Hb tau) (M := mt_241) (mi := 241) (as := [.ref 56, xI x0]) (d := d + 7) (ls := [some (.ref 56), some (xI x0), none]) rfl rfl rfl rfl rfl rfl (cw_241_56 (l := l) (D := D) (b0 := b0) (ad := ad) (Hb := Hb) (tau := tau) (d := d) (Post := fun r => ∃ (z : Int) (Z' : xZ) (h' : mx_H), r = (some (xI z), h') ∧ XH n s S Z' h' ∧ GI n S Z' ∧ fr' [(56, 0), (62, (-1)), (64, (-1)), (65, (-1)), (73, (-1)), (74, (-1))] Z Z' ∧ ((-6) ≤ z ∧ z ≤ 268435455)) hx hG p0 (fun z Z' h' q1 q2 q3 q4 => ⟨z, Z', h', rfl, q1, q2, q3, q4⟩))
  subst e; exact ⟨z, Z', h', hca, q⟩
set_option maxRecDepth 100000 in
theorem cw_249_56 {l : Launch} {D : va_G} {b0 : Nat} {ad : Nat → Nat} {Hb : Heap} {tau : Nat → Int64} {d n s : Nat} {S : Nat → xS} {Z : xZ} {h : mx_H} {Post : mx_R → Prop} (hx : XH n s S Z h) (hG : GI n S Z)  {x0 : Int} (p0 : (-2147483648) ≤ x0 ∧ x0 ≤ 2147483647) (hP : ∀ (z : Int) (Z' : xZ) (h' : mx_H), XH n s S Z' h' → GI n S Z' → fr' [(56, 0), (62, (-1))] Z Z' → (-6) ≤ z ∧ z ≤ 384 → Post (some (xI z), h')) : mx_J (tB l D b0 ad Hb tau) mt_249 (d + 3) 0 [some (.ref 56), some (xI x0), none] [] h Post := by
    have a56 : 56 < n := lt83 (GI_n hG) rfl
    have s56 : S 56 = .inl (12, [0, 2, 2, 2, 2, 0, 0, 0, 0, 0, 0, 0, 0, 0, 0, 2, 2, 2, 0, 2, 2, 2, 0, 0, 2, 2, 2, 2, 2, 2, 0, 0, 2, 2, 2, 2, 2, 2, 2, 2, 2, 2]) := GI_s hG 56 rfl
    refine mx_J.step (sn_249 0) (fun _ _ => rfl) ?_
    refine JcI (z := 0) (show mx_Sn _ _ 1 (mx_const (.int 0) 2) from sn_249 1) rfl ?_
    refine JputI (g := 0) hx (show mx_Sn _ _ 2 (mx_putf 1 12 0 (.int) 5) from sn_249 2) a56 s56 rfl rfl rfl rfl (fun Z1 h1 hx1 hE1 => ?_)
    have hG1 := GI_up hG hE1 (show (-2147483648) ≤ 0 ∧ 0 ≤ 2147483647 by omega) trivial rfl
    refine mx_J.step (sn_249 5) (fun _ _ => rfl) ?_
    refine mx_J.step (sn_249 6) (fun _ _ => rfl) ?_
    have eq3 : Z1 81 x0 = Z 81 x0 := (up_nk hE1 rfl)
    have b4 : 0 ≤ Z 81 x0 ∧ Z 81 x0 ≤ 40 := hG.pr 81 x0
    obtain ⟨z2, hc2, b2⟩ := ct_239_56 (d := d + 0) (l := l) (D := D) (b0 := b0) (ad := ad) (Hb := Hb) (tau := tau) hx1 hG1 (show (-2147483648) ≤ x0 ∧ x0 ≤ 2147483647 by omega)
    try rw [eq3] at b2
    refine Jcv hx1 (show mx_Sn _ _ 7 (mx_callv 239 2 12 10) from sn_249 7) a56 s56 hc2 rfl rfl rfl ?_
    refine mx_J.step (ls2 := [some (.ref 56), some (xI x0), some (xI z2)]) (sn_249 10) (fun _ _ => rfl) ?_
    refine mx_J.step (sn_249 11) (fun _ _ => rfl) ?_
    have c24 : ∀ (k5_0 : Int) (Z6 : xZ) (h6 : mx_H), (-6) ≤ k5_0 ∧ k5_0 ≤ 384 → XH n s S Z6 h6 → GI n S Z6 → fr' [(62, (-1))] Z1 Z6 → mx_J (tB l D b0 ad Hb tau) mt_249 (d + 3) 24 [some (.ref 56), some (xI x0), some (xI z2)] [xI k5_0] h6 Post := by
      intro k5_0 Z6 h6 f5_0 hx6 hG6 hf6
      exact mx_J.ret (sn_249 24) (fun _ _ => rfl) (hP k5_0 Z6 h6 hx6 hG6 (fr_tr (M := [(56, 0), (62, (-1))]) (fr_tr (M := [(56, 0), (62, (-1))]) fr_rf (fr_up hE1) (M1 := []) rfl rfl) (hf6) rfl rfl) (by omega))
    refine Jif_eq (show mx_Sn _ _ 12 (mx_if_eq 19 15) from sn_249 12) (by omega) (fun q7 => ?_) (fun q7 => ?_)
    · skip
      refine mx_J.step (sn_249 19) (fun _ _ => rfl) ?_
      refine mx_J.step (sn_249 20) (fun _ _ => rfl) ?_
      have eq9 : Z1 81 x0 = Z 81 x0 := (up_nk hE1 rfl)
      obtain ⟨z8, Z8, h8, hc8, hx8, hG8, hf8, b8⟩ := ct_240_56 (d := d + 0) (l := l) (D := D) (b0 := b0) (ad := ad) (Hb := Hb) (tau := tau) hx1 hG1 (show 0 ≤ x0 ∧ x0 ≤ 3 by omega) (show Z1 81 x0 ≤ 18 by first | omega | (simp only [eq9]; omega))
      try rw [eq9] at b8
      refine Jcv hx1 (show mx_Sn _ _ 21 (mx_callv 240 2 12 24) from sn_249 21) a56 s56 hc8 rfl rfl rfl ?_
      exact c24 z8 Z8 h8 (by omega) hx8 hG8 (fr_tr (M := [(62, (-1))]) fr_rf (hf8) (M1 := []) rfl rfl)
    · skip
      refine mx_J.step (sn_249 15) (fun _ _ => rfl) ?_
      refine mx_J.step (sn_249 16) (fun _ _ => rfl) ?_
      exact c24 z2 Z1 h1 (by omega) hx1 hG1 fr_rf
theorem ct_249_56 {l : Launch} {D : va_G} {b0 : Nat} {ad : Nat → Nat} {Hb : Heap} {tau : Nat → Int64} {d n s : Nat} {S : Nat → xS} {Z : xZ} {h : mx_H} (hx : XH n s S Z h) (hG : GI n S Z)  {x0 : Int} (p0 : (-2147483648) ≤ x0 ∧ x0 ≤ 2147483647) : ∃ (z : Int) (Z' : xZ) (h' : mx_H), mx_Ca (tB l D b0 ad Hb tau) (d + 4) 249 [.ref 56, xI x0] h (some (xI z), h') ∧ XH n s S Z' h' ∧ GI n S Z' ∧ fr' [(56, 0), (62, (-1))] Z Z' ∧ ((-6) ≤ z ∧ z ≤ 384) := by
  obtain ⟨r, hca, z, Z', h', e, q⟩ := Jmt (B := tB l D b0 ad Hb tau) (M := mt_249) (mi := 249) (as := [.ref 56, xI x0]) (d := d + 3) (ls := [some (.ref 56), some (xI x0), none]) rfl rfl rfl rfl rfl rfl (cw_249_56 (l := l) (D := D) (b0 := b0) (ad := ad) (Hb := Hb) (tau := tau) (d := d) (Post := fun r => ∃ (z : Int) (Z' : xZ) (h' : mx_H), r = (some (xI z), h') ∧ XH n s S Z' h' ∧ GI n S Z' ∧ fr' [(56, 0), (62, (-1))] Z Z' ∧ ((-6) ≤ z ∧ z ≤ 384)) hx hG p0 (fun z Z' h' q1 q2 q3 q4 => ⟨z, Z', h', rfl, q1, q2, q3, q4⟩))
  subst e; exact ⟨z, Z', h', hca, q⟩
set_option maxRecDepth 100000 in
theorem cw_253_56 {l : Launch} {D : va_G} {b0 : Nat} {ad : Nat → Nat} {Hb : Heap} {tau : Nat → Int64} {d n s : Nat} {S : Nat → xS} {Z : xZ} {h : mx_H} {Post : mx_R → Prop} (hx : XH n s S Z h) (hG : GI n S Z)  {x0 : Int} (p0 : (-2147483648) ≤ x0 ∧ x0 ≤ 2147483647) (hP : ∀ (z : Int) (Z' : xZ) (h' : mx_H), XH n s S Z' h' → GI n S Z' → fr' [(56, 0), (62, (-1))] Z Z' → (-6) ≤ z ∧ z ≤ 1 → Post (some (xI z), h')) : mx_J (tB l D b0 ad Hb tau) mt_253 (d + 3) 0 [some (.ref 56), some (xI x0), none] [] h Post := by
    have a56 : 56 < n := lt83 (GI_n hG) rfl
    have s56 : S 56 = .inl (12, [0, 2, 2, 2, 2, 0, 0, 0, 0, 0, 0, 0, 0, 0, 0, 2, 2, 2, 0, 2, 2, 2, 0, 0, 2, 2, 2, 2, 2, 2, 0, 0, 2, 2, 2, 2, 2, 2, 2, 2, 2, 2]) := GI_s hG 56 rfl
    have a57 : 57 < n := lt83 (GI_n hG) rfl
    have s57 : S 57 = .inr (.int, 2886, 0) := GI_s hG 57 rfl
    refine mx_J.step (sn_253 0) (fun _ _ => rfl) ?_
    refine JcI (z := 0) (show mx_Sn _ _ 1 (mx_const (.int 0) 2) from sn_253 1) rfl ?_
    refine JputI (g := 0) hx (show mx_Sn _ _ 2 (mx_putf 1 12 0 (.int) 5) from sn_253 2) a56 s56 rfl rfl rfl rfl (fun Z1 h1 hx1 hE1 => ?_)
    have hG1 := GI_up hG hE1 (show (-2147483648) ≤ 0 ∧ 0 ≤ 2147483647 by omega) trivial rfl
    refine mx_J.step (sn_253 5) (fun _ _ => rfl) ?_
    refine mx_J.step (sn_253 6) (fun _ _ => rfl) ?_
    have eq3 : Z1 81 x0 = Z 81 x0 := (up_nk hE1 rfl)
    have b4 : 0 ≤ Z 81 x0 ∧ Z 81 x0 ≤ 40 := hG.pr 81 x0
    obtain ⟨z2, hc2, b2⟩ := ct_239_56 (d := d + 0) (l := l) (D := D) (b0 := b0) (ad := ad) (Hb := Hb) (tau := tau) hx1 hG1 (show (-2147483648) ≤ x0 ∧ x0 ≤ 2147483647 by omega)
    try rw [eq3] at b2
    refine Jcv hx1 (show mx_Sn _ _ 7 (mx_callv 239 2 12 10) from sn_253 7) a56 s56 hc2 rfl rfl rfl ?_
    refine mx_J.step (ls2 := [some (.ref 56), some (xI x0), some (xI z2)]) (sn_253 10) (fun _ _ => rfl) ?_
    refine mx_J.step (sn_253 11) (fun _ _ => rfl) ?_
    have c43 : ∀ (k5_0 : Int) (Z6 : xZ) (h6 : mx_H), (-6) ≤ k5_0 ∧ k5_0 ≤ 1 → XH n s S Z6 h6 → GI n S Z6 → fr' [(62, (-1))] Z1 Z6 → mx_J (tB l D b0 ad Hb tau) mt_253 (d + 3) 43 [some (.ref 56), some (xI x0), some (xI z2)] [xI k5_0] h6 Post := by
      intro k5_0 Z6 h6 f5_0 hx6 hG6 hf6
      exact mx_J.ret (sn_253 43) (fun _ _ => rfl) (hP k5_0 Z6 h6 hx6 hG6 (fr_tr (M := [(56, 0), (62, (-1))]) (fr_tr (M := [(56, 0), (62, (-1))]) fr_rf (fr_up hE1) (M1 := []) rfl rfl) (hf6) rfl rfl) (by omega))
    refine Jif_eq (show mx_Sn _ _ 12 (mx_if_eq 19 15) from sn_253 12) (by omega) (fun q7 => ?_) (fun q7 => ?_)
    · skip
      refine mx_J.step (sn_253 19) (fun _ _ => rfl) ?_
      refine mx_J.step (sn_253 20) (fun _ _ => rfl) ?_
      refine JgetR (g := 1) (b := 57) hx1 (show mx_Sn _ _ 21 (mx_getf 12 1 24) from sn_253 21) a56 s56 rfl rfl (hG1.prr 56 1 rfl) ?_
      refine JcI (z := 27) (show mx_Sn _ _ 24 (mx_const (.int 27) 26) from sn_253 24) rfl ?_
      have b9 := GI_st hG 27
      have b10 : 0 ≤ Z 56 18 ∧ Z 56 18 ≤ 385 := hG.pr 56 18
      have b11 : 0 ≤ Z 57 27 ∧ Z 57 27 ≤ 384 := by have hq := GI_ex hG 57 27; replace hq : f57 (27 % 962) (Z 57 27) := hq; unfold f57 at hq; omega
      have b12 : (-2147483648) ≤ Z 57 27 ∧ Z 57 27 ≤ 2147483647 := hG.pr 57 27
      refine JialdI (z := Z 57 27) hx1 (show mx_Sn _ _ 26 (mx_iald 27) from sn_253 26) a57 s57 (by omega) (up_nk hE1 rfl) ?_
      refine mx_J.step (sn_253 27) (fun _ _ => rfl) ?_
      refine mx_J.step (sn_253 28) (fun _ _ => rfl) ?_
      have eq14 : Z1 81 x0 = Z 81 x0 := (up_nk hE1 rfl)
      obtain ⟨z13, Z13, h13, hc13, hx13, hG13, hf13, b13⟩ := ct_240_56 (d := d + 0) (l := l) (D := D) (b0 := b0) (ad := ad) (Hb := Hb) (tau := tau) hx1 hG1 (show 0 ≤ x0 ∧ x0 ≤ 3 by omega) (show Z1 81 x0 ≤ 18 by first | omega | (simp only [eq14]; omega))
      try rw [eq14] at b13
      refine Jcv hx1 (show mx_Sn _ _ 29 (mx_callv 240 2 12 32) from sn_253 29) a56 s56 hc13 rfl rfl rfl ?_
      obtain ⟨z15, hc15, b15⟩ := ct_252_56 (d := d + 1) (l := l) (D := D) (b0 := b0) (ad := ad) (Hb := Hb) (tau := tau) hx13 hG13 (show 0 ≤ Z 57 27 ∧ Z 57 27 ≤ 384 by omega) (show 0 ≤ z13 ∧ z13 ≤ 384 by omega)
      refine Jcv hx13 (show mx_Sn _ _ 32 (mx_callv 252 3 12 35) from sn_253 32) a56 s56 hc15 rfl rfl rfl ?_
      refine Jif_eq (show mx_Sn _ _ 35 (mx_if_eq 42 38) from sn_253 35) (by omega) (fun q16 => ?_) (fun q16 => ?_)
      · skip
        refine JcI (z := 0) (show mx_Sn _ _ 42 (mx_const (.int 0) 43) from sn_253 42) rfl ?_
        exact c43 0 Z13 h13 (by omega) hx13 hG13 (fr_tr (M := [(62, (-1))]) fr_rf (hf13) (M1 := []) rfl rfl)
      · skip
        refine JcI (z := 1) (show mx_Sn _ _ 38 (mx_const (.int 1) 39) from sn_253 38) rfl ?_
        refine mx_J.step (sn_253 39) (fun _ _ => rfl) ?_
        exact c43 1 Z13 h13 (by omega) hx13 hG13 (fr_tr (M := [(62, (-1))]) fr_rf (hf13) (M1 := []) rfl rfl)
    · skip
      refine mx_J.step (sn_253 15) (fun _ _ => rfl) ?_
      refine mx_J.step (sn_253 16) (fun _ _ => rfl) ?_
      exact c43 z2 Z1 h1 (by omega) hx1 hG1 fr_rf
theorem ct_253_56 {l : Launch} {D : va_G} {b0 : Nat} {ad : Nat → Nat} {Hb : Heap} {tau : Nat → Int64} {d n s : Nat} {S : Nat → xS} {Z : xZ} {h : mx_H} (hx : XH n s S Z h) (hG : GI n S Z)  {x0 : Int} (p0 : (-2147483648) ≤ x0 ∧ x0 ≤ 2147483647) : ∃ (z : Int) (Z' : xZ) (h' : mx_H), mx_Ca (tB l D b0 ad Hb tau) (d + 4) 253 [.ref 56, xI x0] h (some (xI z), h') ∧ XH n s S Z' h' ∧ GI n S Z' ∧ fr' [(56, 0), (62, (-1))] Z Z' ∧ ((-6) ≤ z ∧ z ≤ 1) := by
  obtain ⟨r, hca, z, Z', h', e, q⟩ := Jmt (B := tB l D b0 ad Hb tau) (M := mt_253) (mi := 253) (as := [.ref 56, xI x0]) (d := d + 3) (ls := [some (.ref 56), some (xI x0), none]) rfl rfl rfl rfl rfl rfl (cw_253_56 (l := l) (D := D) (b0 := b0) (ad := ad) (Hb := Hb) (tau := tau) (d := d) (Post := fun r => ∃ (z : Int) (Z' : xZ) (h' : mx_H), r = (some (xI z), h') ∧ XH n s S Z' h' ∧ GI n S Z' ∧ fr' [(56, 0), (62, (-1))] Z Z' ∧ ((-6) ≤ z ∧ z ≤ 1)) hx hG p0 (fun z Z' h' q1 q2 q3 q4 => ⟨z, Z', h', rfl, q1, q2, q3, q4⟩))
  subst e; exact ⟨z, Z', h', hca, q⟩
set_option maxRecDepth 100000 in
theorem cw_242_56 {l : Launch} {D : va_G} {b0 : Nat} {ad : Nat → Nat} {Hb : Heap} {tau : Nat → Int64} {d n s : Nat} {S : Nat → xS} {Z : xZ} {h : mx_H} {Post : mx_R → Prop} (hx : XH n s S Z h) (hG : GI n S Z)  {x0 x1 : Int} (p0 : (-2147483648) ≤ x0 ∧ x0 ≤ 2147483647) (p1 : (-2147483648) ≤ x1 ∧ x1 ≤ 2147483647) (hP : ∀ (z : Int) (Z' : xZ) (h' : mx_H), XH n s S Z' h' → GI n S Z' → fr' [(56, 0), (62, (-1)), (64, (-1)), (65, (-1)), (73, (-1)), (74, (-1))] Z Z' → (-6) ≤ z ∧ z ≤ 18 → Post (some (xI z), h')) : mx_J (tB l D b0 ad Hb tau) mt_242 (d + 7) 0 [some (.ref 56), some (xI x0), some (xI x1), none, none, none, none] [] h Post := by
    have a56 : 56 < n := lt83 (GI_n hG) rfl
    have s56 : S 56 = .inl (12, [0, 2, 2, 2, 2, 0, 0, 0, 0, 0, 0, 0, 0, 0, 0, 2, 2, 2, 0, 2, 2, 2, 0, 0, 2, 2, 2, 2, 2, 2, 0, 0, 2, 2, 2, 2, 2, 2, 2, 2, 2, 2]) := GI_s hG 56 rfl
    have a57 : 57 < n := lt83 (GI_n hG) rfl
    have s57 : S 57 = .inr (.int, 2886, 0) := GI_s hG 57 rfl
    have a73 : 73 < n := lt83 (GI_n hG) rfl
    have s73 : S 73 = .inr (.int, 7315, 0) := GI_s hG 73 rfl
    have a74 : 74 < n := lt83 (GI_n hG) rfl
    have s74 : S 74 = .inr (.int, 385, 0) := GI_s hG 74 rfl
    refine mx_J.step (sn_242 0) (fun _ _ => rfl) ?_
    refine JcI (z := 0) (show mx_Sn _ _ 1 (mx_const (.int 0) 2) from sn_242 1) rfl ?_
    refine JputI (g := 0) hx (show mx_Sn _ _ 2 (mx_putf 1 12 0 (.int) 5) from sn_242 2) a56 s56 rfl rfl rfl rfl (fun Z1 h1 hx1 hE1 => ?_)
    have hG1 := GI_up hG hE1 (show (-2147483648) ≤ 0 ∧ 0 ≤ 2147483647 by omega) trivial rfl
    refine mx_J.step (sn_242 5) (fun _ _ => rfl) ?_
    refine mx_J.step (sn_242 6) (fun _ _ => rfl) ?_
    have eq3 : Z1 81 x0 = Z 81 x0 := (up_nk hE1 rfl)
    have b4 : 0 ≤ Z 81 x0 ∧ Z 81 x0 ≤ 40 := hG.pr 81 x0
    obtain ⟨z2, hc2, b2⟩ := ct_239_56 (d := d + 4) (l := l) (D := D) (b0 := b0) (ad := ad) (Hb := Hb) (tau := tau) hx1 hG1 (show (-2147483648) ≤ x0 ∧ x0 ≤ 2147483647 by omega)
    try rw [eq3] at b2
    refine Jcv hx1 (show mx_Sn _ _ 7 (mx_callv 239 2 12 10) from sn_242 7) a56 s56 hc2 rfl rfl rfl ?_
    refine mx_J.step (ls2 := [some (.ref 56), some (xI x0), some (xI x1), some (xI z2), none, none, none]) (sn_242 10) (fun _ _ => rfl) ?_
    refine mx_J.step (sn_242 11) (fun _ _ => rfl) ?_
    refine Jif_eq (show mx_Sn _ _ 12 (mx_if_eq 17 15) from sn_242 12) (by omega) (fun q5 => ?_) (fun q5 => ?_)
    · skip
      refine mx_J.step (sn_242 17) (fun _ _ => rfl) ?_
      refine Jif_ge (show mx_Sn _ _ 18 (mx_if_ge 24 21) from sn_242 18) (by omega) (fun q6 => ?_) (fun q6 => ?_)
      · skip
        refine mx_J.step (sn_242 24) (fun _ _ => rfl) ?_
        refine mx_J.step (sn_242 25) (fun _ _ => rfl) ?_
        refine mx_J.step (sn_242 26) (fun _ _ => rfl) ?_
        have eq8 : Z1 81 x0 = Z 81 x0 := (up_nk hE1 rfl)
        obtain ⟨z7, Z7, h7, hc7, hx7, hG7, hf7, b7⟩ := ct_240_56 (d := d + 4) (l := l) (D := D) (b0 := b0) (ad := ad) (Hb := Hb) (tau := tau) hx1 hG1 (show 0 ≤ x0 ∧ x0 ≤ 3 by omega) (show Z1 81 x0 ≤ 18 by first | omega | (simp only [eq8]; omega))
        try rw [eq8] at b7
        refine Jcv hx1 (show mx_Sn _ _ 27 (mx_callv 240 2 12 30) from sn_242 27) a56 s56 hc7 rfl rfl rfl ?_
        have eq10 : Z7 56 18 = Z 56 18 := ((hf7 56 18 rfl).trans (up_ni hE1 (by decide)))
        have b11 : 0 ≤ Z 56 18 ∧ Z 56 18 ≤ 385 := hG.pr 56 18
        obtain ⟨z9, Z9, h9, hc9, hx9, hG9, hf9, b9⟩ := ct_237_56 (d := d + 0) (l := l) (D := D) (b0 := b0) (ad := ad) (Hb := Hb) (tau := tau) hx7 hG7 (show 0 ≤ z7 ∧ z7 ≤ 384 by omega)
        try rw [eq10] at b9
        refine Jcv hx7 (show mx_Sn _ _ 30 (mx_callv 237 2 12 33) from sn_242 30) a56 s56 hc9 rfl rfl rfl ?_
        refine mx_J.step (sn_242 33) (fun _ _ => rfl) ?_
        refine mx_J.step (sn_242 34) (fun _ _ => rfl) ?_
        refine JgetR (g := 1) (b := 57) hx9 (show mx_Sn _ _ 35 (mx_getf 12 1 38) from sn_242 35) a56 s56 rfl rfl (hG9.prr 56 1 rfl) ?_
        refine JcI (z := 27) (show mx_Sn _ _ 38 (mx_const (.int 27) 40) from sn_242 38) rfl ?_
        have b13 := GI_st hG 27
        have b14 : 0 ≤ Z 57 27 ∧ Z 57 27 ≤ 384 := by have hq := GI_ex hG 57 27; replace hq : f57 (27 % 962) (Z 57 27) := hq; unfold f57 at hq; omega
        have b15 : (-2147483648) ≤ Z 57 27 ∧ Z 57 27 ≤ 2147483647 := hG.pr 57 27
        refine JialdI (z := Z 57 27) hx9 (show mx_Sn _ _ 40 (mx_iald 41) from sn_242 40) a57 s57 (by omega) ((hf9 57 27 rfl).trans ((hf7 57 27 rfl).trans (up_nk hE1 rfl))) ?_
        refine mx_J.step (ls2 := [some (.ref 56), some (xI x0), some (xI x1), some (xI z2), some (xI (Z 57 27)), none, none]) (sn_242 41) (fun _ _ => rfl) ?_
        refine JcI (z := 0) (show mx_Sn _ _ 43 (mx_const (.int 0) 44) from sn_242 43) rfl ?_
        refine mx_J.step (ls2 := [some (.ref 56), some (xI x0), some (xI x1), some (xI z2), some (xI (Z 57 27)), some (xI 0), none]) (sn_242 44) (fun _ _ => rfl) ?_
        have c46 : ∀ (m16 : Nat) (w16_4 : Int) (w16_5 : Int) (u16_6 : Option Value), (((Z9 74 w16_4).toNat : Nat) : Int) < (m16 : Int) → 0 ≤ w16_4 ∧ w16_4 ≤ 384 → (-2147483648) ≤ w16_5 ∧ w16_5 ≤ 2147483647 → w16_4 < Z 56 18 → mx_J (tB l D b0 ad Hb tau) mt_242 (d + 7) 46 [some (.ref 56), some (xI x0), some (xI x1), some (xI z2), some (xI w16_4), some (xI w16_5), u16_6] [] h9 Post := by
          intro m16
          induction m16 with
          | zero => intro w16_4 w16_5 u16_6 q16 f16_0 f16_1 f16_2; exact absurd q16 (by omega)
          | succ m16 ih16 =>
            intro w16_4 w16_5 u16_6 q16 f16_0 f16_1 f16_2
            refine mx_J.step (sn_242 46) (fun _ _ => rfl) ?_
            refine JgetR (g := 33) (b := 74) hx9 (show mx_Sn _ _ 47 (mx_getf 12 33 50) from sn_242 47) a56 s56 rfl rfl (hG9.prr 56 33 rfl) ?_
            refine mx_J.step (sn_242 50) (fun _ _ => rfl) ?_
            have b18 : 0 ≤ Z9 74 w16_4 ∧ Z9 74 w16_4 ≤ 268435456 := hG9.pr 74 w16_4
            refine JialdI (z := Z9 74 w16_4) hx9 (show mx_Sn _ _ 52 (mx_iald 53) from sn_242 52) a74 s74 (by omega) rfl ?_
            have c126 : mx_J (tB l D b0 ad Hb tau) mt_242 (d + 7) 126 [some (.ref 56), some (xI x0), some (xI x1), some (xI z2), some (xI w16_4), some (xI w16_5), u16_6] [] h9 Post := by
              refine JcI (z := (-1)) (show mx_Sn _ _ 126 (mx_const (.int (-1)) 127) from sn_242 126) rfl ?_
              exact mx_J.ret (sn_242 127) (fun _ _ => rfl) (hP (-1) Z9 h9 hx9 hG9 (fr_tr (M := [(56, 0), (62, (-1)), (64, (-1)), (65, (-1)), (73, (-1)), (74, (-1))]) (fr_tr (M := [(56, 0), (62, (-1)), (64, (-1)), (65, (-1)), (73, (-1)), (74, (-1))]) (fr_tr (M := [(56, 0), (62, (-1)), (64, (-1)), (65, (-1)), (73, (-1)), (74, (-1))]) fr_rf (fr_up hE1) (M1 := []) rfl rfl) (hf7) rfl rfl) (hf9) rfl rfl) (by omega))
            refine Jif_le (show mx_Sn _ _ 53 (mx_if_le 126 56) from sn_242 53) (by omega) (fun q20 => ?_) (fun q20 => ?_)
            · skip
              exact c126 
            · skip
              refine mx_J.step (sn_242 56) (fun _ _ => rfl) ?_
              refine JgetR (g := 33) (b := 74) hx9 (show mx_Sn _ _ 57 (mx_getf 12 33 60) from sn_242 57) a56 s56 rfl rfl (hG9.prr 56 33 rfl) ?_
              refine mx_J.step (sn_242 60) (fun _ _ => rfl) ?_
              refine JialdI (z := Z9 74 w16_4) hx9 (show mx_Sn _ _ 62 (mx_iald 63) from sn_242 62) a74 s74 (by omega) rfl ?_
              refine JcI (z := 268435456) (show mx_Sn _ _ 63 (mx_const (.int 268435456) 66) from sn_242 63) rfl ?_
              refine Jicmp_ge (show mx_Sn _ _ 66 (mx_icmp_ge 126 69) from sn_242 66) (by omega) (by omega) (fun q22 => ?_) (fun q22 => ?_)
              · skip
                exact c126 
              · skip
                refine JcI (z := 0) (show mx_Sn _ _ 69 (mx_const (.int 0) 70) from sn_242 69) rfl ?_
                refine mx_J.step (ls2 := [some (.ref 56), some (xI x0), some (xI x1), some (xI z2), some (xI w16_4), some (xI w16_5), some (xI 0)]) (sn_242 70) (fun _ _ => rfl) ?_
                have c72 : ∀ (m23 : Nat) (w23_6 : Int), 19 - w23_6 < (m23 : Int) → 0 ≤ w23_6 ∧ w23_6 ≤ 18 → NF Z9 w16_4 w23_6 → mx_J (tB l D b0 ad Hb tau) mt_242 (d + 7) 72 [some (.ref 56), some (xI x0), some (xI x1), some (xI z2), some (xI w16_4), some (xI w16_5), some (xI w23_6)] [] h9 Post := by
                  intro m23
                  induction m23 with
                  | zero => intro w23_6 q23 f23_0 f23_1; exact absurd q23 (by omega)
                  | succ m23 ih23 =>
                    intro w23_6 q23 f23_0 f23_1
                    refine mx_J.step (sn_242 72) (fun _ _ => rfl) ?_
                    refine mx_J.step (sn_242 73) (fun _ _ => rfl) ?_
                    refine mx_J.step (sn_242 75) (fun _ _ => rfl) ?_
                    obtain ⟨z24, hc24, b24⟩ := ct_236_56 (d := d + 6) (l := l) (D := D) (b0 := b0) (ad := ad) (Hb := Hb) (tau := tau) hx9 hG9 (show 0 ≤ w16_4 ∧ w16_4 ≤ 384 by omega) (show 0 ≤ w23_6 ∧ w23_6 ≤ 18 by omega)
                    refine Jcv hx9 (show mx_Sn _ _ 77 (mx_callv 236 3 12 80) from sn_242 77) a56 s56 hc24 rfl rfl rfl ?_
                    refine mx_J.step (sn_242 80) (fun _ _ => rfl) ?_
                    refine JgetR (g := 33) (b := 74) hx9 (show mx_Sn _ _ 81 (mx_getf 12 33 84) from sn_242 81) a56 s56 rfl rfl (hG9.prr 56 33 rfl) ?_
                    refine mx_J.step (sn_242 84) (fun _ _ => rfl) ?_
                    refine JialdI (z := Z9 74 w16_4) hx9 (show mx_Sn _ _ 86 (mx_iald 87) from sn_242 86) a74 s74 (by omega) rfl ?_
                    refine Jicmp_eq (show mx_Sn _ _ 87 (mx_icmp_eq 96 90) from sn_242 87) (by omega) (by omega) (fun q26 => ?_) (fun q26 => ?_)
                    · skip
                      refine mx_J.step (sn_242 96) (fun _ _ => rfl) ?_
                      refine mx_J.step (sn_242 98) (fun _ _ => rfl) ?_
                      refine Jicmp_ne (show mx_Sn _ _ 99 (mx_icmp_ne 105 102) from sn_242 99) (by omega) (by omega) (fun q27 => ?_) (fun q27 => ?_)
                      · skip
                        have fe := fb_e Z9 w16_4 w23_6
                        have a7 := ai_at (Z := Z9) (c := 73) (i := 19 * w16_4 + w23_6) (len := 19 * Z 56 18) (lo := -1) (hi := Z 56 18 - 1) (by omega) (by omega)
                        refine mx_J.step (sn_242 105) (fun _ _ => rfl) ?_
                        refine JgetR (g := 32) (b := 73) hx9 (show mx_Sn _ _ 106 (mx_getf 12 32 109) from sn_242 106) a56 s56 rfl rfl (hG9.prr 56 32 rfl) ?_
                        refine JcI (z := 19) (show mx_Sn _ _ 109 (mx_const (.int 19) 111) from sn_242 109) rfl ?_
                        refine mx_J.step (sn_242 111) (fun _ _ => rfl) ?_
                        refine Jimul (show mx_Sn _ _ 113 (mx_imul 114) from sn_242 113) ?_
                        refine mx_J.step (sn_242 114) (fun _ _ => rfl) ?_
                        refine Jiadd (show mx_Sn _ _ 116 (mx_iadd 117) from sn_242 116) ?_
                        have b29 : (-1) ≤ Z9 73 ((19 * w16_4) + w23_6) ∧ Z9 73 ((19 * w16_4) + w23_6) ≤ 384 := hG9.pr 73 ((19 * w16_4) + w23_6)
                        refine JialdI (z := Z9 73 ((19 * w16_4) + w23_6)) hx9 (show mx_Sn _ _ 117 (mx_iald 118) from sn_242 117) a73 s73 (by omega) rfl ?_
                        refine mx_J.step (ls2 := [some (.ref 56), some (xI x0), some (xI x1), some (xI z2), some (xI (Z9 73 ((19 * w16_4) + w23_6))), some (xI w16_5), some (xI w23_6)]) (sn_242 118) (fun _ _ => rfl) ?_
                        refine JiincN (z := w16_5) (cz := 1) (show mx_Sn _ _ 120 (mx_iinc 5 1 123) from sn_242 120) rfl rfl rfl (fun y30 hy30 hq30 => ?_)
                        show mx_J _ _ _ _ [some (.ref 56), some (xI x0), some (xI x1), some (xI z2), some (xI (Z9 73 ((19 * w16_4) + w23_6))), some (xI y30), some (xI w23_6)] _ _ _
                        refine mx_J.step (sn_242 123) (fun _ _ => rfl) ?_
                        exact ih16 (Z9 73 ((19 * w16_4) + w23_6)) y30 (some (xI w23_6)) (by omega) (by omega) (by omega) (by omega)
                      · skip
                        refine mx_J.step (sn_242 102) (fun _ _ => rfl) ?_
                        exact mx_J.ret (sn_242 104) (fun _ _ => rfl) (hP w23_6 Z9 h9 hx9 hG9 (fr_tr (M := [(56, 0), (62, (-1)), (64, (-1)), (65, (-1)), (73, (-1)), (74, (-1))]) (fr_tr (M := [(56, 0), (62, (-1)), (64, (-1)), (65, (-1)), (73, (-1)), (74, (-1))]) (fr_tr (M := [(56, 0), (62, (-1)), (64, (-1)), (65, (-1)), (73, (-1)), (74, (-1))]) fr_rf (fr_up hE1) (M1 := []) rfl rfl) (hf7) rfl rfl) (hf9) rfl rfl) (by omega))
                    · skip
                      have nl := nf_l (Z := Z9) (m := Z 56 18) (s := w16_4) (d := w23_6 + 1) (by omega) (by omega) (nf_s (by assumption) (by omega)) (by omega) (by omega) (by omega)
                      refine Jiinc (z := w23_6) (cz := 1) (ls2 := [some (.ref 56), some (xI x0), some (xI x1), some (xI z2), some (xI w16_4), some (xI w16_5), some (xI (w23_6 + 1))]) (show mx_Sn _ _ 90 (mx_iinc 6 1 93) from sn_242 90) rfl rfl rfl rfl ?_
                      refine mx_J.step (sn_242 93) (fun _ _ => rfl) ?_
                      exact ih23 (w23_6 + 1) (by omega) (by omega) (by first | exact nf_0 (by omega) | exact nf_s (by assumption) (by omega))
                exact c72 (Int.toNat (19 - 0) + 1) 0 (by omega) (by omega) (by first | exact nf_0 (by omega) | exact nf_s (by assumption) (by omega))
        exact c46 (Int.toNat ((((Z9 74 (Z 57 27)).toNat : Nat) : Int)) + 1) (Z 57 27) 0 none (by omega) (by omega) (by omega) (by omega)
      · skip
        refine JcI (z := (-3)) (show mx_Sn _ _ 21 (mx_const (.int (-3)) 23) from sn_242 21) rfl ?_
        exact mx_J.ret (sn_242 23) (fun _ _ => rfl) (hP (-3) Z1 h1 hx1 hG1 (fr_tr (M := [(56, 0), (62, (-1)), (64, (-1)), (65, (-1)), (73, (-1)), (74, (-1))]) fr_rf (fr_up hE1) (M1 := []) rfl rfl) (by omega))
    · skip
      refine mx_J.step (sn_242 15) (fun _ _ => rfl) ?_
      exact mx_J.ret (sn_242 16) (fun _ _ => rfl) (hP z2 Z1 h1 hx1 hG1 (fr_tr (M := [(56, 0), (62, (-1)), (64, (-1)), (65, (-1)), (73, (-1)), (74, (-1))]) fr_rf (fr_up hE1) (M1 := []) rfl rfl) (by omega))
theorem ct_242_56 {l : Launch} {D : va_G} {b0 : Nat} {ad : Nat → Nat} {Hb : Heap} {tau : Nat → Int64} {d n s : Nat} {S : Nat → xS} {Z : xZ} {h : mx_H} (hx : XH n s S Z h) (hG : GI n S Z)  {x0 x1 : Int} (p0 : (-2147483648) ≤ x0 ∧ x0 ≤ 2147483647) (p1 : (-2147483648) ≤ x1 ∧ x1 ≤ 2147483647) : ∃ (z : Int) (Z' : xZ) (h' : mx_H), mx_Ca (tB l D b0 ad Hb tau) (d + 8) 242 [.ref 56, xI x0, xI x1] h (some (xI z), h') ∧ XH n s S Z' h' ∧ GI n S Z' ∧ fr' [(56, 0), (62, (-1)), (64, (-1)), (65, (-1)), (73, (-1)), (74, (-1))] Z Z' ∧ ((-6) ≤ z ∧ z ≤ 18) := by
  obtain ⟨r, hca, z, Z', h', e, q⟩ := Jmt (B := tB l D b0 ad Hb tau) (M := mt_242) (mi := 242) (as := [.ref 56, xI x0, xI x1]) (d := d + 7) (ls := [some (.ref 56), some (xI x0), some (xI x1), none, none, none, none]) rfl rfl rfl rfl rfl rfl (cw_242_56 (l := l) (D := D) (b0 := b0) (ad := ad) (Hb := Hb) (tau := tau) (d := d) (Post := fun r => ∃ (z : Int) (Z' : xZ) (h' : mx_H), r = (some (xI z), h') ∧ XH n s S Z' h' ∧ GI n S Z' ∧ fr' [(56, 0), (62, (-1)), (64, (-1)), (65, (-1)), (73, (-1)), (74, (-1))] Z Z' ∧ ((-6) ≤ z ∧ z ≤ 18)) hx hG p0 p1 (fun z Z' h' q1 q2 q3 q4 => ⟨z, Z', h', rfl, q1, q2, q3, q4⟩))
  subst e; exact ⟨z, Z', h', hca, q⟩
set_option maxRecDepth 100000 in
theorem cw_245_56 {l : Launch} {D : va_G} {b0 : Nat} {ad : Nat → Nat} {Hb : Heap} {tau : Nat → Int64} {d n s : Nat} {S : Nat → xS} {Z : xZ} {h : mx_H} {Post : mx_R → Prop} (hx : XH n s S Z h) (hG : GI n S Z)  {x0 x1 : Int} (p0 : (-2147483648) ≤ x0 ∧ x0 ≤ 2147483647) (p1 : (-2147483648) ≤ x1 ∧ x1 ≤ 2147483647) (hP : ∀ (z : Int) (Z' : xZ) (h' : mx_H), XH n s S Z' h' → GI n S Z' → fr' [(56, 0), (62, (-1)), (64, (-1)), (65, (-1)), (73, (-1)), (76, (-1)), (77, (-1))] Z Z' → (-9223372036854775808) ≤ z ∧ z ≤ 9223372036854775807 → Post (some (xL z), h')) : mx_J (tB l D b0 ad Hb tau) mt_245 (d + 6) 0 [some (.ref 56), some (xI x0), some (xI x1), none, none, none] [] h Post := by
    have a56 : 56 < n := lt83 (GI_n hG) rfl
    have s56 : S 56 = .inl (12, [0, 2, 2, 2, 2, 0, 0, 0, 0, 0, 0, 0, 0, 0, 0, 2, 2, 2, 0, 2, 2, 2, 0, 0, 2, 2, 2, 2, 2, 2, 0, 0, 2, 2, 2, 2, 2, 2, 2, 2, 2, 2]) := GI_s hG 56 rfl
    have a73 : 73 < n := lt83 (GI_n hG) rfl
    have s73 : S 73 = .inr (.int, 7315, 0) := GI_s hG 73 rfl
    have a76 : 76 < n := lt83 (GI_n hG) rfl
    have s76 : S 76 = .inr (.long, 385, 1) := GI_s hG 76 rfl
    have a77 : 77 < n := lt83 (GI_n hG) rfl
    have s77 : S 77 = .inr (.long, 385, 1) := GI_s hG 77 rfl
    refine mx_J.step (sn_245 0) (fun _ _ => rfl) ?_
    refine JcI (z := 0) (show mx_Sn _ _ 1 (mx_const (.int 0) 2) from sn_245 1) rfl ?_
    refine JputI (g := 0) hx (show mx_Sn _ _ 2 (mx_putf 1 12 0 (.int) 5) from sn_245 2) a56 s56 rfl rfl rfl rfl (fun Z1 h1 hx1 hE1 => ?_)
    have hG1 := GI_up hG hE1 (show (-2147483648) ≤ 0 ∧ 0 ≤ 2147483647 by omega) trivial rfl
    refine mx_J.step (sn_245 5) (fun _ _ => rfl) ?_
    refine Ji2l (show mx_Sn _ _ 6 (mx_i2l 7) from sn_245 6) (by omega) ?_
    obtain ⟨z2, hc2, b2⟩ := ct_208_ (d := d + 4) (l := l) (D := D) (b0 := b0) (ad := ad) (Hb := Hb) (tau := tau) hx1 hG1 (show (-9223372036854775808) ≤ x0 ∧ x0 ≤ 9223372036854775807 by omega)
    refine Jcs (show mx_Sn _ _ 7 (mx_calls 208 1 10) from sn_245 7) hc2 rfl rfl rfl ?_
    have c25 : mx_J (tB l D b0 ad Hb tau) mt_245 (d + 6) 25 [some (.ref 56), some (xI x0), some (xI x1), none, none, none] [] h1 Post := by
      refine JcL (z := (-3)) (show mx_Sn _ _ 25 (mx_const (.long (-3)) 28) from sn_245 25) rfl ?_
      exact mx_J.ret (sn_245 28) (fun _ _ => rfl) (hP (-3) Z1 h1 hx1 hG1 (fr_tr (M := [(56, 0), (62, (-1)), (64, (-1)), (65, (-1)), (73, (-1)), (76, (-1)), (77, (-1))]) fr_rf (fr_up hE1) (M1 := []) rfl rfl) (by omega))
    refine Jif_eq (show mx_Sn _ _ 10 (mx_if_eq 25 13) from sn_245 10) (by omega) (fun q4 => ?_) (fun q4 => ?_)
    · skip
      exact c25 
    · skip
      refine mx_J.step (sn_245 13) (fun _ _ => rfl) ?_
      refine Ji2l (show mx_Sn _ _ 14 (mx_i2l 15) from sn_245 14) (by omega) ?_
      refine JcL (z := 0) (show mx_Sn _ _ 15 (mx_const (.long 0) 16) from sn_245 15) rfl ?_
      refine JcL (z := 9) (show mx_Sn _ _ 16 (mx_const (.long 9) 19) from sn_245 16) rfl ?_
      obtain ⟨z5, hc5, b5⟩ := ct_154_ (d := d + 5) (l := l) (D := D) (b0 := b0) (ad := ad) (Hb := Hb) (tau := tau) hx1 hG1 (show (-9223372036854775808) ≤ x1 ∧ x1 ≤ 9223372036854775807 by omega) (show (-9223372036854775808) ≤ 0 ∧ 0 ≤ 9223372036854775807 by omega) (show (-9223372036854775808) ≤ 9 ∧ 9 ≤ 9223372036854775807 by omega)
      refine Jcs (show mx_Sn _ _ 19 (mx_calls 154 3 22) from sn_245 19) hc5 rfl rfl rfl ?_
      refine Jif_ne (show mx_Sn _ _ 22 (mx_if_ne 29 25) from sn_245 22) (by omega) (fun q6 => ?_) (fun q6 => ?_)
      · skip
        refine mx_J.step (sn_245 29) (fun _ _ => rfl) ?_
        have eq8 : Z1 56 18 = Z 56 18 := (up_ni hE1 (by decide))
        have b9 : 0 ≤ Z 56 18 ∧ Z 56 18 ≤ 385 := hG.pr 56 18
        obtain ⟨Z7, h7, hc7, hx7, hG7, hf7, b7⟩ := ct_235_56 (d := d + 0) (l := l) (D := D) (b0 := b0) (ad := ad) (Hb := Hb) (tau := tau) hx1 hG1 
        try rw [eq8] at b7
        refine Jcv0 hx1 (show mx_Sn _ _ 30 (mx_callv 235 1 12 33) from sn_245 30) a56 s56 hc7 rfl rfl rfl ?_
        refine mx_J.step (sn_245 33) (fun _ _ => rfl) ?_
        obtain ⟨Z10, h10, hc10, hx10, hG10, hf10⟩ := ct_243_56 (d := d + 5) (l := l) (D := D) (b0 := b0) (ad := ad) (Hb := Hb) (tau := tau) hx7 hG7 
        refine Jcv0 hx7 (show mx_Sn _ _ 34 (mx_callv 243 1 12 37) from sn_245 34) a56 s56 hc10 rfl rfl rfl ?_
        refine JcI (z := 0) (show mx_Sn _ _ 37 (mx_const (.int 0) 38) from sn_245 37) rfl ?_
        refine mx_J.step (ls2 := [some (.ref 56), some (xI x0), some (xI x1), some (xI 0), none, none]) (sn_245 38) (fun _ _ => rfl) ?_
        have c39 : ∀ (m11 : Nat) (w11_3 : Int) (u11_4 : Option Value) (u11_5 : Option Value) (Z12 : xZ) (h12 : mx_H), 9 - w11_3 < (m11 : Int) → 0 ≤ w11_3 ∧ w11_3 ≤ 9 → XH n s S Z12 h12 → GI n S Z12 → fr' [(76, (-1)), (77, (-1))] Z10 Z12 → mx_J (tB l D b0 ad Hb tau) mt_245 (d + 6) 39 [some (.ref 56), some (xI x0), some (xI x1), some (xI w11_3), u11_4, u11_5] [] h12 Post := by
          intro m11
          induction m11 with
          | zero => intro w11_3 u11_4 u11_5 Z12 h12 q11 f11_0 hx12 hG12 hf12; exact absurd q11 (by omega)
          | succ m11 ih11 =>
            intro w11_3 u11_4 u11_5 Z12 h12 q11 f11_0 hx12 hG12 hf12
            refine mx_J.step (sn_245 39) (fun _ _ => rfl) ?_
            refine mx_J.step (sn_245 40) (fun _ _ => rfl) ?_
            refine Jicmp_ge (show mx_Sn _ _ 41 (mx_icmp_ge 145 44) from sn_245 41) (by omega) (by omega) (fun q13 => ?_) (fun q13 => ?_)
            · skip
              refine JcL (z := 0) (show mx_Sn _ _ 145 (mx_const (.long 0) 146) from sn_245 145) rfl ?_
              refine mx_J.step (ls2 := [some (.ref 56), some (xI x0), some (xI x1), some (xL 0), none, u11_5]) (sn_245 146) (fun _ _ => rfl) ?_
              refine JcI (z := 0) (show mx_Sn _ _ 147 (mx_const (.int 0) 148) from sn_245 147) rfl ?_
              refine mx_J.step (ls2 := [some (.ref 56), some (xI x0), some (xI x1), some (xL 0), none, some (xI 0)]) (sn_245 148) (fun _ _ => rfl) ?_
              have c150 : ∀ (m14 : Nat) (w14_3 : Int) (w14_5 : Int), 385 - w14_5 < (m14 : Int) → (-9223372036854775808) ≤ w14_3 ∧ w14_3 ≤ 9223372036854775807 → 0 ≤ w14_5 ∧ w14_5 ≤ 385 → mx_J (tB l D b0 ad Hb tau) mt_245 (d + 6) 150 [some (.ref 56), some (xI x0), some (xI x1), some (xL w14_3), none, some (xI w14_5)] [] h12 Post := by
                intro m14
                induction m14 with
                | zero => intro w14_3 w14_5 q14 f14_0 f14_1; exact absurd q14 (by omega)
                | succ m14 ih14 =>
                  intro w14_3 w14_5 q14 f14_0 f14_1
                  refine mx_J.step (sn_245 150) (fun _ _ => rfl) ?_
                  refine mx_J.step (sn_245 152) (fun _ _ => rfl) ?_
                  refine JgetI (g := 18) (z := Z 56 18) hx12 (show mx_Sn _ _ 153 (mx_getf 12 18 156) from sn_245 153) a56 s56 rfl rfl ((hf12 56 18 rfl).trans ((hf10 56 18 rfl).trans ((hf7 56 18 rfl).trans (up_ni hE1 (by decide))))) ?_
                  refine Jicmp_ge (show mx_Sn _ _ 156 (mx_icmp_ge 189 159) from sn_245 156) (by omega) (by omega) (fun q16 => ?_) (fun q16 => ?_)
                  · skip
                    refine mx_J.step (sn_245 189) (fun _ _ => rfl) ?_
                    exact mx_J.ret (sn_245 190) (fun _ _ => rfl) (hP w14_3 Z12 h12 hx12 hG12 (fr_tr (M := [(56, 0), (62, (-1)), (64, (-1)), (65, (-1)), (73, (-1)), (76, (-1)), (77, (-1))]) (fr_tr (M := [(56, 0), (62, (-1)), (64, (-1)), (65, (-1)), (73, (-1)), (76, (-1)), (77, (-1))]) (fr_tr (M := [(56, 0), (62, (-1)), (64, (-1)), (65, (-1)), (73, (-1)), (76, (-1)), (77, (-1))]) (fr_tr (M := [(56, 0), (62, (-1)), (64, (-1)), (65, (-1)), (73, (-1)), (76, (-1)), (77, (-1))]) fr_rf (fr_up hE1) (M1 := []) rfl rfl) (hf7) rfl rfl) (hf10) rfl rfl) (hf12) rfl rfl) (by omega))
                  · skip
                    refine mx_J.step (sn_245 159) (fun _ _ => rfl) ?_
                    refine mx_J.step (sn_245 160) (fun _ _ => rfl) ?_
                    refine mx_J.step (sn_245 161) (fun _ _ => rfl) ?_
                    have eq18 : mn Z12 w14_5 = mn Z w14_5 := ((mn_c (fun i => hf12 61 i rfl)).trans ((mn_c (fun i => hf10 61 i rfl)).trans ((mn_c (fun i => hf7 61 i rfl)).trans (mn_c (fun i => up_nk hE1 rfl)))))
                    obtain ⟨z17, hc17, b17⟩ := ct_191_56 (d := d + 4) (l := l) (D := D) (b0 := b0) (ad := ad) (Hb := Hb) (tau := tau) hx12 hG12 (show 0 ≤ w14_5 ∧ w14_5 ≤ 384 by omega)
                    refine Jcv hx12 (show mx_Sn _ _ 163 (mx_callv 191 2 12 166) from sn_245 163) a56 s56 hc17 rfl rfl rfl ?_
                    refine mx_J.step (sn_245 166) (fun _ _ => rfl) ?_
                    have c181 : ∀ (k19_1 : Int), (-9223372036854775808) ≤ k19_1 ∧ k19_1 ≤ 9223372036854775807 → mx_J (tB l D b0 ad Hb tau) mt_245 (d + 6) 181 [some (.ref 56), some (xI x0), some (xI x1), some (xL w14_3), none, some (xI w14_5)] [xL k19_1, xL w14_3] h12 Post := by
                      intro k19_1 f19_0
                      refine JladdN (show mx_Sn _ _ 181 (mx_ladd 182) from sn_245 181) (fun y20 hy20 hq20 => ?_)
                      refine mx_J.step (ls2 := [some (.ref 56), some (xI x0), some (xI x1), some (xL y20), none, some (xI w14_5)]) (sn_245 182) (fun _ _ => rfl) ?_
                      refine Jiinc (z := w14_5) (cz := 1) (ls2 := [some (.ref 56), some (xI x0), some (xI x1), some (xL y20), none, some (xI (w14_5 + 1))]) (show mx_Sn _ _ 183 (mx_iinc 5 1 186) from sn_245 183) rfl rfl rfl rfl ?_
                      refine mx_J.step (sn_245 186) (fun _ _ => rfl) ?_
                      exact ih14 y20 (w14_5 + 1) (by omega) (by omega) (by omega)
                    refine Jicmp_ne (show mx_Sn _ _ 167 (mx_icmp_ne 180 170) from sn_245 167) (by omega) (by omega) (fun q21 => ?_) (fun q21 => ?_)
                    · skip
                      refine JcL (z := 0) (show mx_Sn _ _ 180 (mx_const (.long 0) 181) from sn_245 180) rfl ?_
                      exact c181 0 (by omega)
                    · skip
                      refine mx_J.step (sn_245 170) (fun _ _ => rfl) ?_
                      refine JgetR (g := 35) (b := 76) hx12 (show mx_Sn _ _ 171 (mx_getf 12 35 174) from sn_245 171) a56 s56 rfl rfl (hG12.prr 56 35 rfl) ?_
                      refine mx_J.step (sn_245 174) (fun _ _ => rfl) ?_
                      have b23 : (-9223372036854775808) ≤ Z12 76 w14_5 ∧ Z12 76 w14_5 ≤ 9223372036854775807 := hG12.pr 76 w14_5
                      refine JlaldL (z := Z12 76 w14_5) hx12 (show mx_Sn _ _ 176 (mx_lald 177) from sn_245 176) a76 s76 (by omega) rfl ?_
                      refine mx_J.step (sn_245 177) (fun _ _ => rfl) ?_
                      exact c181 (Z12 76 w14_5) (by omega)
              exact c150 (Int.toNat (385 - 0) + 1) 0 0 (by omega) (by omega) (by omega)
            · skip
              refine JcI (z := 0) (show mx_Sn _ _ 44 (mx_const (.int 0) 45) from sn_245 44) rfl ?_
              refine mx_J.step (ls2 := [some (.ref 56), some (xI x0), some (xI x1), some (xI w11_3), some (xI 0), u11_5]) (sn_245 45) (fun _ _ => rfl) ?_
              have c47 : ∀ (m24 : Nat) (w24_4 : Int) (u24_5 : Option Value) (Z25 : xZ) (h25 : mx_H), 385 - w24_4 < (m24 : Int) → 0 ≤ w24_4 ∧ w24_4 ≤ 385 → XH n s S Z25 h25 → GI n S Z25 → fr' [(77, (-1))] Z12 Z25 → mx_J (tB l D b0 ad Hb tau) mt_245 (d + 6) 47 [some (.ref 56), some (xI x0), some (xI x1), some (xI w11_3), some (xI w24_4), u24_5] [] h25 Post := by
                intro m24
                induction m24 with
                | zero => intro w24_4 u24_5 Z25 h25 q24 f24_0 hx25 hG25 hf25; exact absurd q24 (by omega)
                | succ m24 ih24 =>
                  intro w24_4 u24_5 Z25 h25 q24 f24_0 hx25 hG25 hf25
                  refine mx_J.step (sn_245 47) (fun _ _ => rfl) ?_
                  refine mx_J.step (sn_245 49) (fun _ _ => rfl) ?_
                  refine JgetI (g := 18) (z := Z 56 18) hx25 (show mx_Sn _ _ 50 (mx_getf 12 18 53) from sn_245 50) a56 s56 rfl rfl ((hf25 56 18 rfl).trans ((hf12 56 18 rfl).trans ((hf10 56 18 rfl).trans ((hf7 56 18 rfl).trans (up_ni hE1 (by decide)))))) ?_
                  refine Jicmp_ge (show mx_Sn _ _ 53 (mx_icmp_ge 135 56) from sn_245 53) (by omega) (by omega) (fun q27 => ?_) (fun q27 => ?_)
                  · skip
                    refine mx_J.step (sn_245 135) (fun _ _ => rfl) ?_
                    obtain ⟨Z28, h28, hc28, hx28, hG28, hf28⟩ := ct_244_56 (d := d + 5) (l := l) (D := D) (b0 := b0) (ad := ad) (Hb := Hb) (tau := tau) hx25 hG25 
                    refine Jcv0 hx25 (show mx_Sn _ _ 136 (mx_callv 244 1 12 139) from sn_245 136) a56 s56 hc28 rfl rfl rfl ?_
                    refine Jiinc (z := w11_3) (cz := 1) (ls2 := [some (.ref 56), some (xI x0), some (xI x1), some (xI (w11_3 + 1)), some (xI w24_4), u24_5]) (show mx_Sn _ _ 139 (mx_iinc 3 1 142) from sn_245 139) rfl rfl rfl rfl ?_
                    refine mx_J.step (sn_245 142) (fun _ _ => rfl) ?_
                    exact ih11 (w11_3 + 1) (some (xI w24_4)) u24_5 Z28 h28 (by omega) (by omega) hx28 hG28 (fr_tr (M := [(76, (-1)), (77, (-1))]) (fr_tr (M := [(76, (-1)), (77, (-1))]) (fr_tr (M := [(76, (-1)), (77, (-1))]) fr_rf (hf12) (M1 := []) rfl rfl) (hf25) rfl rfl) (hf28) rfl rfl)
                  · skip
                    refine JcI (z := 0) (show mx_Sn _ _ 56 (mx_const (.int 0) 57) from sn_245 56) rfl ?_
                    refine mx_J.step (ls2 := [some (.ref 56), some (xI x0), some (xI x1), some (xI w11_3), some (xI w24_4), some (xI 0)]) (sn_245 57) (fun _ _ => rfl) ?_
                    have c59 : ∀ (m29 : Nat) (w29_5 : Int) (Z30 : xZ) (h30 : mx_H), 19 - w29_5 < (m29 : Int) → 0 ≤ w29_5 ∧ w29_5 ≤ 19 → XH n s S Z30 h30 → GI n S Z30 → fr' [(77, (-1))] Z25 Z30 → mx_J (tB l D b0 ad Hb tau) mt_245 (d + 6) 59 [some (.ref 56), some (xI x0), some (xI x1), some (xI w11_3), some (xI w24_4), some (xI w29_5)] [] h30 Post := by
                      intro m29
                      induction m29 with
                      | zero => intro w29_5 Z30 h30 q29 f29_0 hx30 hG30 hf30; exact absurd q29 (by omega)
                      | succ m29 ih29 =>
                        intro w29_5 Z30 h30 q29 f29_0 hx30 hG30 hf30
                        refine mx_J.step (sn_245 59) (fun _ _ => rfl) ?_
                        refine JcI (z := 19) (show mx_Sn _ _ 61 (mx_const (.int 19) 63) from sn_245 61) rfl ?_
                        have c129 : mx_J (tB l D b0 ad Hb tau) mt_245 (d + 6) 129 [some (.ref 56), some (xI x0), some (xI x1), some (xI w11_3), some (xI w24_4), some (xI w29_5)] [] h30 Post := by
                          refine Jiinc (z := w24_4) (cz := 1) (ls2 := [some (.ref 56), some (xI x0), some (xI x1), some (xI w11_3), some (xI (w24_4 + 1)), some (xI w29_5)]) (show mx_Sn _ _ 129 (mx_iinc 4 1 132) from sn_245 129) rfl rfl rfl rfl ?_
                          refine mx_J.step (sn_245 132) (fun _ _ => rfl) ?_
                          exact ih24 (w24_4 + 1) (some (xI w29_5)) Z30 h30 (by omega) (by omega) hx30 hG30 (fr_tr (M := [(77, (-1))]) (fr_tr (M := [(77, (-1))]) fr_rf (hf25) (M1 := []) rfl rfl) (hf30) rfl rfl)
                        refine Jicmp_ge (show mx_Sn _ _ 63 (mx_icmp_ge 129 66) from sn_245 63) (by omega) (by omega) (fun q32 => ?_) (fun q32 => ?_)
                        · skip
                          exact c129 
                        · skip
                          refine mx_J.step (sn_245 66) (fun _ _ => rfl) ?_
                          refine JgetR (g := 35) (b := 76) hx30 (show mx_Sn _ _ 67 (mx_getf 12 35 70) from sn_245 67) a56 s56 rfl rfl (hG30.prr 56 35 rfl) ?_
                          refine mx_J.step (sn_245 70) (fun _ _ => rfl) ?_
                          have b34 : (-9223372036854775808) ≤ Z12 76 w24_4 ∧ Z12 76 w24_4 ≤ 9223372036854775807 := hG12.pr 76 w24_4
                          refine JlaldL (z := Z12 76 w24_4) hx30 (show mx_Sn _ _ 72 (mx_lald 73) from sn_245 72) a76 s76 (by omega) ((hf30 76 w24_4 rfl).trans (hf25 76 w24_4 rfl)) ?_
                          refine JcL (z := 0) (show mx_Sn _ _ 73 (mx_const (.long 0) 74) from sn_245 73) rfl ?_
                          refine Jlif_le (show mx_Sn _ _ 74 (mx_lif_le 129 78) from sn_245 74) (by omega) (by omega) (fun q35 => ?_) (fun q35 => ?_)
                          · skip
                            exact c129 
                          · skip
                            refine mx_J.step (sn_245 78) (fun _ _ => rfl) ?_
                            refine JgetR (g := 32) (b := 73) hx30 (show mx_Sn _ _ 79 (mx_getf 12 32 82) from sn_245 79) a56 s56 rfl rfl (hG30.prr 56 32 rfl) ?_
                            refine JcI (z := 19) (show mx_Sn _ _ 82 (mx_const (.int 19) 84) from sn_245 82) rfl ?_
                            refine mx_J.step (sn_245 84) (fun _ _ => rfl) ?_
                            refine Jimul (show mx_Sn _ _ 86 (mx_imul 87) from sn_245 86) ?_
                            refine mx_J.step (sn_245 87) (fun _ _ => rfl) ?_
                            refine Jiadd (show mx_Sn _ _ 89 (mx_iadd 90) from sn_245 89) ?_
                            have b37 : (-1) ≤ Z7 73 ((19 * w24_4) + w29_5) ∧ Z7 73 ((19 * w24_4) + w29_5) ≤ 384 := hG7.pr 73 ((19 * w24_4) + w29_5)
                            refine JialdI (z := Z7 73 ((19 * w24_4) + w29_5)) hx30 (show mx_Sn _ _ 90 (mx_iald 91) from sn_245 90) a73 s73 (by omega) ((hf30 73 ((19 * w24_4) + w29_5) rfl).trans ((hf25 73 ((19 * w24_4) + w29_5) rfl).trans ((hf12 73 ((19 * w24_4) + w29_5) rfl).trans (hf10 73 ((19 * w24_4) + w29_5) rfl)))) ?_
                            refine JcI (z := (-1)) (show mx_Sn _ _ 91 (mx_const (.int (-1)) 92) from sn_245 91) rfl ?_
                            have c123 : ∀  (Z39 : xZ) (h39 : mx_H), XH n s S Z39 h39 → GI n S Z39 → fr' [(77, (-1))] Z30 Z39 → mx_J (tB l D b0 ad Hb tau) mt_245 (d + 6) 123 [some (.ref 56), some (xI x0), some (xI x1), some (xI w11_3), some (xI w24_4), some (xI w29_5)] [] h39 Post := by
                              intro Z39 h39 hx39 hG39 hf39
                              refine Jiinc (z := w29_5) (cz := 1) (ls2 := [some (.ref 56), some (xI x0), some (xI x1), some (xI w11_3), some (xI w24_4), some (xI (w29_5 + 1))]) (show mx_Sn _ _ 123 (mx_iinc 5 1 126) from sn_245 123) rfl rfl rfl rfl ?_
                              refine mx_J.step (sn_245 126) (fun _ _ => rfl) ?_
                              exact ih29 (w29_5 + 1) Z39 h39 (by omega) (by omega) hx39 hG39 (fr_tr (M := [(77, (-1))]) (fr_tr (M := [(77, (-1))]) fr_rf (hf30) (M1 := []) rfl rfl) (hf39) rfl rfl)
                            refine Jicmp_eq (show mx_Sn _ _ 92 (mx_icmp_eq 123 95) from sn_245 92) (by omega) (by omega) (fun q40 => ?_) (fun q40 => ?_)
                            · skip
                              exact c123 Z30 h30 hx30 hG30 fr_rf
                            · skip
                              refine mx_J.step (sn_245 95) (fun _ _ => rfl) ?_
                              refine JgetR (g := 36) (b := 77) hx30 (show mx_Sn _ _ 96 (mx_getf 12 36 99) from sn_245 96) a56 s56 rfl rfl (hG30.prr 56 36 rfl) ?_
                              refine mx_J.step (sn_245 99) (fun _ _ => rfl) ?_
                              refine JgetR (g := 32) (b := 73) hx30 (show mx_Sn _ _ 100 (mx_getf 12 32 103) from sn_245 100) a56 s56 rfl rfl (hG30.prr 56 32 rfl) ?_
                              refine JcI (z := 19) (show mx_Sn _ _ 103 (mx_const (.int 19) 105) from sn_245 103) rfl ?_
                              refine mx_J.step (sn_245 105) (fun _ _ => rfl) ?_
                              refine Jimul (show mx_Sn _ _ 107 (mx_imul 108) from sn_245 107) ?_
                              refine mx_J.step (sn_245 108) (fun _ _ => rfl) ?_
                              refine Jiadd (show mx_Sn _ _ 110 (mx_iadd 111) from sn_245 110) ?_
                              refine JialdI (z := Z7 73 ((19 * w24_4) + w29_5)) hx30 (show mx_Sn _ _ 111 (mx_iald 112) from sn_245 111) a73 s73 (by omega) ((hf30 73 ((19 * w24_4) + w29_5) rfl).trans ((hf25 73 ((19 * w24_4) + w29_5) rfl).trans ((hf12 73 ((19 * w24_4) + w29_5) rfl).trans (hf10 73 ((19 * w24_4) + w29_5) rfl)))) ?_
                              refine mx_J.step (sn_245 112) (fun _ _ => rfl) ?_
                              have b43 : (-9223372036854775808) ≤ Z30 77 (Z7 73 ((19 * w24_4) + w29_5)) ∧ Z30 77 (Z7 73 ((19 * w24_4) + w29_5)) ≤ 9223372036854775807 := hG30.pr 77 (Z7 73 ((19 * w24_4) + w29_5))
                              refine JlaldL (z := Z30 77 (Z7 73 ((19 * w24_4) + w29_5))) hx30 (show mx_Sn _ _ 113 (mx_lald 114) from sn_245 113) a77 s77 (by omega) rfl ?_
                              refine mx_J.step (sn_245 114) (fun _ _ => rfl) ?_
                              refine JgetR (g := 35) (b := 76) hx30 (show mx_Sn _ _ 115 (mx_getf 12 35 118) from sn_245 115) a56 s56 rfl rfl (hG30.prr 56 35 rfl) ?_
                              refine mx_J.step (sn_245 118) (fun _ _ => rfl) ?_
                              refine JlaldL (z := Z12 76 w24_4) hx30 (show mx_Sn _ _ 120 (mx_lald 121) from sn_245 120) a76 s76 (by omega) ((hf30 76 w24_4 rfl).trans (hf25 76 w24_4 rfl)) ?_
                              refine JladdN (show mx_Sn _ _ 121 (mx_ladd 122) from sn_245 121) (fun y45 hy45 hq45 => ?_)
                              refine JlastL hx30 (show mx_Sn _ _ 122 (mx_last 1 123) from sn_245 122) a77 s77 rfl (by omega) (fun Z46 h46 hx46 hE46 => ?_)
                              have hG46 := GI_up hG30 hE46 (show (-9223372036854775808) ≤ y45 ∧ y45 ≤ 9223372036854775807 by omega) trivial rfl
                              exact c123 Z46 h46 hx46 hG46 (fr_tr (M := [(77, (-1))]) fr_rf (fr_ua hE46) (M1 := []) rfl rfl)
                    exact c59 (Int.toNat (19 - 0) + 1) 0 Z25 h25 (by omega) (by omega) hx25 hG25 fr_rf
              exact c47 (Int.toNat (385 - 0) + 1) 0 u11_5 Z12 h12 (by omega) (by omega) hx12 hG12 fr_rf
        exact c39 (Int.toNat (9 - 0) + 1) 0 none none Z10 h10 (by omega) (by omega) hx10 hG10 fr_rf
      · skip
        exact c25 
theorem ct_245_56 {l : Launch} {D : va_G} {b0 : Nat} {ad : Nat → Nat} {Hb : Heap} {tau : Nat → Int64} {d n s : Nat} {S : Nat → xS} {Z : xZ} {h : mx_H} (hx : XH n s S Z h) (hG : GI n S Z)  {x0 x1 : Int} (p0 : (-2147483648) ≤ x0 ∧ x0 ≤ 2147483647) (p1 : (-2147483648) ≤ x1 ∧ x1 ≤ 2147483647) : ∃ (z : Int) (Z' : xZ) (h' : mx_H), mx_Ca (tB l D b0 ad Hb tau) (d + 7) 245 [.ref 56, xI x0, xI x1] h (some (xL z), h') ∧ XH n s S Z' h' ∧ GI n S Z' ∧ fr' [(56, 0), (62, (-1)), (64, (-1)), (65, (-1)), (73, (-1)), (76, (-1)), (77, (-1))] Z Z' ∧ ((-9223372036854775808) ≤ z ∧ z ≤ 9223372036854775807) := by
  obtain ⟨r, hca, z, Z', h', e, q⟩ := Jmt (B := tB l D b0 ad Hb tau) (M := mt_245) (mi := 245) (as := [.ref 56, xI x0, xI x1]) (d := d + 6) (ls := [some (.ref 56), some (xI x0), some (xI x1), none, none, none]) rfl rfl rfl rfl rfl rfl (cw_245_56 (l := l) (D := D) (b0 := b0) (ad := ad) (Hb := Hb) (tau := tau) (d := d) (Post := fun r => ∃ (z : Int) (Z' : xZ) (h' : mx_H), r = (some (xL z), h') ∧ XH n s S Z' h' ∧ GI n S Z' ∧ fr' [(56, 0), (62, (-1)), (64, (-1)), (65, (-1)), (73, (-1)), (76, (-1)), (77, (-1))] Z Z' ∧ ((-9223372036854775808) ≤ z ∧ z ≤ 9223372036854775807)) hx hG p0 p1 (fun z Z' h' q1 q2 q3 q4 => ⟨z, Z', h', rfl, q1, q2, q3, q4⟩))
  subst e; exact ⟨z, Z', h', hca, q⟩
set_option maxRecDepth 100000 in
theorem cw_247_56 {l : Launch} {D : va_G} {b0 : Nat} {ad : Nat → Nat} {Hb : Heap} {tau : Nat → Int64} {d n s : Nat} {S : Nat → xS} {Z : xZ} {h : mx_H} {Post : mx_R → Prop} (hx : XH n s S Z h) (hG : GI n S Z)  {x0 : Int} (p0 : (-2147483648) ≤ x0 ∧ x0 ≤ 2147483647) (hP : ∀ (z : Int) (Z' : xZ) (h' : mx_H), XH n s S Z' h' → GI n S Z' → fr' [(56, 0), (62, (-1)), (64, (-1)), (65, (-1)), (73, (-1)), (74, (-1))] Z Z' → (-3) ≤ z ∧ z ≤ 268435455 → Post (some (xI z), h')) : mx_J (tB l D b0 ad Hb tau) mt_247 (d + 6) 0 [some (.ref 56), some (xI x0), none, none, none, none] [] h Post := by
    have a56 : 56 < n := lt83 (GI_n hG) rfl
    have s56 : S 56 = .inl (12, [0, 2, 2, 2, 2, 0, 0, 0, 0, 0, 0, 0, 0, 0, 0, 2, 2, 2, 0, 2, 2, 2, 0, 0, 2, 2, 2, 2, 2, 2, 0, 0, 2, 2, 2, 2, 2, 2, 2, 2, 2, 2]) := GI_s hG 56 rfl
    have a57 : 57 < n := lt83 (GI_n hG) rfl
    have s57 : S 57 = .inr (.int, 2886, 0) := GI_s hG 57 rfl
    have a74 : 74 < n := lt83 (GI_n hG) rfl
    have s74 : S 74 = .inr (.int, 385, 0) := GI_s hG 74 rfl
    refine mx_J.step (sn_247 0) (fun _ _ => rfl) ?_
    refine JcI (z := 0) (show mx_Sn _ _ 1 (mx_const (.int 0) 2) from sn_247 1) rfl ?_
    refine JputI (g := 0) hx (show mx_Sn _ _ 2 (mx_putf 1 12 0 (.int) 5) from sn_247 2) a56 s56 rfl rfl rfl rfl (fun Z1 h1 hx1 hE1 => ?_)
    have hG1 := GI_up hG hE1 (show (-2147483648) ≤ 0 ∧ 0 ≤ 2147483647 by omega) trivial rfl
    refine mx_J.step (sn_247 5) (fun _ _ => rfl) ?_
    refine Ji2l (show mx_Sn _ _ 6 (mx_i2l 7) from sn_247 6) (by omega) ?_
    obtain ⟨z2, hc2, b2⟩ := ct_208_ (d := d + 4) (l := l) (D := D) (b0 := b0) (ad := ad) (Hb := Hb) (tau := tau) hx1 hG1 (show (-9223372036854775808) ≤ x0 ∧ x0 ≤ 9223372036854775807 by omega)
    refine Jcs (show mx_Sn _ _ 7 (mx_calls 208 1 10) from sn_247 7) hc2 rfl rfl rfl ?_
    refine Jif_ne (show mx_Sn _ _ 10 (mx_if_ne 16 13) from sn_247 10) (by omega) (fun q3 => ?_) (fun q3 => ?_)
    · skip
      refine mx_J.step (sn_247 16) (fun _ _ => rfl) ?_
      have eq5 : Z1 56 18 = Z 56 18 := (up_ni hE1 (by decide))
      have b6 : 0 ≤ Z 56 18 ∧ Z 56 18 ≤ 385 := hG.pr 56 18
      obtain ⟨Z4, h4, hc4, hx4, hG4, hf4, b4⟩ := ct_235_56 (d := d + 0) (l := l) (D := D) (b0 := b0) (ad := ad) (Hb := Hb) (tau := tau) hx1 hG1 
      try rw [eq5] at b4
      refine Jcv0 hx1 (show mx_Sn _ _ 17 (mx_callv 235 1 12 20) from sn_247 17) a56 s56 hc4 rfl rfl rfl ?_
      refine JcI (z := 0) (show mx_Sn _ _ 20 (mx_const (.int 0) 21) from sn_247 20) rfl ?_
      refine mx_J.step (ls2 := [some (.ref 56), some (xI x0), some (xI 0), none, none, none]) (sn_247 21) (fun _ _ => rfl) ?_
      have c22 : ∀ (m7 : Nat) (w7_2 : Int) (Z8 : xZ) (h8 : mx_H), 385 - w7_2 < (m7 : Int) → 0 ≤ w7_2 ∧ w7_2 ≤ 385 → XH n s S Z8 h8 → GI n S Z8 → fr' [(74, (-1))] Z4 Z8 → mx_J (tB l D b0 ad Hb tau) mt_247 (d + 6) 22 [some (.ref 56), some (xI x0), some (xI w7_2), none, none, none] [] h8 Post := by
        intro m7
        induction m7 with
        | zero => intro w7_2 Z8 h8 q7 f7_0 hx8 hG8 hf8; exact absurd q7 (by omega)
        | succ m7 ih7 =>
          intro w7_2 Z8 h8 q7 f7_0 hx8 hG8 hf8
          refine mx_J.step (sn_247 22) (fun _ _ => rfl) ?_
          refine mx_J.step (sn_247 23) (fun _ _ => rfl) ?_
          refine JgetI (g := 18) (z := Z 56 18) hx8 (show mx_Sn _ _ 24 (mx_getf 12 18 27) from sn_247 24) a56 s56 rfl rfl ((hf8 56 18 rfl).trans ((hf4 56 18 rfl).trans (up_ni hE1 (by decide)))) ?_
          refine Jicmp_ge (show mx_Sn _ _ 27 (mx_icmp_ge 45 30) from sn_247 27) (by omega) (by omega) (fun q10 => ?_) (fun q10 => ?_)
          · skip
            refine JcI (z := 1) (show mx_Sn _ _ 45 (mx_const (.int 1) 46) from sn_247 45) rfl ?_
            refine mx_J.step (ls2 := [some (.ref 56), some (xI x0), some (xI 1), none, none, none]) (sn_247 46) (fun _ _ => rfl) ?_
            have c47 : ∀ (m11 : Nat) (w11_2 : Int) (u11_3 : Option Value) (u11_4 : Option Value) (u11_5 : Option Value) (Z12 : xZ) (h12 : mx_H), (((cn 74 268435456 Z12 (Z 56 18) + w11_2).toNat : Nat) : Int) < (m11 : Int) → 0 ≤ w11_2 ∧ w11_2 ≤ 1 → XH n s S Z12 h12 → GI n S Z12 → fr' [(74, (-1))] Z8 Z12 → mx_J (tB l D b0 ad Hb tau) mt_247 (d + 6) 47 [some (.ref 56), some (xI x0), some (xI w11_2), u11_3, u11_4, u11_5] [] h12 Post := by
              intro m11
              induction m11 with
              | zero => intro w11_2 u11_3 u11_4 u11_5 Z12 h12 q11 f11_0 hx12 hG12 hf12; exact absurd q11 (by omega)
              | succ m11 ih11 =>
                intro w11_2 u11_3 u11_4 u11_5 Z12 h12 q11 f11_0 hx12 hG12 hf12
                have cb := cn_b (Z := Z12) (c := 74) (v := 268435456) (m := Z 56 18) (by omega)
                refine mx_J.step (sn_247 47) (fun _ _ => rfl) ?_
                refine Jif_eq (show mx_Sn _ _ 48 (mx_if_eq 164 51) from sn_247 48) (by omega) (fun q13 => ?_) (fun q13 => ?_)
                · skip
                  refine mx_J.step (sn_247 164) (fun _ _ => rfl) ?_
                  refine JgetR (g := 33) (b := 74) hx12 (show mx_Sn _ _ 165 (mx_getf 12 33 168) from sn_247 165) a56 s56 rfl rfl (hG12.prr 56 33 rfl) ?_
                  refine mx_J.step (sn_247 168) (fun _ _ => rfl) ?_
                  refine JgetR (g := 1) (b := 57) hx12 (show mx_Sn _ _ 169 (mx_getf 12 1 172) from sn_247 169) a56 s56 rfl rfl (hG12.prr 56 1 rfl) ?_
                  refine JcI (z := 27) (show mx_Sn _ _ 172 (mx_const (.int 27) 174) from sn_247 172) rfl ?_
                  have b16 := GI_st hG 27
                  have b17 : 0 ≤ Z 57 27 ∧ Z 57 27 ≤ 384 := by have hq := GI_ex hG 57 27; replace hq : f57 (27 % 962) (Z 57 27) := hq; unfold f57 at hq; omega
                  have b18 : (-2147483648) ≤ Z 57 27 ∧ Z 57 27 ≤ 2147483647 := hG.pr 57 27
                  refine JialdI (z := Z 57 27) hx12 (show mx_Sn _ _ 174 (mx_iald 175) from sn_247 174) a57 s57 (by omega) ((hf12 57 27 rfl).trans ((hf8 57 27 rfl).trans ((hf4 57 27 rfl).trans (up_nk hE1 rfl)))) ?_
                  have b19 : 0 ≤ Z12 74 (Z 57 27) ∧ Z12 74 (Z 57 27) ≤ 268435456 := hG12.pr 74 (Z 57 27)
                  refine JialdI (z := Z12 74 (Z 57 27)) hx12 (show mx_Sn _ _ 175 (mx_iald 176) from sn_247 175) a74 s74 (by omega) rfl ?_
                  obtain ⟨z20, hc20, b20⟩ := ct_238_ (d := d + 5) (l := l) (D := D) (b0 := b0) (ad := ad) (Hb := Hb) (tau := tau) hx12 hG12 (show 0 ≤ Z12 74 (Z 57 27) ∧ Z12 74 (Z 57 27) ≤ 268435456 by omega)
                  refine Jcs (show mx_Sn _ _ 176 (mx_calls 238 1 179) from sn_247 176) hc20 rfl rfl rfl ?_
                  exact mx_J.ret (sn_247 179) (fun _ _ => rfl) (hP z20 Z12 h12 hx12 hG12 (fr_tr (M := [(56, 0), (62, (-1)), (64, (-1)), (65, (-1)), (73, (-1)), (74, (-1))]) (fr_tr (M := [(56, 0), (62, (-1)), (64, (-1)), (65, (-1)), (73, (-1)), (74, (-1))]) (fr_tr (M := [(56, 0), (62, (-1)), (64, (-1)), (65, (-1)), (73, (-1)), (74, (-1))]) (fr_tr (M := [(56, 0), (62, (-1)), (64, (-1)), (65, (-1)), (73, (-1)), (74, (-1))]) fr_rf (fr_up hE1) (M1 := []) rfl rfl) (hf4) rfl rfl) (hf8) rfl rfl) (hf12) rfl rfl) (by omega))
                · skip
                  refine JcI (z := 0) (show mx_Sn _ _ 51 (mx_const (.int 0) 52) from sn_247 51) rfl ?_
                  refine mx_J.step (ls2 := [some (.ref 56), some (xI x0), some (xI 0), u11_3, u11_4, u11_5]) (sn_247 52) (fun _ _ => rfl) ?_
                  refine JcI (z := 0) (show mx_Sn _ _ 53 (mx_const (.int 0) 54) from sn_247 53) rfl ?_
                  refine mx_J.step (ls2 := [some (.ref 56), some (xI x0), some (xI 0), some (xI 0), u11_4, u11_5]) (sn_247 54) (fun _ _ => rfl) ?_
                  have c55 : ∀ (m21 : Nat) (w21_2 : Int) (w21_3 : Int) (u21_4 : Option Value) (u21_5 : Option Value) (Z22 : xZ) (h22 : mx_H), 385 - w21_3 < (m21 : Int) → 0 ≤ w21_2 ∧ w21_2 ≤ 1 → 0 ≤ w21_3 ∧ w21_3 ≤ 385 → (cn 74 268435456 Z22 (Z 56 18) ≤ cn 74 268435456 Z12 (Z 56 18) ∧ (w21_2 = 1 → cn 74 268435456 Z22 (Z 56 18) < cn 74 268435456 Z12 (Z 56 18))) → XH n s S Z22 h22 → GI n S Z22 → fr' [(74, (-1))] Z12 Z22 → mx_J (tB l D b0 ad Hb tau) mt_247 (d + 6) 55 [some (.ref 56), some (xI x0), some (xI w21_2), some (xI w21_3), u21_4, u21_5] [] h22 Post := by
                    intro m21
                    induction m21 with
                    | zero => intro w21_2 w21_3 u21_4 u21_5 Z22 h22 q21 f21_0 f21_1 f21_2 hx22 hG22 hf22; exact absurd q21 (by omega)
                    | succ m21 ih21 =>
                      intro w21_2 w21_3 u21_4 u21_5 Z22 h22 q21 f21_0 f21_1 f21_2 hx22 hG22 hf22
                      refine mx_J.step (sn_247 55) (fun _ _ => rfl) ?_
                      refine mx_J.step (sn_247 56) (fun _ _ => rfl) ?_
                      refine JgetI (g := 18) (z := Z 56 18) hx22 (show mx_Sn _ _ 57 (mx_getf 12 18 60) from sn_247 57) a56 s56 rfl rfl ((hf22 56 18 rfl).trans ((hf12 56 18 rfl).trans ((hf8 56 18 rfl).trans ((hf4 56 18 rfl).trans (up_ni hE1 (by decide)))))) ?_
                      refine Jicmp_ge (show mx_Sn _ _ 60 (mx_icmp_ge 161 63) from sn_247 60) (by omega) (by omega) (fun q24 => ?_) (fun q24 => ?_)
                      · skip
                        refine mx_J.step (sn_247 161) (fun _ _ => rfl) ?_
                        exact ih11 w21_2 (some (xI w21_3)) u21_4 u21_5 Z22 h22 (by omega) (by omega) hx22 hG22 (fr_tr (M := [(74, (-1))]) (fr_tr (M := [(74, (-1))]) fr_rf (hf12) (M1 := []) rfl rfl) (hf22) rfl rfl)
                      · skip
                        refine JcI (z := 0) (show mx_Sn _ _ 63 (mx_const (.int 0) 64) from sn_247 63) rfl ?_
                        refine mx_J.step (ls2 := [some (.ref 56), some (xI x0), some (xI w21_2), some (xI w21_3), some (xI 0), u21_5]) (sn_247 64) (fun _ _ => rfl) ?_
                        refine JcI (z := 0) (show mx_Sn _ _ 66 (mx_const (.int 0) 67) from sn_247 66) rfl ?_
                        refine mx_J.step (ls2 := [some (.ref 56), some (xI x0), some (xI w21_2), some (xI w21_3), some (xI 0), some (xI 0)]) (sn_247 67) (fun _ _ => rfl) ?_
                        have c69 : ∀ (m25 : Nat) (w25_4 : Int) (w25_5 : Int), 19 - w25_5 < (m25 : Int) → 0 ≤ w25_4 ∧ w25_4 ≤ 268435456 → 0 ≤ w25_5 ∧ w25_5 ≤ 19 → mx_J (tB l D b0 ad Hb tau) mt_247 (d + 6) 69 [some (.ref 56), some (xI x0), some (xI w21_2), some (xI w21_3), some (xI w25_4), some (xI w25_5)] [] h22 Post := by
                          intro m25
                          induction m25 with
                          | zero => intro w25_4 w25_5 q25 f25_0 f25_1; exact absurd q25 (by omega)
                          | succ m25 ih25 =>
                            intro w25_4 w25_5 q25 f25_0 f25_1
                            refine mx_J.step (sn_247 69) (fun _ _ => rfl) ?_
                            refine JcI (z := 19) (show mx_Sn _ _ 71 (mx_const (.int 19) 73) from sn_247 71) rfl ?_
                            have c122 : mx_J (tB l D b0 ad Hb tau) mt_247 (d + 6) 122 [some (.ref 56), some (xI x0), some (xI w21_2), some (xI w21_3), some (xI w25_4), some (xI w25_5)] [] h22 Post := by
                              refine mx_J.step (sn_247 122) (fun _ _ => rfl) ?_
                              refine JgetR (g := 33) (b := 74) hx22 (show mx_Sn _ _ 123 (mx_getf 12 33 126) from sn_247 123) a56 s56 rfl rfl (hG22.prr 56 33 rfl) ?_
                              refine mx_J.step (sn_247 126) (fun _ _ => rfl) ?_
                              have b28 : 0 ≤ Z22 74 w21_3 ∧ Z22 74 w21_3 ≤ 268435456 := hG22.pr 74 w21_3
                              refine JialdI (z := Z22 74 w21_3) hx22 (show mx_Sn _ _ 127 (mx_iald 128) from sn_247 127) a74 s74 (by omega) rfl ?_
                              refine JcI (z := 268435456) (show mx_Sn _ _ 128 (mx_const (.int 268435456) 131) from sn_247 128) rfl ?_
                              have c155 : ∀ (w29_2 : Int) (Z30 : xZ) (h30 : mx_H), 0 ≤ w29_2 ∧ w29_2 ≤ 1 → (cn 74 268435456 Z30 (Z 56 18) ≤ cn 74 268435456 Z12 (Z 56 18) ∧ (w29_2 = 1 → cn 74 268435456 Z30 (Z 56 18) < cn 74 268435456 Z12 (Z 56 18))) → XH n s S Z30 h30 → GI n S Z30 → fr' [(74, (-1))] Z22 Z30 → mx_J (tB l D b0 ad Hb tau) mt_247 (d + 6) 155 [some (.ref 56), some (xI x0), some (xI w29_2), some (xI w21_3), some (xI w25_4), some (xI w25_5)] [] h30 Post := by
                                intro w29_2 Z30 h30 f29_0 f29_1 hx30 hG30 hf30
                                refine Jiinc (z := w21_3) (cz := 1) (ls2 := [some (.ref 56), some (xI x0), some (xI w29_2), some (xI (w21_3 + 1)), some (xI w25_4), some (xI w25_5)]) (show mx_Sn _ _ 155 (mx_iinc 3 1 158) from sn_247 155) rfl rfl rfl rfl ?_
                                refine mx_J.step (sn_247 158) (fun _ _ => rfl) ?_
                                exact ih21 w29_2 (w21_3 + 1) (some (xI w25_4)) (some (xI w25_5)) Z30 h30 (by omega) (by omega) (by omega) (by omega) hx30 hG30 (fr_tr (M := [(74, (-1))]) (fr_tr (M := [(74, (-1))]) fr_rf (hf22) (M1 := []) rfl rfl) (hf30) rfl rfl)
                              refine Jicmp_lt (show mx_Sn _ _ 131 (mx_icmp_lt 155 134) from sn_247 131) (by omega) (by omega) (fun q31 => ?_) (fun q31 => ?_)
                              · skip
                                exact c155 w21_2 Z22 h22 (by omega) (by omega) hx22 hG22 fr_rf
                              · skip
                                refine mx_J.step (sn_247 134) (fun _ _ => rfl) ?_
                                refine JcI (z := 268435456) (show mx_Sn _ _ 136 (mx_const (.int 268435456) 139) from sn_247 136) rfl ?_
                                refine Jicmp_ne (show mx_Sn _ _ 139 (mx_icmp_ne 145 142) from sn_247 139) (by omega) (by omega) (fun q32 => ?_) (fun q32 => ?_)
                                · skip
                                  refine mx_J.step (sn_247 145) (fun _ _ => rfl) ?_
                                  refine JgetR (g := 33) (b := 74) hx22 (show mx_Sn _ _ 146 (mx_getf 12 33 149) from sn_247 146) a56 s56 rfl rfl (hG22.prr 56 33 rfl) ?_
                                  refine mx_J.step (sn_247 149) (fun _ _ => rfl) ?_
                                  refine mx_J.step (sn_247 150) (fun _ _ => rfl) ?_
                                  refine JiastI hx22 (show mx_Sn _ _ 152 (mx_iast 1 153) from sn_247 152) a74 s74 rfl (by omega) (fun Z34 h34 hx34 hE34 => ?_)
                                  have hG34 := GI_up hG22 hE34 (show 0 ≤ w25_4 ∧ w25_4 ≤ 268435456 by omega) trivial rfl
                                  have cu := cn_u (v := 268435456) (m := Z 56 18) hE34 (by omega) (by omega) (by omega)
                                  refine JcI (z := 1) (show mx_Sn _ _ 153 (mx_const (.int 1) 154) from sn_247 153) rfl ?_
                                  refine mx_J.step (ls2 := [some (.ref 56), some (xI x0), some (xI 1), some (xI w21_3), some (xI w25_4), some (xI w25_5)]) (sn_247 154) (fun _ _ => rfl) ?_
                                  exact c155 1 Z34 h34 (by omega) (by omega) hx34 hG34 (fr_tr (M := [(74, (-1))]) fr_rf (fr_ua hE34) (M1 := []) rfl rfl)
                                · skip
                                  refine mx_J.step (sn_247 142) (fun _ _ => rfl) ?_
                                  exact c155 w21_2 Z22 h22 (by omega) (by omega) hx22 hG22 fr_rf
                            refine Jicmp_ge (show mx_Sn _ _ 73 (mx_icmp_ge 122 76) from sn_247 73) (by omega) (by omega) (fun q35 => ?_) (fun q35 => ?_)
                            · skip
                              exact c122 
                            · skip
                              refine mx_J.step (sn_247 76) (fun _ _ => rfl) ?_
                              refine JgetR (g := 33) (b := 74) hx22 (show mx_Sn _ _ 77 (mx_getf 12 33 80) from sn_247 77) a56 s56 rfl rfl (hG22.prr 56 33 rfl) ?_
                              refine mx_J.step (sn_247 80) (fun _ _ => rfl) ?_
                              have b37 : 0 ≤ Z22 74 w21_3 ∧ Z22 74 w21_3 ≤ 268435456 := hG22.pr 74 w21_3
                              refine JialdI (z := Z22 74 w21_3) hx22 (show mx_Sn _ _ 81 (mx_iald 82) from sn_247 81) a74 s74 (by omega) rfl ?_
                              refine JcI (z := 268435456) (show mx_Sn _ _ 82 (mx_const (.int 268435456) 85) from sn_247 82) rfl ?_
                              refine Jicmp_ne (show mx_Sn _ _ 85 (mx_icmp_ne 122 88) from sn_247 85) (by omega) (by omega) (fun q38 => ?_) (fun q38 => ?_)
                              · skip
                                exact c122 
                              · skip
                                refine mx_J.step (sn_247 88) (fun _ _ => rfl) ?_
                                refine mx_J.step (sn_247 89) (fun _ _ => rfl) ?_
                                refine mx_J.step (sn_247 90) (fun _ _ => rfl) ?_
                                refine mx_J.step (sn_247 92) (fun _ _ => rfl) ?_
                                obtain ⟨z39, hc39, b39⟩ := ct_246_56 (d := d + 4) (l := l) (D := D) (b0 := b0) (ad := ad) (Hb := Hb) (tau := tau) hx22 hG22 (show 0 ≤ w21_3 ∧ w21_3 ≤ 384 by omega) (show 0 ≤ w25_5 ∧ w25_5 ≤ 18 by omega) (show 1 ≤ x0 ∧ x0 ≤ 18 by omega)
                                refine Jcv hx22 (show mx_Sn _ _ 93 (mx_callv 246 4 12 96) from sn_247 93) a56 s56 hc39 rfl rfl rfl ?_
                                refine mx_J.step (sn_247 96) (fun _ _ => rfl) ?_
                                have c114 : ∀ (k40_0 : Int), 0 ≤ k40_0 ∧ k40_0 ≤ 268435456 → mx_J (tB l D b0 ad Hb tau) mt_247 (d + 6) 114 [some (.ref 56), some (xI x0), some (xI w21_2), some (xI w21_3), some (xI w25_4), some (xI w25_5)] [xI k40_0] h22 Post := by
                                  intro k40_0 f40_0
                                  refine mx_J.step (ls2 := [some (.ref 56), some (xI x0), some (xI w21_2), some (xI w21_3), some (xI k40_0), some (xI w25_5)]) (sn_247 114) (fun _ _ => rfl) ?_
                                  refine Jiinc (z := w25_5) (cz := 1) (ls2 := [some (.ref 56), some (xI x0), some (xI w21_2), some (xI w21_3), some (xI k40_0), some (xI (w25_5 + 1))]) (show mx_Sn _ _ 116 (mx_iinc 5 1 119) from sn_247 116) rfl rfl rfl rfl ?_
                                  refine mx_J.step (sn_247 119) (fun _ _ => rfl) ?_
                                  exact ih25 k40_0 (w25_5 + 1) (by omega) (by omega) (by omega)
                                refine Jicmp_le (show mx_Sn _ _ 98 (mx_icmp_le 112 101) from sn_247 98) (by omega) (by omega) (fun q41 => ?_) (fun q41 => ?_)
                                · skip
                                  refine mx_J.step (sn_247 112) (fun _ _ => rfl) ?_
                                  exact c114 w25_4 (by omega)
                                · skip
                                  refine mx_J.step (sn_247 101) (fun _ _ => rfl) ?_
                                  refine mx_J.step (sn_247 102) (fun _ _ => rfl) ?_
                                  refine mx_J.step (sn_247 103) (fun _ _ => rfl) ?_
                                  refine mx_J.step (sn_247 105) (fun _ _ => rfl) ?_
                                  obtain ⟨z42, hc42, b42⟩ := ct_246_56 (d := d + 4) (l := l) (D := D) (b0 := b0) (ad := ad) (Hb := Hb) (tau := tau) hx22 hG22 (show 0 ≤ w21_3 ∧ w21_3 ≤ 384 by omega) (show 0 ≤ w25_5 ∧ w25_5 ≤ 18 by omega) (show 1 ≤ x0 ∧ x0 ≤ 18 by omega)
                                  refine Jcv hx22 (show mx_Sn _ _ 106 (mx_callv 246 4 12 109) from sn_247 106) a56 s56 hc42 rfl rfl rfl ?_
                                  refine mx_J.step (sn_247 109) (fun _ _ => rfl) ?_
                                  exact c114 z42 (by omega)
                        exact c69 (Int.toNat (19 - 0) + 1) 0 0 (by omega) (by omega) (by omega)
                  exact c55 (Int.toNat (385 - 0) + 1) 0 0 u11_4 u11_5 Z12 h12 (by omega) (by omega) (by omega) (by omega) hx12 hG12 fr_rf
            exact c47 (Int.toNat ((((cn 74 268435456 Z8 (Z 56 18) + 1).toNat : Nat) : Int)) + 1) 1 none none none Z8 h8 (by omega) (by omega) hx8 hG8 fr_rf
          · skip
            refine mx_J.step (sn_247 30) (fun _ _ => rfl) ?_
            refine JgetR (g := 33) (b := 74) hx8 (show mx_Sn _ _ 31 (mx_getf 12 33 34) from sn_247 31) a56 s56 rfl rfl (hG8.prr 56 33 rfl) ?_
            refine mx_J.step (sn_247 34) (fun _ _ => rfl) ?_
            refine JcI (z := 268435456) (show mx_Sn _ _ 35 (mx_const (.int 268435456) 38) from sn_247 35) rfl ?_
            refine JiastI hx8 (show mx_Sn _ _ 38 (mx_iast 1 39) from sn_247 38) a74 s74 rfl (by omega) (fun Z44 h44 hx44 hE44 => ?_)
            have hG44 := GI_up hG8 hE44 (show 0 ≤ 268435456 ∧ 268435456 ≤ 268435456 by omega) trivial rfl
            refine Jiinc (z := w7_2) (cz := 1) (ls2 := [some (.ref 56), some (xI x0), some (xI (w7_2 + 1)), none, none, none]) (show mx_Sn _ _ 39 (mx_iinc 2 1 42) from sn_247 39) rfl rfl rfl rfl ?_
            refine mx_J.step (sn_247 42) (fun _ _ => rfl) ?_
            exact ih7 (w7_2 + 1) Z44 h44 (by omega) (by omega) hx44 hG44 (fr_tr (M := [(74, (-1))]) (fr_tr (M := [(74, (-1))]) fr_rf (hf8) (M1 := []) rfl rfl) (fr_ua hE44) rfl rfl)
      exact c22 (Int.toNat (385 - 0) + 1) 0 Z4 h4 (by omega) (by omega) hx4 hG4 fr_rf
    · skip
      refine JcI (z := (-3)) (show mx_Sn _ _ 13 (mx_const (.int (-3)) 15) from sn_247 13) rfl ?_
      exact mx_J.ret (sn_247 15) (fun _ _ => rfl) (hP (-3) Z1 h1 hx1 hG1 (fr_tr (M := [(56, 0), (62, (-1)), (64, (-1)), (65, (-1)), (73, (-1)), (74, (-1))]) fr_rf (fr_up hE1) (M1 := []) rfl rfl) (by omega))
theorem ct_247_56 {l : Launch} {D : va_G} {b0 : Nat} {ad : Nat → Nat} {Hb : Heap} {tau : Nat → Int64} {d n s : Nat} {S : Nat → xS} {Z : xZ} {h : mx_H} (hx : XH n s S Z h) (hG : GI n S Z)  {x0 : Int} (p0 : (-2147483648) ≤ x0 ∧ x0 ≤ 2147483647) : ∃ (z : Int) (Z' : xZ) (h' : mx_H), mx_Ca (tB l D b0 ad Hb tau) (d + 7) 247 [.ref 56, xI x0] h (some (xI z), h') ∧ XH n s S Z' h' ∧ GI n S Z' ∧ fr' [(56, 0), (62, (-1)), (64, (-1)), (65, (-1)), (73, (-1)), (74, (-1))] Z Z' ∧ ((-3) ≤ z ∧ z ≤ 268435455) := by
  obtain ⟨r, hca, z, Z', h', e, q⟩ := Jmt (B := tB l D b0 ad Hb tau) (M := mt_247) (mi := 247) (as := [.ref 56, xI x0]) (d := d + 6) (ls := [some (.ref 56), some (xI x0), none, none, none, none]) rfl rfl rfl rfl rfl rfl (cw_247_56 (l := l) (D := D) (b0 := b0) (ad := ad) (Hb := Hb) (tau := tau) (d := d) (Post := fun r => ∃ (z : Int) (Z' : xZ) (h' : mx_H), r = (some (xI z), h') ∧ XH n s S Z' h' ∧ GI n S Z' ∧ fr' [(56, 0), (62, (-1)), (64, (-1)), (65, (-1)), (73, (-1)), (74, (-1))] Z Z' ∧ ((-3) ≤ z ∧ z ≤ 268435455)) hx hG p0 (fun z Z' h' q1 q2 q3 q4 => ⟨z, Z', h', rfl, q1, q2, q3, q4⟩))
  subst e; exact ⟨z, Z', h', hca, q⟩
set_option maxRecDepth 100000 in
theorem cw_248_56 {l : Launch} {D : va_G} {b0 : Nat} {ad : Nat → Nat} {Hb : Heap} {tau : Nat → Int64} {d n s : Nat} {S : Nat → xS} {Z : xZ} {h : mx_H} {Post : mx_R → Prop} (hx : XH n s S Z h) (hG : GI n S Z)   (hP : ∀ (z : Int) (Z' : xZ) (h' : mx_H), XH n s S Z' h' → GI n S Z' → fr' [(56, 0), (62, (-1)), (64, (-1)), (65, (-1)), (71, (-1)), (73, (-1))] Z Z' → 1 ≤ z ∧ z ≤ 386 → Post (some (xI z), h')) : mx_J (tB l D b0 ad Hb tau) mt_248 (d + 6) 0 [some (.ref 56), none, none, none, none, none, none] [] h Post := by
    have a56 : 56 < n := lt83 (GI_n hG) rfl
    have s56 : S 56 = .inl (12, [0, 2, 2, 2, 2, 0, 0, 0, 0, 0, 0, 0, 0, 0, 0, 2, 2, 2, 0, 2, 2, 2, 0, 0, 2, 2, 2, 2, 2, 2, 0, 0, 2, 2, 2, 2, 2, 2, 2, 2, 2, 2]) := GI_s hG 56 rfl
    have a57 : 57 < n := lt83 (GI_n hG) rfl
    have s57 : S 57 = .inr (.int, 2886, 0) := GI_s hG 57 rfl
    have a71 : 71 < n := lt83 (GI_n hG) rfl
    have s71 : S 71 = .inr (.boolean, 385, 0) := GI_s hG 71 rfl
    have a73 : 73 < n := lt83 (GI_n hG) rfl
    have s73 : S 73 = .inr (.int, 7315, 0) := GI_s hG 73 rfl
    refine mx_J.step (sn_248 0) (fun _ _ => rfl) ?_
    refine JcI (z := 0) (show mx_Sn _ _ 1 (mx_const (.int 0) 2) from sn_248 1) rfl ?_
    refine JputI (g := 0) hx (show mx_Sn _ _ 2 (mx_putf 1 12 0 (.int) 5) from sn_248 2) a56 s56 rfl rfl rfl rfl (fun Z1 h1 hx1 hE1 => ?_)
    have hG1 := GI_up hG hE1 (show (-2147483648) ≤ 0 ∧ 0 ≤ 2147483647 by omega) trivial rfl
    refine mx_J.step (sn_248 5) (fun _ _ => rfl) ?_
    have eq3 : Z1 56 18 = Z 56 18 := (up_ni hE1 (by decide))
    have b4 : 0 ≤ Z 56 18 ∧ Z 56 18 ≤ 385 := hG.pr 56 18
    obtain ⟨Z2, h2, hc2, hx2, hG2, hf2, b2⟩ := ct_235_56 (d := d + 0) (l := l) (D := D) (b0 := b0) (ad := ad) (Hb := Hb) (tau := tau) hx1 hG1 
    try rw [eq3] at b2
    refine Jcv0 hx1 (show mx_Sn _ _ 6 (mx_callv 235 1 12 9) from sn_248 6) a56 s56 hc2 rfl rfl rfl ?_
    refine JcI (z := 0) (show mx_Sn _ _ 9 (mx_const (.int 0) 10) from sn_248 9) rfl ?_
    refine mx_J.step (ls2 := [some (.ref 56), some (xI 0), none, none, none, none, none]) (sn_248 10) (fun _ _ => rfl) ?_
    have c11 : ∀ (m5 : Nat) (w5_1 : Int) (Z6 : xZ) (h6 : mx_H), 385 - w5_1 < (m5 : Int) → 0 ≤ w5_1 ∧ w5_1 ≤ 385 → XH n s S Z6 h6 → GI n S Z6 → fr' [(71, (-1))] Z2 Z6 → mx_J (tB l D b0 ad Hb tau) mt_248 (d + 6) 11 [some (.ref 56), some (xI w5_1), none, none, none, none, none] [] h6 Post := by
      intro m5
      induction m5 with
      | zero => intro w5_1 Z6 h6 q5 f5_0 hx6 hG6 hf6; exact absurd q5 (by omega)
      | succ m5 ih5 =>
        intro w5_1 Z6 h6 q5 f5_0 hx6 hG6 hf6
        refine mx_J.step (sn_248 11) (fun _ _ => rfl) ?_
        refine mx_J.step (sn_248 12) (fun _ _ => rfl) ?_
        refine JgetI (g := 18) (z := Z 56 18) hx6 (show mx_Sn _ _ 13 (mx_getf 12 18 16) from sn_248 13) a56 s56 rfl rfl ((hf6 56 18 rfl).trans ((hf2 56 18 rfl).trans (up_ni hE1 (by decide)))) ?_
        refine Jicmp_ge (show mx_Sn _ _ 16 (mx_icmp_ge 47 19) from sn_248 16) (by omega) (by omega) (fun q8 => ?_) (fun q8 => ?_)
        · skip
          refine JcI (z := 1) (show mx_Sn _ _ 47 (mx_const (.int 1) 48) from sn_248 47) rfl ?_
          refine mx_J.step (ls2 := [some (.ref 56), some (xI 1), none, none, none, none, none]) (sn_248 48) (fun _ _ => rfl) ?_
          have cb6 := cn_b (Z := Z6) (c := 71) (v := 0) (m := 385) (by omega)
          refine JcI (z := 1) (show mx_Sn _ _ 49 (mx_const (.int 1) 50) from sn_248 49) rfl ?_
          refine mx_J.step (ls2 := [some (.ref 56), some (xI 1), some (xI 1), none, none, none, none]) (sn_248 50) (fun _ _ => rfl) ?_
          have c51 : ∀ (m9 : Nat) (w9_1 : Int) (w9_2 : Int) (u9_3 : Option Value) (u9_4 : Option Value) (u9_5 : Option Value) (u9_6 : Option Value) (Z10 : xZ) (h10 : mx_H), (((cn 71 0 Z10 385 + w9_2).toNat : Nat) : Int) < (m9 : Int) → 1 ≤ w9_1 ∧ w9_1 ≤ 386 → 0 ≤ w9_2 ∧ w9_2 ≤ 1 → (w9_1 + cn 71 0 Z10 385 ≤ 386) → XH n s S Z10 h10 → GI n S Z10 → fr' [(71, (-1))] Z6 Z10 → mx_J (tB l D b0 ad Hb tau) mt_248 (d + 6) 51 [some (.ref 56), some (xI w9_1), some (xI w9_2), u9_3, u9_4, u9_5, u9_6] [] h10 Post := by
            intro m9
            induction m9 with
            | zero => intro w9_1 w9_2 u9_3 u9_4 u9_5 u9_6 Z10 h10 q9 f9_0 f9_1 f9_2 hx10 hG10 hf10; exact absurd q9 (by omega)
            | succ m9 ih9 =>
              intro w9_1 w9_2 u9_3 u9_4 u9_5 u9_6 Z10 h10 q9 f9_0 f9_1 f9_2 hx10 hG10 hf10
              have cb10 := cn_b (Z := Z10) (c := 71) (v := 0) (m := 385) (by omega)
              refine mx_J.step (sn_248 51) (fun _ _ => rfl) ?_
              refine Jif_eq (show mx_Sn _ _ 52 (mx_if_eq 160 55) from sn_248 52) (by omega) (fun q11 => ?_) (fun q11 => ?_)
              · skip
                refine mx_J.step (sn_248 160) (fun _ _ => rfl) ?_
                exact mx_J.ret (sn_248 161) (fun _ _ => rfl) (hP w9_1 Z10 h10 hx10 hG10 (fr_tr (M := [(56, 0), (62, (-1)), (64, (-1)), (65, (-1)), (71, (-1)), (73, (-1))]) (fr_tr (M := [(56, 0), (62, (-1)), (64, (-1)), (65, (-1)), (71, (-1)), (73, (-1))]) (fr_tr (M := [(56, 0), (62, (-1)), (64, (-1)), (65, (-1)), (71, (-1)), (73, (-1))]) (fr_tr (M := [(56, 0), (62, (-1)), (64, (-1)), (65, (-1)), (71, (-1)), (73, (-1))]) fr_rf (fr_up hE1) (M1 := []) rfl rfl) (hf2) rfl rfl) (hf6) rfl rfl) (hf10) rfl rfl) (by omega))
              · skip
                refine mx_J.step (sn_248 55) (fun _ _ => rfl) ?_
                refine mx_J.step (ls2 := [some (.ref 56), some (xI w9_1), some (xI w9_2), some (xI w9_1), u9_4, u9_5, u9_6]) (sn_248 56) (fun _ _ => rfl) ?_
                refine JcI (z := 0) (show mx_Sn _ _ 57 (mx_const (.int 0) 58) from sn_248 57) rfl ?_
                refine mx_J.step (ls2 := [some (.ref 56), some (xI w9_1), some (xI w9_2), some (xI w9_1), some (xI 0), u9_5, u9_6]) (sn_248 58) (fun _ _ => rfl) ?_
                have c60 : ∀ (m12 : Nat) (w12_1 : Int) (w12_4 : Int) (u12_5 : Option Value) (u12_6 : Option Value) (Z13 : xZ) (h13 : mx_H), 385 - w12_4 < (m12 : Int) → 1 ≤ w12_1 ∧ w12_1 ≤ 386 → 0 ≤ w12_4 ∧ w12_4 ≤ 385 → (w12_1 + cn 71 0 Z13 385 = w9_1 + cn 71 0 Z10 385 ∧ w9_1 ≤ w12_1) → XH n s S Z13 h13 → GI n S Z13 → fr' [(71, (-1))] Z10 Z13 → mx_J (tB l D b0 ad Hb tau) mt_248 (d + 6) 60 [some (.ref 56), some (xI w12_1), some (xI w9_2), some (xI w9_1), some (xI w12_4), u12_5, u12_6] [] h13 Post := by
                  intro m12
                  induction m12 with
                  | zero => intro w12_1 w12_4 u12_5 u12_6 Z13 h13 q12 f12_0 f12_1 f12_2 hx13 hG13 hf13; exact absurd q12 (by omega)
                  | succ m12 ih12 =>
                    intro w12_1 w12_4 u12_5 u12_6 Z13 h13 q12 f12_0 f12_1 f12_2 hx13 hG13 hf13
                    have cb13 := cn_b (Z := Z13) (c := 71) (v := 0) (m := 385) (by omega)
                    refine mx_J.step (sn_248 60) (fun _ _ => rfl) ?_
                    refine mx_J.step (sn_248 62) (fun _ _ => rfl) ?_
                    refine JgetI (g := 18) (z := Z 56 18) hx13 (show mx_Sn _ _ 63 (mx_getf 12 18 66) from sn_248 63) a56 s56 rfl rfl ((hf13 56 18 rfl).trans ((hf10 56 18 rfl).trans ((hf6 56 18 rfl).trans ((hf2 56 18 rfl).trans (up_ni hE1 (by decide)))))) ?_
                    refine Jicmp_ge (show mx_Sn _ _ 66 (mx_icmp_ge 146 69) from sn_248 66) (by omega) (by omega) (fun q15 => ?_) (fun q15 => ?_)
                    · skip
                      refine mx_J.step (sn_248 146) (fun _ _ => rfl) ?_
                      refine mx_J.step (sn_248 147) (fun _ _ => rfl) ?_
                      have c156 : ∀ (k16_0 : Int), 0 ≤ k16_0 ∧ k16_0 ≤ 1 → (k16_0 = 0 ∨ ¬ w12_1 = w9_1) → mx_J (tB l D b0 ad Hb tau) mt_248 (d + 6) 156 [some (.ref 56), some (xI w12_1), some (xI w9_2), some (xI w9_1), some (xI w12_4), u12_5, u12_6] [xI k16_0] h13 Post := by
                        intro k16_0 f16_0 f16_1
                        refine mx_J.step (ls2 := [some (.ref 56), some (xI w12_1), some (xI k16_0), some (xI w9_1), some (xI w12_4), u12_5, u12_6]) (sn_248 156) (fun _ _ => rfl) ?_
                        refine mx_J.step (sn_248 157) (fun _ _ => rfl) ?_
                        exact ih9 w12_1 k16_0 (some (xI w9_1)) (some (xI w12_4)) u12_5 u12_6 Z13 h13 (by omega) (by omega) (by omega) (by omega) hx13 hG13 (fr_tr (M := [(71, (-1))]) (fr_tr (M := [(71, (-1))]) fr_rf (hf10) (M1 := []) rfl rfl) (hf13) rfl rfl)
                      refine Jicmp_eq (show mx_Sn _ _ 148 (mx_icmp_eq 155 151) from sn_248 148) (by omega) (by omega) (fun q17 => ?_) (fun q17 => ?_)
                      · skip
                        refine JcI (z := 0) (show mx_Sn _ _ 155 (mx_const (.int 0) 156) from sn_248 155) rfl ?_
                        exact c156 0 (by omega) (by omega)
                      · skip
                        refine JcI (z := 1) (show mx_Sn _ _ 151 (mx_const (.int 1) 152) from sn_248 151) rfl ?_
                        refine mx_J.step (sn_248 152) (fun _ _ => rfl) ?_
                        exact c156 1 (by omega) (by omega)
                    · skip
                      refine JcI (z := 0) (show mx_Sn _ _ 69 (mx_const (.int 0) 70) from sn_248 69) rfl ?_
                      refine mx_J.step (ls2 := [some (.ref 56), some (xI w12_1), some (xI w9_2), some (xI w9_1), some (xI w12_4), some (xI 0), u12_6]) (sn_248 70) (fun _ _ => rfl) ?_
                      have c72 : ∀ (m18 : Nat) (w18_1 : Int) (w18_5 : Int) (u18_6 : Option Value) (Z19 : xZ) (h19 : mx_H), 19 - w18_5 < (m18 : Int) → 1 ≤ w18_1 ∧ w18_1 ≤ 386 → 0 ≤ w18_5 ∧ w18_5 ≤ 19 → (w18_1 + cn 71 0 Z19 385 = w9_1 + cn 71 0 Z10 385 ∧ w9_1 ≤ w18_1) → XH n s S Z19 h19 → GI n S Z19 → fr' [(71, (-1))] Z13 Z19 → mx_J (tB l D b0 ad Hb tau) mt_248 (d + 6) 72 [some (.ref 56), some (xI w18_1), some (xI w9_2), some (xI w9_1), some (xI w12_4), some (xI w18_5), u18_6] [] h19 Post := by
                        intro m18
                        induction m18 with
                        | zero => intro w18_1 w18_5 u18_6 Z19 h19 q18 f18_0 f18_1 f18_2 hx19 hG19 hf19; exact absurd q18 (by omega)
                        | succ m18 ih18 =>
                          intro w18_1 w18_5 u18_6 Z19 h19 q18 f18_0 f18_1 f18_2 hx19 hG19 hf19
                          have cb19 := cn_b (Z := Z19) (c := 71) (v := 0) (m := 385) (by omega)
                          refine mx_J.step (sn_248 72) (fun _ _ => rfl) ?_
                          refine JcI (z := 19) (show mx_Sn _ _ 74 (mx_const (.int 19) 76) from sn_248 74) rfl ?_
                          have c140 : (w18_1 + cn 71 0 Z19 385 = w9_1 + cn 71 0 Z10 385 ∧ w9_1 ≤ w18_1) → mx_J (tB l D b0 ad Hb tau) mt_248 (d + 6) 140 [some (.ref 56), some (xI w18_1), some (xI w9_2), some (xI w9_1), some (xI w12_4), some (xI w18_5), u18_6] [] h19 Post := by
                            intro f20_0
                            have cb19 := cn_b (Z := Z19) (c := 71) (v := 0) (m := 385) (by omega)
                            refine Jiinc (z := w12_4) (cz := 1) (ls2 := [some (.ref 56), some (xI w18_1), some (xI w9_2), some (xI w9_1), some (xI (w12_4 + 1)), some (xI w18_5), u18_6]) (show mx_Sn _ _ 140 (mx_iinc 4 1 143) from sn_248 140) rfl rfl rfl rfl ?_
                            refine mx_J.step (sn_248 143) (fun _ _ => rfl) ?_
                            exact ih12 w18_1 (w12_4 + 1) (some (xI w18_5)) u18_6 Z19 h19 (by omega) (by omega) (by omega) (by omega) hx19 hG19 (fr_tr (M := [(71, (-1))]) (fr_tr (M := [(71, (-1))]) fr_rf (hf13) (M1 := []) rfl rfl) (hf19) rfl rfl)
                          refine Jicmp_ge (show mx_Sn _ _ 76 (mx_icmp_ge 140 79) from sn_248 76) (by omega) (by omega) (fun q21 => ?_) (fun q21 => ?_)
                          · skip
                            exact c140 (by omega)
                          · skip
                            refine mx_J.step (sn_248 79) (fun _ _ => rfl) ?_
                            refine JgetR (g := 28) (b := 71) hx19 (show mx_Sn _ _ 80 (mx_getf 12 28 83) from sn_248 80) a56 s56 rfl rfl (hG19.prr 56 28 rfl) ?_
                            refine mx_J.step (sn_248 83) (fun _ _ => rfl) ?_
                            have b23 : 0 ≤ Z19 71 w12_4 ∧ Z19 71 w12_4 ≤ 1 := hG19.pr 71 w12_4
                            refine JzaldI (z := Z19 71 w12_4) hx19 (show mx_Sn _ _ 85 (mx_zald 86) from sn_248 85) a71 s71 (by omega) rfl ?_
                            refine Jif_eq (show mx_Sn _ _ 86 (mx_if_eq 140 89) from sn_248 86) (by omega) (fun q24 => ?_) (fun q24 => ?_)
                            · skip
                              exact c140 (by omega)
                            · skip
                              refine mx_J.step (sn_248 89) (fun _ _ => rfl) ?_
                              refine JgetR (g := 32) (b := 73) hx19 (show mx_Sn _ _ 90 (mx_getf 12 32 93) from sn_248 90) a56 s56 rfl rfl (hG19.prr 56 32 rfl) ?_
                              refine JcI (z := 19) (show mx_Sn _ _ 93 (mx_const (.int 19) 95) from sn_248 93) rfl ?_
                              refine mx_J.step (sn_248 95) (fun _ _ => rfl) ?_
                              refine Jimul (show mx_Sn _ _ 97 (mx_imul 98) from sn_248 97) ?_
                              refine mx_J.step (sn_248 98) (fun _ _ => rfl) ?_
                              refine Jiadd (show mx_Sn _ _ 100 (mx_iadd 101) from sn_248 100) ?_
                              have b26 : (-1) ≤ Z2 73 ((19 * w12_4) + w18_5) ∧ Z2 73 ((19 * w12_4) + w18_5) ≤ 384 := hG2.pr 73 ((19 * w12_4) + w18_5)
                              refine JialdI (z := Z2 73 ((19 * w12_4) + w18_5)) hx19 (show mx_Sn _ _ 101 (mx_iald 102) from sn_248 101) a73 s73 (by omega) ((hf19 73 ((19 * w12_4) + w18_5) rfl).trans ((hf13 73 ((19 * w12_4) + w18_5) rfl).trans ((hf10 73 ((19 * w12_4) + w18_5) rfl).trans (hf6 73 ((19 * w12_4) + w18_5) rfl)))) ?_
                              refine mx_J.step (ls2 := [some (.ref 56), some (xI w18_1), some (xI w9_2), some (xI w9_1), some (xI w12_4), some (xI w18_5), some (xI (Z2 73 ((19 * w12_4) + w18_5)))]) (sn_248 102) (fun _ _ => rfl) ?_
                              refine mx_J.step (sn_248 104) (fun _ _ => rfl) ?_
                              refine JcI (z := (-1)) (show mx_Sn _ _ 106 (mx_const (.int (-1)) 107) from sn_248 106) rfl ?_
                              have c134 : ∀ (w27_1 : Int) (Z28 : xZ) (h28 : mx_H), 1 ≤ w27_1 ∧ w27_1 ≤ 386 → (w27_1 + cn 71 0 Z28 385 = w9_1 + cn 71 0 Z10 385 ∧ w9_1 ≤ w27_1) → XH n s S Z28 h28 → GI n S Z28 → fr' [(71, (-1))] Z19 Z28 → mx_J (tB l D b0 ad Hb tau) mt_248 (d + 6) 134 [some (.ref 56), some (xI w27_1), some (xI w9_2), some (xI w9_1), some (xI w12_4), some (xI w18_5), some (xI (Z2 73 ((19 * w12_4) + w18_5)))] [] h28 Post := by
                                intro w27_1 Z28 h28 f27_0 f27_1 hx28 hG28 hf28
                                have cb28 := cn_b (Z := Z28) (c := 71) (v := 0) (m := 385) (by omega)
                                refine Jiinc (z := w18_5) (cz := 1) (ls2 := [some (.ref 56), some (xI w27_1), some (xI w9_2), some (xI w9_1), some (xI w12_4), some (xI (w18_5 + 1)), some (xI (Z2 73 ((19 * w12_4) + w18_5)))]) (show mx_Sn _ _ 134 (mx_iinc 5 1 137) from sn_248 134) rfl rfl rfl rfl ?_
                                refine mx_J.step (sn_248 137) (fun _ _ => rfl) ?_
                                exact ih18 w27_1 (w18_5 + 1) (some (xI (Z2 73 ((19 * w12_4) + w18_5)))) Z28 h28 (by omega) (by omega) (by omega) (by omega) hx28 hG28 (fr_tr (M := [(71, (-1))]) (fr_tr (M := [(71, (-1))]) fr_rf (hf19) (M1 := []) rfl rfl) (hf28) rfl rfl)
                              refine Jicmp_eq (show mx_Sn _ _ 107 (mx_icmp_eq 134 110) from sn_248 107) (by omega) (by omega) (fun q29 => ?_) (fun q29 => ?_)
                              · skip
                                exact c134 w18_1 Z19 h19 (by omega) (by omega) hx19 hG19 fr_rf
                              · skip
                                refine mx_J.step (sn_248 110) (fun _ _ => rfl) ?_
                                refine JgetR (g := 28) (b := 71) hx19 (show mx_Sn _ _ 111 (mx_getf 12 28 114) from sn_248 111) a56 s56 rfl rfl (hG19.prr 56 28 rfl) ?_
                                refine mx_J.step (sn_248 114) (fun _ _ => rfl) ?_
                                have b31 : 0 ≤ Z19 71 (Z2 73 ((19 * w12_4) + w18_5)) ∧ Z19 71 (Z2 73 ((19 * w12_4) + w18_5)) ≤ 1 := hG19.pr 71 (Z2 73 ((19 * w12_4) + w18_5))
                                refine JzaldI (z := Z19 71 (Z2 73 ((19 * w12_4) + w18_5))) hx19 (show mx_Sn _ _ 116 (mx_zald 117) from sn_248 116) a71 s71 (by omega) rfl ?_
                                refine Jif_eq (show mx_Sn _ _ 117 (mx_if_eq 123 120) from sn_248 117) (by omega) (fun q32 => ?_) (fun q32 => ?_)
                                · skip
                                  refine mx_J.step (sn_248 123) (fun _ _ => rfl) ?_
                                  refine JgetR (g := 28) (b := 71) hx19 (show mx_Sn _ _ 124 (mx_getf 12 28 127) from sn_248 124) a56 s56 rfl rfl (hG19.prr 56 28 rfl) ?_
                                  refine mx_J.step (sn_248 127) (fun _ _ => rfl) ?_
                                  refine JcI (z := 1) (show mx_Sn _ _ 129 (mx_const (.int 1) 130) from sn_248 129) rfl ?_
                                  refine JzastI hx19 (show mx_Sn _ _ 130 (mx_zast 1 131) from sn_248 130) a71 s71 rfl (by omega) (by omega) (fun Z34 h34 hx34 hE34 => ?_)
                                  have hG34 := GI_up hG19 hE34 (show 0 ≤ 1 ∧ 1 ≤ 1 by omega) trivial rfl
                                  have cu := cn_u (v := 0) (m := 385) hE34 (by omega) (by omega) (by omega)
                                  have cb34 := cn_b (Z := Z34) (c := 71) (v := 0) (m := 385) (by omega)
                                  refine Jiinc (z := w18_1) (cz := 1) (ls2 := [some (.ref 56), some (xI (w18_1 + 1)), some (xI w9_2), some (xI w9_1), some (xI w12_4), some (xI w18_5), some (xI (Z2 73 ((19 * w12_4) + w18_5)))]) (show mx_Sn _ _ 131 (mx_iinc 1 1 134) from sn_248 131) rfl rfl rfl rfl ?_
                                  exact c134 (w18_1 + 1) Z34 h34 (by omega) (by omega) hx34 hG34 (fr_tr (M := [(71, (-1))]) fr_rf (fr_ua hE34) (M1 := []) rfl rfl)
                                · skip
                                  refine mx_J.step (sn_248 120) (fun _ _ => rfl) ?_
                                  exact c134 w18_1 Z19 h19 (by omega) (by omega) hx19 hG19 fr_rf
                      exact c72 (Int.toNat (19 - 0) + 1) w12_1 0 u12_6 Z13 h13 (by omega) (by omega) (by omega) (by omega) hx13 hG13 fr_rf
                exact c60 (Int.toNat (385 - 0) + 1) w9_1 0 u9_5 u9_6 Z10 h10 (by omega) (by omega) (by omega) (by omega) hx10 hG10 fr_rf
          exact c51 (Int.toNat ((((cn 71 0 Z6 385 + 1).toNat : Nat) : Int)) + 1) 1 1 none none none none Z6 h6 (by omega) (by omega) (by omega) (by omega) hx6 hG6 fr_rf
        · skip
          refine mx_J.step (sn_248 19) (fun _ _ => rfl) ?_
          refine JgetR (g := 28) (b := 71) hx6 (show mx_Sn _ _ 20 (mx_getf 12 28 23) from sn_248 20) a56 s56 rfl rfl (hG6.prr 56 28 rfl) ?_
          refine mx_J.step (sn_248 23) (fun _ _ => rfl) ?_
          refine mx_J.step (sn_248 24) (fun _ _ => rfl) ?_
          refine mx_J.step (sn_248 25) (fun _ _ => rfl) ?_
          refine JgetR (g := 1) (b := 57) hx6 (show mx_Sn _ _ 26 (mx_getf 12 1 29) from sn_248 26) a56 s56 rfl rfl (hG6.prr 56 1 rfl) ?_
          refine JcI (z := 27) (show mx_Sn _ _ 29 (mx_const (.int 27) 31) from sn_248 29) rfl ?_
          have b37 := GI_st hG 27
          have b38 : 0 ≤ Z 57 27 ∧ Z 57 27 ≤ 384 := by have hq := GI_ex hG 57 27; replace hq : f57 (27 % 962) (Z 57 27) := hq; unfold f57 at hq; omega
          have b39 : (-2147483648) ≤ Z 57 27 ∧ Z 57 27 ≤ 2147483647 := hG.pr 57 27
          refine JialdI (z := Z 57 27) hx6 (show mx_Sn _ _ 31 (mx_iald 32) from sn_248 31) a57 s57 (by omega) ((hf6 57 27 rfl).trans ((hf2 57 27 rfl).trans (up_nk hE1 rfl))) ?_
          have c40 : ∀ (k40_2 : Int), 0 ≤ k40_2 ∧ k40_2 ≤ 1 → mx_J (tB l D b0 ad Hb tau) mt_248 (d + 6) 40 [some (.ref 56), some (xI w5_1), none, none, none, none, none] [xI k40_2, xI w5_1, .ref 71] h6 Post := by
            intro k40_2 f40_0
            refine JzastI hx6 (show mx_Sn _ _ 40 (mx_zast 1 41) from sn_248 40) a71 s71 rfl (by omega) (by omega) (fun Z41 h41 hx41 hE41 => ?_)
            have hG41 := GI_up hG6 hE41 (show 0 ≤ k40_2 ∧ k40_2 ≤ 1 by omega) trivial rfl
            refine Jiinc (z := w5_1) (cz := 1) (ls2 := [some (.ref 56), some (xI (w5_1 + 1)), none, none, none, none, none]) (show mx_Sn _ _ 41 (mx_iinc 1 1 44) from sn_248 41) rfl rfl rfl rfl ?_
            refine mx_J.step (sn_248 44) (fun _ _ => rfl) ?_
            exact ih5 (w5_1 + 1) Z41 h41 (by omega) (by omega) hx41 hG41 (fr_tr (M := [(71, (-1))]) (fr_tr (M := [(71, (-1))]) fr_rf (hf6) (M1 := []) rfl rfl) (fr_ua hE41) rfl rfl)
          refine Jicmp_ne (show mx_Sn _ _ 32 (mx_icmp_ne 39 35) from sn_248 32) (by omega) (by omega) (fun q42 => ?_) (fun q42 => ?_)
          · skip
            refine JcI (z := 0) (show mx_Sn _ _ 39 (mx_const (.int 0) 40) from sn_248 39) rfl ?_
            exact c40 0 (by omega)
          · skip
            refine JcI (z := 1) (show mx_Sn _ _ 35 (mx_const (.int 1) 36) from sn_248 35) rfl ?_
            refine mx_J.step (sn_248 36) (fun _ _ => rfl) ?_
            exact c40 1 (by omega)
    exact c11 (Int.toNat (385 - 0) + 1) 0 Z2 h2 (by omega) (by omega) hx2 hG2 fr_rf
theorem ct_248_56 {l : Launch} {D : va_G} {b0 : Nat} {ad : Nat → Nat} {Hb : Heap} {tau : Nat → Int64} {d n s : Nat} {S : Nat → xS} {Z : xZ} {h : mx_H} (hx : XH n s S Z h) (hG : GI n S Z)   : ∃ (z : Int) (Z' : xZ) (h' : mx_H), mx_Ca (tB l D b0 ad Hb tau) (d + 7) 248 [.ref 56] h (some (xI z), h') ∧ XH n s S Z' h' ∧ GI n S Z' ∧ fr' [(56, 0), (62, (-1)), (64, (-1)), (65, (-1)), (71, (-1)), (73, (-1))] Z Z' ∧ (1 ≤ z ∧ z ≤ 386) := by
  obtain ⟨r, hca, z, Z', h', e, q⟩ := Jmt (B := tB l D b0 ad Hb tau) (M := mt_248) (mi := 248) (as := [.ref 56]) (d := d + 6) (ls := [some (.ref 56), none, none, none, none, none, none]) rfl rfl rfl rfl rfl rfl (cw_248_56 (l := l) (D := D) (b0 := b0) (ad := ad) (Hb := Hb) (tau := tau) (d := d) (Post := fun r => ∃ (z : Int) (Z' : xZ) (h' : mx_H), r = (some (xI z), h') ∧ XH n s S Z' h' ∧ GI n S Z' ∧ fr' [(56, 0), (62, (-1)), (64, (-1)), (65, (-1)), (71, (-1)), (73, (-1))] Z Z' ∧ (1 ≤ z ∧ z ≤ 386)) hx hG  (fun z Z' h' q1 q2 q3 q4 => ⟨z, Z', h', rfl, q1, q2, q3, q4⟩))
  subst e; exact ⟨z, Z', h', hca, q⟩
set_option maxRecDepth 100000 in
theorem cw_267_56 {l : Launch} {D : va_G} {b0 : Nat} {ad : Nat → Nat} {Hb : Heap} {tau : Nat → Int64} {d n s : Nat} {S : Nat → xS} {Z : xZ} {h : mx_H} {Post : mx_R → Prop} (hx : XH n s S Z h) (hG : GI n S Z)  {x0 : Int} (p0 : 1 ≤ x0 ∧ x0 ≤ 18) (hP : ∀ (z : Int) (Z' : xZ) (h' : mx_H), XH n s S Z' h' → GI n S Z' → fr' [(62, (-1)), (64, (-1)), (65, (-1)), (73, (-1)), (74, (-1)), (75, (-1))] Z Z' → 0 ≤ z ∧ z ≤ 268435456 → Post (some (xI z), h')) : mx_J (tB l D b0 ad Hb tau) mt_267 (d + 6) 0 [some (.ref 56), some (xI x0), none, none, none, none] [] h Post := by
    have a56 : 56 < n := lt83 (GI_n hG) rfl
    have s56 : S 56 = .inl (12, [0, 2, 2, 2, 2, 0, 0, 0, 0, 0, 0, 0, 0, 0, 0, 2, 2, 2, 0, 2, 2, 2, 0, 0, 2, 2, 2, 2, 2, 2, 0, 0, 2, 2, 2, 2, 2, 2, 2, 2, 2, 2]) := GI_s hG 56 rfl
    have a57 : 57 < n := lt83 (GI_n hG) rfl
    have s57 : S 57 = .inr (.int, 2886, 0) := GI_s hG 57 rfl
    have a74 : 74 < n := lt83 (GI_n hG) rfl
    have s74 : S 74 = .inr (.int, 385, 0) := GI_s hG 74 rfl
    have a75 : 75 < n := lt83 (GI_n hG) rfl
    have s75 : S 75 = .inr (.int, 385, 0) := GI_s hG 75 rfl
    refine mx_J.step (sn_267 0) (fun _ _ => rfl) ?_
    have b2 : 0 ≤ Z 56 18 ∧ Z 56 18 ≤ 385 := hG.pr 56 18
    obtain ⟨Z1, h1, hc1, hx1, hG1, hf1, b1⟩ := ct_235_56 (d := d + 0) (l := l) (D := D) (b0 := b0) (ad := ad) (Hb := Hb) (tau := tau) hx hG 
    refine Jcv0 hx (show mx_Sn _ _ 1 (mx_callv 235 1 12 4) from sn_267 1) a56 s56 hc1 rfl rfl rfl ?_
    refine JcI (z := 0) (show mx_Sn _ _ 4 (mx_const (.int 0) 5) from sn_267 4) rfl ?_
    refine mx_J.step (ls2 := [some (.ref 56), some (xI x0), some (xI 0), none, none, none]) (sn_267 5) (fun _ _ => rfl) ?_
    have c6 : ∀ (m3 : Nat) (w3_2 : Int) (Z4 : xZ) (h4 : mx_H), 385 - w3_2 < (m3 : Int) → 0 ≤ w3_2 ∧ w3_2 ≤ 385 → XH n s S Z4 h4 → GI n S Z4 → fr' [(74, (-1)), (75, (-1))] Z1 Z4 → mx_J (tB l D b0 ad Hb tau) mt_267 (d + 6) 6 [some (.ref 56), some (xI x0), some (xI w3_2), none, none, none] [] h4 Post := by
      intro m3
      induction m3 with
      | zero => intro w3_2 Z4 h4 q3 f3_0 hx4 hG4 hf4; exact absurd q3 (by omega)
      | succ m3 ih3 =>
        intro w3_2 Z4 h4 q3 f3_0 hx4 hG4 hf4
        refine mx_J.step (sn_267 6) (fun _ _ => rfl) ?_
        refine mx_J.step (sn_267 7) (fun _ _ => rfl) ?_
        refine JgetI (g := 18) (z := Z 56 18) hx4 (show mx_Sn _ _ 8 (mx_getf 12 18 11) from sn_267 8) a56 s56 rfl rfl ((hf4 56 18 rfl).trans (hf1 56 18 rfl)) ?_
        refine Jicmp_ge (show mx_Sn _ _ 11 (mx_icmp_ge 54 14) from sn_267 11) (by omega) (by omega) (fun q6 => ?_) (fun q6 => ?_)
        · skip
          refine JcI (z := 1) (show mx_Sn _ _ 54 (mx_const (.int 1) 55) from sn_267 54) rfl ?_
          refine mx_J.step (ls2 := [some (.ref 56), some (xI x0), some (xI 1), none, none, none]) (sn_267 55) (fun _ _ => rfl) ?_
          have c56 : ∀ (m7 : Nat) (w7_2 : Int) (u7_3 : Option Value) (u7_4 : Option Value) (u7_5 : Option Value) (Z8 : xZ) (h8 : mx_H), ((((sn 74 Z8 (Z 56 18) + sn 75 Z8 (Z 56 18)) + w7_2).toNat : Nat) : Int) < (m7 : Int) → 0 ≤ w7_2 ∧ w7_2 ≤ 1 → XH n s S Z8 h8 → GI n S Z8 → fr' [(74, (-1)), (75, (-1))] Z4 Z8 → mx_J (tB l D b0 ad Hb tau) mt_267 (d + 6) 56 [some (.ref 56), some (xI x0), some (xI w7_2), u7_3, u7_4, u7_5] [] h8 Post := by
            intro m7
            induction m7 with
            | zero => intro w7_2 u7_3 u7_4 u7_5 Z8 h8 q7 f7_0 hx8 hG8 hf8; exact absurd q7 (by omega)
            | succ m7 ih7 =>
              intro w7_2 u7_3 u7_4 u7_5 Z8 h8 q7 f7_0 hx8 hG8 hf8
              have p4 := sn_p (Z := Z8) (c := 74) (m := Z 56 18) (fun i => (hG8.pr 74 i).1)
              have p5 := sn_p (Z := Z8) (c := 75) (m := Z 56 18) (fun i => (hG8.pr 75 i).1)
              refine mx_J.step (sn_267 56) (fun _ _ => rfl) ?_
              refine Jif_eq (show mx_Sn _ _ 57 (mx_if_eq 216 60) from sn_267 57) (by omega) (fun q9 => ?_) (fun q9 => ?_)
              · skip
                refine mx_J.step (sn_267 216) (fun _ _ => rfl) ?_
                refine JgetR (g := 33) (b := 74) hx8 (show mx_Sn _ _ 217 (mx_getf 12 33 220) from sn_267 217) a56 s56 rfl rfl (hG8.prr 56 33 rfl) ?_
                refine mx_J.step (sn_267 220) (fun _ _ => rfl) ?_
                refine JgetR (g := 1) (b := 57) hx8 (show mx_Sn _ _ 221 (mx_getf 12 1 224) from sn_267 221) a56 s56 rfl rfl (hG8.prr 56 1 rfl) ?_
                refine JcI (z := 27) (show mx_Sn _ _ 224 (mx_const (.int 27) 226) from sn_267 224) rfl ?_
                have b12 := GI_st hG 27
                have b13 : 0 ≤ Z 57 27 ∧ Z 57 27 ≤ 384 := by have hq := GI_ex hG 57 27; replace hq : f57 (27 % 962) (Z 57 27) := hq; unfold f57 at hq; omega
                have b14 : (-2147483648) ≤ Z 57 27 ∧ Z 57 27 ≤ 2147483647 := hG.pr 57 27
                refine JialdI (z := Z 57 27) hx8 (show mx_Sn _ _ 226 (mx_iald 227) from sn_267 226) a57 s57 (by omega) ((hf8 57 27 rfl).trans ((hf4 57 27 rfl).trans (hf1 57 27 rfl))) ?_
                have b15 : 0 ≤ Z8 74 (Z 57 27) ∧ Z8 74 (Z 57 27) ≤ 268435456 := hG8.pr 74 (Z 57 27)
                refine JialdI (z := Z8 74 (Z 57 27)) hx8 (show mx_Sn _ _ 227 (mx_iald 228) from sn_267 227) a74 s74 (by omega) rfl ?_
                exact mx_J.ret (sn_267 228) (fun _ _ => rfl) (hP (Z8 74 (Z 57 27)) Z8 h8 hx8 hG8 (fr_tr (M := [(62, (-1)), (64, (-1)), (65, (-1)), (73, (-1)), (74, (-1)), (75, (-1))]) (fr_tr (M := [(62, (-1)), (64, (-1)), (65, (-1)), (73, (-1)), (74, (-1)), (75, (-1))]) (fr_tr (M := [(62, (-1)), (64, (-1)), (65, (-1)), (73, (-1)), (74, (-1)), (75, (-1))]) fr_rf (hf1) (M1 := []) rfl rfl) (hf4) rfl rfl) (hf8) rfl rfl) (by omega))
              · skip
                refine JcI (z := 0) (show mx_Sn _ _ 60 (mx_const (.int 0) 61) from sn_267 60) rfl ?_
                refine mx_J.step (ls2 := [some (.ref 56), some (xI x0), some (xI 0), u7_3, u7_4, u7_5]) (sn_267 61) (fun _ _ => rfl) ?_
                refine JcI (z := 0) (show mx_Sn _ _ 62 (mx_const (.int 0) 63) from sn_267 62) rfl ?_
                refine mx_J.step (ls2 := [some (.ref 56), some (xI x0), some (xI 0), some (xI 0), u7_4, u7_5]) (sn_267 63) (fun _ _ => rfl) ?_
                have c64 : ∀ (m16 : Nat) (w16_2 : Int) (w16_3 : Int) (u16_4 : Option Value) (u16_5 : Option Value) (Z17 : xZ) (h17 : mx_H), 385 - w16_3 < (m16 : Int) → 0 ≤ w16_2 ∧ w16_2 ≤ 1 → 0 ≤ w16_3 ∧ w16_3 ≤ 385 → ((sn 74 Z17 (Z 56 18) + sn 75 Z17 (Z 56 18)) ≤ (sn 74 Z8 (Z 56 18) + sn 75 Z8 (Z 56 18)) ∧ (w16_2 = 1 → (sn 74 Z17 (Z 56 18) + sn 75 Z17 (Z 56 18)) < (sn 74 Z8 (Z 56 18) + sn 75 Z8 (Z 56 18)))) → XH n s S Z17 h17 → GI n S Z17 → fr' [(74, (-1)), (75, (-1))] Z8 Z17 → mx_J (tB l D b0 ad Hb tau) mt_267 (d + 6) 64 [some (.ref 56), some (xI x0), some (xI w16_2), some (xI w16_3), u16_4, u16_5] [] h17 Post := by
                  intro m16
                  induction m16 with
                  | zero => intro w16_2 w16_3 u16_4 u16_5 Z17 h17 q16 f16_0 f16_1 f16_2 hx17 hG17 hf17; exact absurd q16 (by omega)
                  | succ m16 ih16 =>
                    intro w16_2 w16_3 u16_4 u16_5 Z17 h17 q16 f16_0 f16_1 f16_2 hx17 hG17 hf17
                    refine mx_J.step (sn_267 64) (fun _ _ => rfl) ?_
                    refine mx_J.step (sn_267 65) (fun _ _ => rfl) ?_
                    refine JgetI (g := 18) (z := Z 56 18) hx17 (show mx_Sn _ _ 66 (mx_getf 12 18 69) from sn_267 66) a56 s56 rfl rfl ((hf17 56 18 rfl).trans ((hf8 56 18 rfl).trans ((hf4 56 18 rfl).trans (hf1 56 18 rfl)))) ?_
                    refine Jicmp_ge (show mx_Sn _ _ 69 (mx_icmp_ge 213 72) from sn_267 69) (by omega) (by omega) (fun q19 => ?_) (fun q19 => ?_)
                    · skip
                      refine mx_J.step (sn_267 213) (fun _ _ => rfl) ?_
                      exact ih7 w16_2 (some (xI w16_3)) u16_4 u16_5 Z17 h17 (by omega) (by omega) hx17 hG17 (fr_tr (M := [(74, (-1)), (75, (-1))]) (fr_tr (M := [(74, (-1)), (75, (-1))]) fr_rf (hf8) (M1 := []) rfl rfl) (hf17) rfl rfl)
                    · skip
                      refine mx_J.step (sn_267 72) (fun _ _ => rfl) ?_
                      refine mx_J.step (sn_267 73) (fun _ _ => rfl) ?_
                      have eq21 : mn Z17 w16_3 = mn Z w16_3 := ((mn_c (fun i => hf17 61 i rfl)).trans ((mn_c (fun i => hf8 61 i rfl)).trans ((mn_c (fun i => hf4 61 i rfl)).trans (mn_c (fun i => hf1 61 i rfl)))))
                      obtain ⟨z20, hc20, b20⟩ := ct_191_56 (d := d + 4) (l := l) (D := D) (b0 := b0) (ad := ad) (Hb := Hb) (tau := tau) hx17 hG17 (show 0 ≤ w16_3 ∧ w16_3 ≤ 384 by omega)
                      refine Jcv hx17 (show mx_Sn _ _ 74 (mx_callv 191 2 12 77) from sn_267 74) a56 s56 hc20 rfl rfl rfl ?_
                      refine mx_J.step (sn_267 77) (fun _ _ => rfl) ?_
                      have c207 : ∀ (w22_2 : Int) (u22_4 : Option Value) (u22_5 : Option Value) (Z23 : xZ) (h23 : mx_H), 0 ≤ w22_2 ∧ w22_2 ≤ 1 → ((sn 74 Z23 (Z 56 18) + sn 75 Z23 (Z 56 18)) ≤ (sn 74 Z8 (Z 56 18) + sn 75 Z8 (Z 56 18)) ∧ (w22_2 = 1 → (sn 74 Z23 (Z 56 18) + sn 75 Z23 (Z 56 18)) < (sn 74 Z8 (Z 56 18) + sn 75 Z8 (Z 56 18)))) → XH n s S Z23 h23 → GI n S Z23 → fr' [(74, (-1)), (75, (-1))] Z17 Z23 → mx_J (tB l D b0 ad Hb tau) mt_267 (d + 6) 207 [some (.ref 56), some (xI x0), some (xI w22_2), some (xI w16_3), u22_4, u22_5] [] h23 Post := by
                        intro w22_2 u22_4 u22_5 Z23 h23 f22_0 f22_1 hx23 hG23 hf23
                        refine Jiinc (z := w16_3) (cz := 1) (ls2 := [some (.ref 56), some (xI x0), some (xI w22_2), some (xI (w16_3 + 1)), u22_4, u22_5]) (show mx_Sn _ _ 207 (mx_iinc 3 1 210) from sn_267 207) rfl rfl rfl rfl ?_
                        refine mx_J.step (sn_267 210) (fun _ _ => rfl) ?_
                        exact ih16 w22_2 (w16_3 + 1) u22_4 u22_5 Z23 h23 (by omega) (by omega) (by omega) (by omega) hx23 hG23 (fr_tr (M := [(74, (-1)), (75, (-1))]) (fr_tr (M := [(74, (-1)), (75, (-1))]) fr_rf (hf17) (M1 := []) rfl rfl) (hf23) rfl rfl)
                      refine Jicmp_gt (show mx_Sn _ _ 78 (mx_icmp_gt 84 81) from sn_267 78) (by omega) (by omega) (fun q24 => ?_) (fun q24 => ?_)
                      · skip
                        refine mx_J.step (sn_267 84) (fun _ _ => rfl) ?_
                        refine JgetR (g := 33) (b := 74) hx17 (show mx_Sn _ _ 85 (mx_getf 12 33 88) from sn_267 85) a56 s56 rfl rfl (hG17.prr 56 33 rfl) ?_
                        refine mx_J.step (sn_267 88) (fun _ _ => rfl) ?_
                        have b26 : 0 ≤ Z17 74 w16_3 ∧ Z17 74 w16_3 ≤ 268435456 := hG17.pr 74 w16_3
                        refine JialdI (z := Z17 74 w16_3) hx17 (show mx_Sn _ _ 89 (mx_iald 90) from sn_267 89) a74 s74 (by omega) rfl ?_
                        refine mx_J.step (ls2 := [some (.ref 56), some (xI x0), some (xI w16_2), some (xI w16_3), some (xI (Z17 74 w16_3)), u16_5]) (sn_267 90) (fun _ _ => rfl) ?_
                        refine JcI (z := 0) (show mx_Sn _ _ 92 (mx_const (.int 0) 93) from sn_267 92) rfl ?_
                        refine mx_J.step (ls2 := [some (.ref 56), some (xI x0), some (xI w16_2), some (xI w16_3), some (xI (Z17 74 w16_3)), some (xI 0)]) (sn_267 93) (fun _ _ => rfl) ?_
                        have c95 : ∀ (m27 : Nat) (w27_4 : Int) (w27_5 : Int), 19 - w27_5 < (m27 : Int) → 0 ≤ w27_4 ∧ w27_4 ≤ 268435456 → 0 ≤ w27_5 ∧ w27_5 ≤ 19 → w27_4 ≤ Z17 74 w16_3 → mx_J (tB l D b0 ad Hb tau) mt_267 (d + 6) 95 [some (.ref 56), some (xI x0), some (xI w16_2), some (xI w16_3), some (xI w27_4), some (xI w27_5)] [] h17 Post := by
                          intro m27
                          induction m27 with
                          | zero => intro w27_4 w27_5 q27 f27_0 f27_1 f27_2; exact absurd q27 (by omega)
                          | succ m27 ih27 =>
                            intro w27_4 w27_5 q27 f27_0 f27_1 f27_2
                            refine mx_J.step (sn_267 95) (fun _ _ => rfl) ?_
                            refine JcI (z := 19) (show mx_Sn _ _ 97 (mx_const (.int 19) 99) from sn_267 97) rfl ?_
                            refine Jicmp_ge (show mx_Sn _ _ 99 (mx_icmp_ge 134 102) from sn_267 99) (by omega) (by omega) (fun q28 => ?_) (fun q28 => ?_)
                            · skip
                              refine mx_J.step (sn_267 134) (fun _ _ => rfl) ?_
                              refine mx_J.step (sn_267 135) (fun _ _ => rfl) ?_
                              obtain ⟨z29, hc29, b29⟩ := ct_266_56 (d := d + 5) (l := l) (D := D) (b0 := b0) (ad := ad) (Hb := Hb) (tau := tau) hx17 hG17 (show 0 ≤ w16_3 ∧ w16_3 ≤ 384 by omega)
                              refine Jcv hx17 (show mx_Sn _ _ 136 (mx_callv 266 2 12 139) from sn_267 136) a56 s56 hc29 rfl rfl rfl ?_
                              refine mx_J.step (ls2 := [some (.ref 56), some (xI x0), some (xI w16_2), some (xI w16_3), some (xI w27_4), some (xI z29)]) (sn_267 139) (fun _ _ => rfl) ?_
                              refine mx_J.step (sn_267 141) (fun _ _ => rfl) ?_
                              refine mx_J.step (sn_267 142) (fun _ _ => rfl) ?_
                              refine mx_J.step (sn_267 144) (fun _ _ => rfl) ?_
                              refine JgetR (g := 33) (b := 74) hx17 (show mx_Sn _ _ 145 (mx_getf 12 33 148) from sn_267 145) a56 s56 rfl rfl (hG17.prr 56 33 rfl) ?_
                              refine mx_J.step (sn_267 148) (fun _ _ => rfl) ?_
                              refine JialdI (z := Z17 74 w16_3) hx17 (show mx_Sn _ _ 149 (mx_iald 150) from sn_267 149) a74 s74 (by omega) rfl ?_
                              have c169 : ∀ (k31_1 : Int), 0 ≤ k31_1 ∧ k31_1 ≤ 1 → ((k31_1 = 0 → Z17 74 w16_3 ≤ w27_4 ∧ Z17 75 w16_3 ≤ z29) ∧ (k31_1 = 1 → w27_4 < Z17 74 w16_3 ∨ z29 < Z17 75 w16_3)) → mx_J (tB l D b0 ad Hb tau) mt_267 (d + 6) 169 [some (.ref 56), some (xI x0), some (xI w16_2), some (xI w16_3), some (xI w27_4), some (xI z29)] [xI k31_1, xI w16_2] h17 Post := by
                                intro k31_1 f31_0 f31_1
                                refine Jior01 (show mx_Sn _ _ 169 (mx_ior 170) from sn_267 169) (by omega) (by omega) (fun y32 hy32 => ?_)
                                refine mx_J.step (ls2 := [some (.ref 56), some (xI x0), some (xI y32), some (xI w16_3), some (xI w27_4), some (xI z29)]) (sn_267 170) (fun _ _ => rfl) ?_
                                refine mx_J.step (sn_267 171) (fun _ _ => rfl) ?_
                                refine JgetR (g := 33) (b := 74) hx17 (show mx_Sn _ _ 172 (mx_getf 12 33 175) from sn_267 172) a56 s56 rfl rfl (hG17.prr 56 33 rfl) ?_
                                refine mx_J.step (sn_267 175) (fun _ _ => rfl) ?_
                                refine mx_J.step (sn_267 176) (fun _ _ => rfl) ?_
                                refine JiastI hx17 (show mx_Sn _ _ 178 (mx_iast 1 179) from sn_267 178) a74 s74 rfl (by omega) (fun Z34 h34 hx34 hE34 => ?_)
                                have hG34 := GI_up hG17 hE34 (show 0 ≤ w27_4 ∧ w27_4 ≤ 268435456 by omega) trivial rfl
                                have s1 := sn_u (m := Z 56 18) hE34 (by omega)
                                have eq35 : (sn 75) Z34 (Z 56 18) = (sn 75) Z17 (Z 56 18) := (sn_c (fun i => up_nk hE34 rfl))
                                refine mx_J.step (sn_267 179) (fun _ _ => rfl) ?_
                                refine JgetR (g := 34) (b := 75) hx34 (show mx_Sn _ _ 180 (mx_getf 12 34 183) from sn_267 180) a56 s56 rfl rfl (hG34.prr 56 34 rfl) ?_
                                refine mx_J.step (sn_267 183) (fun _ _ => rfl) ?_
                                refine mx_J.step (sn_267 184) (fun _ _ => rfl) ?_
                                refine mx_J.step (sn_267 186) (fun _ _ => rfl) ?_
                                refine JgetR (g := 34) (b := 75) hx34 (show mx_Sn _ _ 187 (mx_getf 12 34 190) from sn_267 187) a56 s56 rfl rfl (hG34.prr 56 34 rfl) ?_
                                refine mx_J.step (sn_267 190) (fun _ _ => rfl) ?_
                                have b38 : 0 ≤ Z17 75 w16_3 ∧ Z17 75 w16_3 ≤ 268435456 := hG17.pr 75 w16_3
                                refine JialdI (z := Z17 75 w16_3) hx34 (show mx_Sn _ _ 191 (mx_iald 192) from sn_267 191) a75 s75 (by omega) (up_nk hE34 rfl) ?_
                                have c206 : ∀ (k39_2 : Int), 0 ≤ k39_2 ∧ k39_2 ≤ 268435456 → (k39_2 ≤ Z34 75 w16_3 ∧ (z29 < Z34 75 w16_3 → k39_2 = z29)) → mx_J (tB l D b0 ad Hb tau) mt_267 (d + 6) 206 [some (.ref 56), some (xI x0), some (xI y32), some (xI w16_3), some (xI w27_4), some (xI z29)] [xI k39_2, xI w16_3, .ref 75] h34 Post := by
                                  intro k39_2 f39_0 f39_1
                                  have eq40 : Z34 75 w16_3 = Z17 75 w16_3 := (up_nk hE34 rfl)
                                  refine JiastI hx34 (show mx_Sn _ _ 206 (mx_iast 1 207) from sn_267 206) a75 s75 rfl (by omega) (fun Z41 h41 hx41 hE41 => ?_)
                                  have hG41 := GI_up hG34 hE41 (show 0 ≤ k39_2 ∧ k39_2 ≤ 268435456 by omega) trivial rfl
                                  have s2 := sn_u (m := Z 56 18) hE41 (by omega)
                                  have eq42 : (sn 74) Z41 (Z 56 18) = (sn 74) Z34 (Z 56 18) := (sn_c (fun i => up_nk hE41 rfl))
                                  exact c207 y32 (some (xI w27_4)) (some (xI z29)) Z41 h41 (by omega) (by omega) hx41 hG41 (fr_tr (M := [(74, (-1)), (75, (-1))]) (fr_tr (M := [(74, (-1)), (75, (-1))]) fr_rf (fr_ua hE34) (M1 := []) rfl rfl) (fr_ua hE41) rfl rfl)
                                refine Jicmp_ge (show mx_Sn _ _ 192 (mx_icmp_ge 200 195) from sn_267 192) (by omega) (by omega) (fun q43 => ?_) (fun q43 => ?_)
                                · skip
                                  refine mx_J.step (sn_267 200) (fun _ _ => rfl) ?_
                                  refine JgetR (g := 34) (b := 75) hx34 (show mx_Sn _ _ 201 (mx_getf 12 34 204) from sn_267 201) a56 s56 rfl rfl (hG34.prr 56 34 rfl) ?_
                                  refine mx_J.step (sn_267 204) (fun _ _ => rfl) ?_
                                  refine JialdI (z := Z17 75 w16_3) hx34 (show mx_Sn _ _ 205 (mx_iald 206) from sn_267 205) a75 s75 (by omega) (up_nk hE34 rfl) ?_
                                  have eq45 : Z34 75 w16_3 = Z17 75 w16_3 := (up_nk hE34 rfl)
                                  exact c206 (Z17 75 w16_3) (by omega) (by omega)
                                · skip
                                  refine mx_J.step (sn_267 195) (fun _ _ => rfl) ?_
                                  refine mx_J.step (sn_267 197) (fun _ _ => rfl) ?_
                                  have eq46 : Z34 75 w16_3 = Z17 75 w16_3 := (up_nk hE34 rfl)
                                  exact c206 z29 (by omega) (by omega)
                              have c164 : (w27_4 < Z17 74 w16_3 ∨ z29 < Z17 75 w16_3) → mx_J (tB l D b0 ad Hb tau) mt_267 (d + 6) 164 [some (.ref 56), some (xI x0), some (xI w16_2), some (xI w16_3), some (xI w27_4), some (xI z29)] [xI w16_2] h17 Post := by
                                intro f47_0
                                refine JcI (z := 1) (show mx_Sn _ _ 164 (mx_const (.int 1) 165) from sn_267 164) rfl ?_
                                refine mx_J.step (sn_267 165) (fun _ _ => rfl) ?_
                                exact c169 1 (by omega) (by omega)
                              refine Jicmp_lt (show mx_Sn _ _ 150 (mx_icmp_lt 164 153) from sn_267 150) (by omega) (by omega) (fun q48 => ?_) (fun q48 => ?_)
                              · skip
                                exact c164 (by omega)
                              · skip
                                refine mx_J.step (sn_267 153) (fun _ _ => rfl) ?_
                                refine mx_J.step (sn_267 155) (fun _ _ => rfl) ?_
                                refine JgetR (g := 34) (b := 75) hx17 (show mx_Sn _ _ 156 (mx_getf 12 34 159) from sn_267 156) a56 s56 rfl rfl (hG17.prr 56 34 rfl) ?_
                                refine mx_J.step (sn_267 159) (fun _ _ => rfl) ?_
                                have b50 : 0 ≤ Z17 75 w16_3 ∧ Z17 75 w16_3 ≤ 268435456 := hG17.pr 75 w16_3
                                refine JialdI (z := Z17 75 w16_3) hx17 (show mx_Sn _ _ 160 (mx_iald 161) from sn_267 160) a75 s75 (by omega) rfl ?_
                                refine Jicmp_ge (show mx_Sn _ _ 161 (mx_icmp_ge 168 164) from sn_267 161) (by omega) (by omega) (fun q51 => ?_) (fun q51 => ?_)
                                · skip
                                  refine JcI (z := 0) (show mx_Sn _ _ 168 (mx_const (.int 0) 169) from sn_267 168) rfl ?_
                                  exact c169 0 (by omega) (by omega)
                                · skip
                                  exact c164 (by omega)
                            · skip
                              refine mx_J.step (sn_267 102) (fun _ _ => rfl) ?_
                              refine mx_J.step (sn_267 103) (fun _ _ => rfl) ?_
                              refine mx_J.step (sn_267 104) (fun _ _ => rfl) ?_
                              obtain ⟨z52, hc52, b52⟩ := ct_265_56 (d := d + 5) (l := l) (D := D) (b0 := b0) (ad := ad) (Hb := Hb) (tau := tau) hx17 hG17 (show 0 ≤ w16_3 ∧ w16_3 ≤ 384 by omega) (show 0 ≤ w27_5 ∧ w27_5 ≤ 18 by omega)
                              refine Jcv hx17 (show mx_Sn _ _ 106 (mx_callv 265 3 12 109) from sn_267 106) a56 s56 hc52 rfl rfl rfl ?_
                              refine mx_J.step (sn_267 109) (fun _ _ => rfl) ?_
                              have c126 : ∀ (k53_0 : Int), 0 ≤ k53_0 ∧ k53_0 ≤ 268435456 → k53_0 ≤ Z17 74 w16_3 → mx_J (tB l D b0 ad Hb tau) mt_267 (d + 6) 126 [some (.ref 56), some (xI x0), some (xI w16_2), some (xI w16_3), some (xI w27_4), some (xI w27_5)] [xI k53_0] h17 Post := by
                                intro k53_0 f53_0 f53_1
                                refine mx_J.step (ls2 := [some (.ref 56), some (xI x0), some (xI w16_2), some (xI w16_3), some (xI k53_0), some (xI w27_5)]) (sn_267 126) (fun _ _ => rfl) ?_
                                refine Jiinc (z := w27_5) (cz := 1) (ls2 := [some (.ref 56), some (xI x0), some (xI w16_2), some (xI w16_3), some (xI k53_0), some (xI (w27_5 + 1))]) (show mx_Sn _ _ 128 (mx_iinc 5 1 131) from sn_267 128) rfl rfl rfl rfl ?_
                                refine mx_J.step (sn_267 131) (fun _ _ => rfl) ?_
                                exact ih27 k53_0 (w27_5 + 1) (by omega) (by omega) (by omega) (by omega)
                              refine Jicmp_ge (show mx_Sn _ _ 111 (mx_icmp_ge 124 114) from sn_267 111) (by omega) (by omega) (fun q54 => ?_) (fun q54 => ?_)
                              · skip
                                refine mx_J.step (sn_267 124) (fun _ _ => rfl) ?_
                                exact c126 w27_4 (by omega) (by omega)
                              · skip
                                refine mx_J.step (sn_267 114) (fun _ _ => rfl) ?_
                                refine mx_J.step (sn_267 115) (fun _ _ => rfl) ?_
                                refine mx_J.step (sn_267 116) (fun _ _ => rfl) ?_
                                obtain ⟨z55, hc55, b55⟩ := ct_265_56 (d := d + 5) (l := l) (D := D) (b0 := b0) (ad := ad) (Hb := Hb) (tau := tau) hx17 hG17 (show 0 ≤ w16_3 ∧ w16_3 ≤ 384 by omega) (show 0 ≤ w27_5 ∧ w27_5 ≤ 18 by omega)
                                refine Jcv hx17 (show mx_Sn _ _ 118 (mx_callv 265 3 12 121) from sn_267 118) a56 s56 hc55 rfl rfl rfl ?_
                                refine mx_J.step (sn_267 121) (fun _ _ => rfl) ?_
                                exact c126 z55 (by omega) (by omega)
                        exact c95 (Int.toNat (19 - 0) + 1) (Z17 74 w16_3) 0 (by omega) (by omega) (by omega) (by omega)
                      · skip
                        refine mx_J.step (sn_267 81) (fun _ _ => rfl) ?_
                        exact c207 w16_2 u16_4 u16_5 Z17 h17 (by omega) (by omega) hx17 hG17 fr_rf
                exact c64 (Int.toNat (385 - 0) + 1) 0 0 u7_4 u7_5 Z8 h8 (by omega) (by omega) (by omega) (by omega) hx8 hG8 fr_rf
          exact c56 (Int.toNat (((((sn 74 Z4 (Z 56 18) + sn 75 Z4 (Z 56 18)) + 1).toNat : Nat) : Int)) + 1) 1 none none none Z4 h4 (by omega) (by omega) hx4 hG4 fr_rf
        · skip
          refine mx_J.step (sn_267 14) (fun _ _ => rfl) ?_
          refine JgetR (g := 33) (b := 74) hx4 (show mx_Sn _ _ 15 (mx_getf 12 33 18) from sn_267 15) a56 s56 rfl rfl (hG4.prr 56 33 rfl) ?_
          refine mx_J.step (sn_267 18) (fun _ _ => rfl) ?_
          refine mx_J.step (sn_267 19) (fun _ _ => rfl) ?_
          refine mx_J.step (sn_267 20) (fun _ _ => rfl) ?_
          have eq58 : mn Z4 w3_2 = mn Z w3_2 := ((mn_c (fun i => hf4 61 i rfl)).trans (mn_c (fun i => hf1 61 i rfl)))
          obtain ⟨z57, hc57, b57⟩ := ct_191_56 (d := d + 4) (l := l) (D := D) (b0 := b0) (ad := ad) (Hb := Hb) (tau := tau) hx4 hG4 (show 0 ≤ w3_2 ∧ w3_2 ≤ 384 by omega)
          refine Jcv hx4 (show mx_Sn _ _ 21 (mx_callv 191 2 12 24) from sn_267 21) a56 s56 hc57 rfl rfl rfl ?_
          refine mx_J.step (sn_267 24) (fun _ _ => rfl) ?_
          have c35 : ∀ (k59_2 : Int), 0 ≤ k59_2 ∧ k59_2 ≤ 268435456 → mx_J (tB l D b0 ad Hb tau) mt_267 (d + 6) 35 [some (.ref 56), some (xI x0), some (xI w3_2), none, none, none] [xI k59_2, xI w3_2, .ref 74] h4 Post := by
            intro k59_2 f59_0
            refine JiastI hx4 (show mx_Sn _ _ 35 (mx_iast 1 36) from sn_267 35) a74 s74 rfl (by omega) (fun Z60 h60 hx60 hE60 => ?_)
            have hG60 := GI_up hG4 hE60 (show 0 ≤ k59_2 ∧ k59_2 ≤ 268435456 by omega) trivial rfl
            refine mx_J.step (sn_267 36) (fun _ _ => rfl) ?_
            refine JgetR (g := 34) (b := 75) hx60 (show mx_Sn _ _ 37 (mx_getf 12 34 40) from sn_267 37) a56 s56 rfl rfl (hG60.prr 56 34 rfl) ?_
            refine mx_J.step (sn_267 40) (fun _ _ => rfl) ?_
            refine mx_J.step (sn_267 41) (fun _ _ => rfl) ?_
            refine JgetR (g := 33) (b := 74) hx60 (show mx_Sn _ _ 42 (mx_getf 12 33 45) from sn_267 42) a56 s56 rfl rfl (hG60.prr 56 33 rfl) ?_
            refine mx_J.step (sn_267 45) (fun _ _ => rfl) ?_
            have b63 : 0 ≤ Z60 74 w3_2 ∧ Z60 74 w3_2 ≤ 268435456 := hG60.pr 74 w3_2
            refine JialdI (z := Z60 74 w3_2) hx60 (show mx_Sn _ _ 46 (mx_iald 47) from sn_267 46) a74 s74 (by omega) rfl ?_
            refine JiastI hx60 (show mx_Sn _ _ 47 (mx_iast 1 48) from sn_267 47) a75 s75 rfl (by omega) (fun Z64 h64 hx64 hE64 => ?_)
            have hG64 := GI_up hG60 hE64 (show 0 ≤ Z60 74 w3_2 ∧ Z60 74 w3_2 ≤ 268435456 by omega) trivial rfl
            refine Jiinc (z := w3_2) (cz := 1) (ls2 := [some (.ref 56), some (xI x0), some (xI (w3_2 + 1)), none, none, none]) (show mx_Sn _ _ 48 (mx_iinc 2 1 51) from sn_267 48) rfl rfl rfl rfl ?_
            refine mx_J.step (sn_267 51) (fun _ _ => rfl) ?_
            exact ih3 (w3_2 + 1) Z64 h64 (by omega) (by omega) hx64 hG64 (fr_tr (M := [(74, (-1)), (75, (-1))]) (fr_tr (M := [(74, (-1)), (75, (-1))]) (fr_tr (M := [(74, (-1)), (75, (-1))]) fr_rf (hf4) (M1 := []) rfl rfl) (fr_ua hE60) rfl rfl) (fr_ua hE64) rfl rfl)
          refine Jicmp_gt (show mx_Sn _ _ 25 (mx_icmp_gt 32 28) from sn_267 25) (by omega) (by omega) (fun q65 => ?_) (fun q65 => ?_)
          · skip
            refine JcI (z := 268435456) (show mx_Sn _ _ 32 (mx_const (.int 268435456) 35) from sn_267 32) rfl ?_
            exact c35 268435456 (by omega)
          · skip
            refine JcI (z := 0) (show mx_Sn _ _ 28 (mx_const (.int 0) 29) from sn_267 28) rfl ?_
            refine mx_J.step (sn_267 29) (fun _ _ => rfl) ?_
            exact c35 0 (by omega)
    exact c6 (Int.toNat (385 - 0) + 1) 0 Z1 h1 (by omega) (by omega) hx1 hG1 fr_rf
theorem ct_267_56 {l : Launch} {D : va_G} {b0 : Nat} {ad : Nat → Nat} {Hb : Heap} {tau : Nat → Int64} {d n s : Nat} {S : Nat → xS} {Z : xZ} {h : mx_H} (hx : XH n s S Z h) (hG : GI n S Z)  {x0 : Int} (p0 : 1 ≤ x0 ∧ x0 ≤ 18) : ∃ (z : Int) (Z' : xZ) (h' : mx_H), mx_Ca (tB l D b0 ad Hb tau) (d + 7) 267 [.ref 56, xI x0] h (some (xI z), h') ∧ XH n s S Z' h' ∧ GI n S Z' ∧ fr' [(62, (-1)), (64, (-1)), (65, (-1)), (73, (-1)), (74, (-1)), (75, (-1))] Z Z' ∧ (0 ≤ z ∧ z ≤ 268435456) := by
  obtain ⟨r, hca, z, Z', h', e, q⟩ := Jmt (B := tB l D b0 ad Hb tau) (M := mt_267) (mi := 267) (as := [.ref 56, xI x0]) (d := d + 6) (ls := [some (.ref 56), some (xI x0), none, none, none, none]) rfl rfl rfl rfl rfl rfl (cw_267_56 (l := l) (D := D) (b0 := b0) (ad := ad) (Hb := Hb) (tau := tau) (d := d) (Post := fun r => ∃ (z : Int) (Z' : xZ) (h' : mx_H), r = (some (xI z), h') ∧ XH n s S Z' h' ∧ GI n S Z' ∧ fr' [(62, (-1)), (64, (-1)), (65, (-1)), (73, (-1)), (74, (-1)), (75, (-1))] Z Z' ∧ (0 ≤ z ∧ z ≤ 268435456)) hx hG p0 (fun z Z' h' q1 q2 q3 q4 => ⟨z, Z', h', rfl, q1, q2, q3, q4⟩))
  subst e; exact ⟨z, Z', h', hca, q⟩
set_option maxRecDepth 100000 in
theorem cw_268_56 {l : Launch} {D : va_G} {b0 : Nat} {ad : Nat → Nat} {Hb : Heap} {tau : Nat → Int64} {d n s : Nat} {S : Nat → xS} {Z : xZ} {h : mx_H} {Post : mx_R → Prop} (hx : XH n s S Z h) (hG : GI n S Z)  {x0 : Int} (p0 : (-2147483648) ≤ x0 ∧ x0 ≤ 2147483647) (hP : ∀ (z : Int) (Z' : xZ) (h' : mx_H), XH n s S Z' h' → GI n S Z' → fr' [(56, 0), (62, (-1)), (64, (-1)), (65, (-1)), (73, (-1)), (74, (-1)), (75, (-1))] Z Z' → (-3) ≤ z ∧ z ≤ 268435455 → Post (some (xI z), h')) : mx_J (tB l D b0 ad Hb tau) mt_268 (d + 7) 0 [some (.ref 56), some (xI x0)] [] h Post := by
    have a56 : 56 < n := lt83 (GI_n hG) rfl
    have s56 : S 56 = .inl (12, [0, 2, 2, 2, 2, 0, 0, 0, 0, 0, 0, 0, 0, 0, 0, 2, 2, 2, 0, 2, 2, 2, 0, 0, 2, 2, 2, 2, 2, 2, 0, 0, 2, 2, 2, 2, 2, 2, 2, 2, 2, 2]) := GI_s hG 56 rfl
    refine mx_J.step (sn_268 0) (fun _ _ => rfl) ?_
    refine JcI (z := 0) (show mx_Sn _ _ 1 (mx_const (.int 0) 2) from sn_268 1) rfl ?_
    refine JputI (g := 0) hx (show mx_Sn _ _ 2 (mx_putf 1 12 0 (.int) 5) from sn_268 2) a56 s56 rfl rfl rfl rfl (fun Z1 h1 hx1 hE1 => ?_)
    have hG1 := GI_up hG hE1 (show (-2147483648) ≤ 0 ∧ 0 ≤ 2147483647 by omega) trivial rfl
    refine mx_J.step (sn_268 5) (fun _ _ => rfl) ?_
    refine Ji2l (show mx_Sn _ _ 6 (mx_i2l 7) from sn_268 6) (by omega) ?_
    obtain ⟨z2, hc2, b2⟩ := ct_208_ (d := d + 5) (l := l) (D := D) (b0 := b0) (ad := ad) (Hb := Hb) (tau := tau) hx1 hG1 (show (-9223372036854775808) ≤ x0 ∧ x0 ≤ 9223372036854775807 by omega)
    refine Jcs (show mx_Sn _ _ 7 (mx_calls 208 1 10) from sn_268 7) hc2 rfl rfl rfl ?_
    have c26 : ∀ (k3_0 : Int) (Z4 : xZ) (h4 : mx_H), (-3) ≤ k3_0 ∧ k3_0 ≤ 268435455 → XH n s S Z4 h4 → GI n S Z4 → fr' [(62, (-1)), (64, (-1)), (65, (-1)), (73, (-1)), (74, (-1)), (75, (-1))] Z1 Z4 → mx_J (tB l D b0 ad Hb tau) mt_268 (d + 7) 26 [some (.ref 56), some (xI x0)] [xI k3_0] h4 Post := by
      intro k3_0 Z4 h4 f3_0 hx4 hG4 hf4
      exact mx_J.ret (sn_268 26) (fun _ _ => rfl) (hP k3_0 Z4 h4 hx4 hG4 (fr_tr (M := [(56, 0), (62, (-1)), (64, (-1)), (65, (-1)), (73, (-1)), (74, (-1)), (75, (-1))]) (fr_tr (M := [(56, 0), (62, (-1)), (64, (-1)), (65, (-1)), (73, (-1)), (74, (-1)), (75, (-1))]) fr_rf (fr_up hE1) (M1 := []) rfl rfl) (hf4) rfl rfl) (by omega))
    refine Jif_eq (show mx_Sn _ _ 10 (mx_if_eq 24 13) from sn_268 10) (by omega) (fun q5 => ?_) (fun q5 => ?_)
    · skip
      refine JcI (z := (-3)) (show mx_Sn _ _ 24 (mx_const (.int (-3)) 26) from sn_268 24) rfl ?_
      exact c26 (-3) Z1 h1 (by omega) hx1 hG1 fr_rf
    · skip
      refine mx_J.step (sn_268 13) (fun _ _ => rfl) ?_
      refine mx_J.step (sn_268 14) (fun _ _ => rfl) ?_
      obtain ⟨z6, Z6, h6, hc6, hx6, hG6, hf6, b6⟩ := ct_267_56 (d := d + 0) (l := l) (D := D) (b0 := b0) (ad := ad) (Hb := Hb) (tau := tau) hx1 hG1 (show 1 ≤ x0 ∧ x0 ≤ 18 by omega)
      refine Jcv hx1 (show mx_Sn _ _ 15 (mx_callv 267 2 12 18) from sn_268 15) a56 s56 hc6 rfl rfl rfl ?_
      obtain ⟨z7, hc7, b7⟩ := ct_238_ (d := d + 6) (l := l) (D := D) (b0 := b0) (ad := ad) (Hb := Hb) (tau := tau) hx6 hG6 (show 0 ≤ z6 ∧ z6 ≤ 268435456 by omega)
      refine Jcs (show mx_Sn _ _ 18 (mx_calls 238 1 21) from sn_268 18) hc7 rfl rfl rfl ?_
      refine mx_J.step (sn_268 21) (fun _ _ => rfl) ?_
      exact c26 z7 Z6 h6 (by omega) hx6 hG6 (fr_tr (M := [(62, (-1)), (64, (-1)), (65, (-1)), (73, (-1)), (74, (-1)), (75, (-1))]) fr_rf (hf6) (M1 := []) rfl rfl)
theorem ct_268_56 {l : Launch} {D : va_G} {b0 : Nat} {ad : Nat → Nat} {Hb : Heap} {tau : Nat → Int64} {d n s : Nat} {S : Nat → xS} {Z : xZ} {h : mx_H} (hx : XH n s S Z h) (hG : GI n S Z)  {x0 : Int} (p0 : (-2147483648) ≤ x0 ∧ x0 ≤ 2147483647) : ∃ (z : Int) (Z' : xZ) (h' : mx_H), mx_Ca (tB l D b0 ad Hb tau) (d + 8) 268 [.ref 56, xI x0] h (some (xI z), h') ∧ XH n s S Z' h' ∧ GI n S Z' ∧ fr' [(56, 0), (62, (-1)), (64, (-1)), (65, (-1)), (73, (-1)), (74, (-1)), (75, (-1))] Z Z' ∧ ((-3) ≤ z ∧ z ≤ 268435455) := by
  obtain ⟨r, hca, z, Z', h', e, q⟩ := Jmt (B := tB l D b0 ad Hb tau) (M := mt_268) (mi := 268) (as := [.ref 56, xI x0]) (d := d + 7) (ls := [some (.ref 56), some (xI x0)]) rfl rfl rfl rfl rfl rfl (cw_268_56 (l := l) (D := D) (b0 := b0) (ad := ad) (Hb := Hb) (tau := tau) (d := d) (Post := fun r => ∃ (z : Int) (Z' : xZ) (h' : mx_H), r = (some (xI z), h') ∧ XH n s S Z' h' ∧ GI n S Z' ∧ fr' [(56, 0), (62, (-1)), (64, (-1)), (65, (-1)), (73, (-1)), (74, (-1)), (75, (-1))] Z Z' ∧ ((-3) ≤ z ∧ z ≤ 268435455)) hx hG p0 (fun z Z' h' q1 q2 q3 q4 => ⟨z, Z', h', rfl, q1, q2, q3, q4⟩))
  subst e; exact ⟨z, Z', h', hca, q⟩
set_option maxRecDepth 100000 in
theorem cw_269_56 {l : Launch} {D : va_G} {b0 : Nat} {ad : Nat → Nat} {Hb : Heap} {tau : Nat → Int64} {d n s : Nat} {S : Nat → xS} {Z : xZ} {h : mx_H} {Post : mx_R → Prop} (hx : XH n s S Z h) (hG : GI n S Z)  {x0 : Int} (p0 : (-2147483648) ≤ x0 ∧ x0 ≤ 2147483647) (hP : ∀ (z : Int) (Z' : xZ) (h' : mx_H), XH n s S Z' h' → GI n S Z' → fr' [(56, 0), (62, (-1)), (64, (-1)), (65, (-1)), (73, (-1)), (74, (-1)), (75, (-1))] Z Z' → (-3) ≤ z ∧ z ≤ 18 → Post (some (xI z), h')) : mx_J (tB l D b0 ad Hb tau) mt_269 (d + 7) 0 [some (.ref 56), some (xI x0), none, none] [] h Post := by
    have a56 : 56 < n := lt83 (GI_n hG) rfl
    have s56 : S 56 = .inl (12, [0, 2, 2, 2, 2, 0, 0, 0, 0, 0, 0, 0, 0, 0, 0, 2, 2, 2, 0, 2, 2, 2, 0, 0, 2, 2, 2, 2, 2, 2, 0, 0, 2, 2, 2, 2, 2, 2, 2, 2, 2, 2]) := GI_s hG 56 rfl
    have a57 : 57 < n := lt83 (GI_n hG) rfl
    have s57 : S 57 = .inr (.int, 2886, 0) := GI_s hG 57 rfl
    refine mx_J.step (sn_269 0) (fun _ _ => rfl) ?_
    refine JcI (z := 0) (show mx_Sn _ _ 1 (mx_const (.int 0) 2) from sn_269 1) rfl ?_
    refine JputI (g := 0) hx (show mx_Sn _ _ 2 (mx_putf 1 12 0 (.int) 5) from sn_269 2) a56 s56 rfl rfl rfl rfl (fun Z1 h1 hx1 hE1 => ?_)
    have hG1 := GI_up hG hE1 (show (-2147483648) ≤ 0 ∧ 0 ≤ 2147483647 by omega) trivial rfl
    refine mx_J.step (sn_269 5) (fun _ _ => rfl) ?_
    refine Ji2l (show mx_Sn _ _ 6 (mx_i2l 7) from sn_269 6) (by omega) ?_
    obtain ⟨z2, hc2, b2⟩ := ct_208_ (d := d + 5) (l := l) (D := D) (b0 := b0) (ad := ad) (Hb := Hb) (tau := tau) hx1 hG1 (show (-9223372036854775808) ≤ x0 ∧ x0 ≤ 9223372036854775807 by omega)
    refine Jcs (show mx_Sn _ _ 7 (mx_calls 208 1 10) from sn_269 7) hc2 rfl rfl rfl ?_
    refine Jif_ne (show mx_Sn _ _ 10 (mx_if_ne 16 13) from sn_269 10) (by omega) (fun q3 => ?_) (fun q3 => ?_)
    · skip
      refine mx_J.step (sn_269 16) (fun _ _ => rfl) ?_
      refine mx_J.step (sn_269 17) (fun _ _ => rfl) ?_
      obtain ⟨z4, Z4, h4, hc4, hx4, hG4, hf4, b4⟩ := ct_267_56 (d := d + 0) (l := l) (D := D) (b0 := b0) (ad := ad) (Hb := Hb) (tau := tau) hx1 hG1 (show 1 ≤ x0 ∧ x0 ≤ 18 by omega)
      refine Jcv hx1 (show mx_Sn _ _ 18 (mx_callv 267 2 12 21) from sn_269 18) a56 s56 hc4 rfl rfl rfl ?_
      refine mx_J.step (ls2 := [some (.ref 56), some (xI x0), some (xI z4), none]) (sn_269 21) (fun _ _ => rfl) ?_
      refine JcI (z := 0) (show mx_Sn _ _ 22 (mx_const (.int 0) 23) from sn_269 22) rfl ?_
      refine mx_J.step (ls2 := [some (.ref 56), some (xI x0), some (xI z4), some (xI 0)]) (sn_269 23) (fun _ _ => rfl) ?_
      have c24 : ∀ (m5 : Nat) (w5_3 : Int), 19 - w5_3 < (m5 : Int) → 0 ≤ w5_3 ∧ w5_3 ≤ 19 → mx_J (tB l D b0 ad Hb tau) mt_269 (d + 7) 24 [some (.ref 56), some (xI x0), some (xI z4), some (xI w5_3)] [] h4 Post := by
        intro m5
        induction m5 with
        | zero => intro w5_3 q5 f5_0; exact absurd q5 (by omega)
        | succ m5 ih5 =>
          intro w5_3 q5 f5_0
          refine mx_J.step (sn_269 24) (fun _ _ => rfl) ?_
          refine JcI (z := 19) (show mx_Sn _ _ 25 (mx_const (.int 19) 27) from sn_269 25) rfl ?_
          have c65 : mx_J (tB l D b0 ad Hb tau) mt_269 (d + 7) 65 [some (.ref 56), some (xI x0), some (xI z4), some (xI w5_3)] [] h4 Post := by
            refine JcI (z := (-1)) (show mx_Sn _ _ 65 (mx_const (.int (-1)) 66) from sn_269 65) rfl ?_
            exact mx_J.ret (sn_269 66) (fun _ _ => rfl) (hP (-1) Z4 h4 hx4 hG4 (fr_tr (M := [(56, 0), (62, (-1)), (64, (-1)), (65, (-1)), (73, (-1)), (74, (-1)), (75, (-1))]) (fr_tr (M := [(56, 0), (62, (-1)), (64, (-1)), (65, (-1)), (73, (-1)), (74, (-1)), (75, (-1))]) fr_rf (fr_up hE1) (M1 := []) rfl rfl) (hf4) rfl rfl) (by omega))
          refine Jicmp_ge (show mx_Sn _ _ 27 (mx_icmp_ge 65 30) from sn_269 27) (by omega) (by omega) (fun q7 => ?_) (fun q7 => ?_)
          · skip
            exact c65 
          · skip
            refine mx_J.step (sn_269 30) (fun _ _ => rfl) ?_
            refine Jif_le (show mx_Sn _ _ 31 (mx_if_le 65 34) from sn_269 31) (by omega) (fun q8 => ?_) (fun q8 => ?_)
            · skip
              exact c65 
            · skip
              refine mx_J.step (sn_269 34) (fun _ _ => rfl) ?_
              refine JcI (z := 268435456) (show mx_Sn _ _ 35 (mx_const (.int 268435456) 38) from sn_269 35) rfl ?_
              refine Jicmp_ge (show mx_Sn _ _ 38 (mx_icmp_ge 65 41) from sn_269 38) (by omega) (by omega) (fun q9 => ?_) (fun q9 => ?_)
              · skip
                exact c65 
              · skip
                refine mx_J.step (sn_269 41) (fun _ _ => rfl) ?_
                refine mx_J.step (sn_269 42) (fun _ _ => rfl) ?_
                refine JgetR (g := 1) (b := 57) hx4 (show mx_Sn _ _ 43 (mx_getf 12 1 46) from sn_269 43) a56 s56 rfl rfl (hG4.prr 56 1 rfl) ?_
                refine JcI (z := 27) (show mx_Sn _ _ 46 (mx_const (.int 27) 48) from sn_269 46) rfl ?_
                have b11 := GI_st hG 27
                have b12 : 0 ≤ Z 56 18 ∧ Z 56 18 ≤ 385 := hG.pr 56 18
                have b13 : 0 ≤ Z 57 27 ∧ Z 57 27 ≤ 384 := by have hq := GI_ex hG 57 27; replace hq : f57 (27 % 962) (Z 57 27) := hq; unfold f57 at hq; omega
                have b14 : (-2147483648) ≤ Z 57 27 ∧ Z 57 27 ≤ 2147483647 := hG.pr 57 27
                refine JialdI (z := Z 57 27) hx4 (show mx_Sn _ _ 48 (mx_iald 49) from sn_269 48) a57 s57 (by omega) ((hf4 57 27 rfl).trans (up_nk hE1 rfl)) ?_
                refine mx_J.step (sn_269 49) (fun _ _ => rfl) ?_
                obtain ⟨z15, hc15, b15⟩ := ct_265_56 (d := d + 6) (l := l) (D := D) (b0 := b0) (ad := ad) (Hb := Hb) (tau := tau) hx4 hG4 (show 0 ≤ Z 57 27 ∧ Z 57 27 ≤ 384 by omega) (show 0 ≤ w5_3 ∧ w5_3 ≤ 18 by omega)
                refine Jcv hx4 (show mx_Sn _ _ 50 (mx_callv 265 3 12 53) from sn_269 50) a56 s56 hc15 rfl rfl rfl ?_
                refine mx_J.step (sn_269 53) (fun _ _ => rfl) ?_
                refine Jicmp_ne (show mx_Sn _ _ 54 (mx_icmp_ne 59 57) from sn_269 54) (by omega) (by omega) (fun q16 => ?_) (fun q16 => ?_)
                · skip
                  refine Jiinc (z := w5_3) (cz := 1) (ls2 := [some (.ref 56), some (xI x0), some (xI z4), some (xI (w5_3 + 1))]) (show mx_Sn _ _ 59 (mx_iinc 3 1 62) from sn_269 59) rfl rfl rfl rfl ?_
                  refine mx_J.step (sn_269 62) (fun _ _ => rfl) ?_
                  exact ih5 (w5_3 + 1) (by omega) (by omega)
                · skip
                  refine mx_J.step (sn_269 57) (fun _ _ => rfl) ?_
                  exact mx_J.ret (sn_269 58) (fun _ _ => rfl) (hP w5_3 Z4 h4 hx4 hG4 (fr_tr (M := [(56, 0), (62, (-1)), (64, (-1)), (65, (-1)), (73, (-1)), (74, (-1)), (75, (-1))]) (fr_tr (M := [(56, 0), (62, (-1)), (64, (-1)), (65, (-1)), (73, (-1)), (74, (-1)), (75, (-1))]) fr_rf (fr_up hE1) (M1 := []) rfl rfl) (hf4) rfl rfl) (by omega))
      exact c24 (Int.toNat (19 - 0) + 1) 0 (by omega) (by omega)
    · skip
      refine JcI (z := (-3)) (show mx_Sn _ _ 13 (mx_const (.int (-3)) 15) from sn_269 13) rfl ?_
      exact mx_J.ret (sn_269 15) (fun _ _ => rfl) (hP (-3) Z1 h1 hx1 hG1 (fr_tr (M := [(56, 0), (62, (-1)), (64, (-1)), (65, (-1)), (73, (-1)), (74, (-1)), (75, (-1))]) fr_rf (fr_up hE1) (M1 := []) rfl rfl) (by omega))
theorem ct_269_56 {l : Launch} {D : va_G} {b0 : Nat} {ad : Nat → Nat} {Hb : Heap} {tau : Nat → Int64} {d n s : Nat} {S : Nat → xS} {Z : xZ} {h : mx_H} (hx : XH n s S Z h) (hG : GI n S Z)  {x0 : Int} (p0 : (-2147483648) ≤ x0 ∧ x0 ≤ 2147483647) : ∃ (z : Int) (Z' : xZ) (h' : mx_H), mx_Ca (tB l D b0 ad Hb tau) (d + 8) 269 [.ref 56, xI x0] h (some (xI z), h') ∧ XH n s S Z' h' ∧ GI n S Z' ∧ fr' [(56, 0), (62, (-1)), (64, (-1)), (65, (-1)), (73, (-1)), (74, (-1)), (75, (-1))] Z Z' ∧ ((-3) ≤ z ∧ z ≤ 18) := by
  obtain ⟨r, hca, z, Z', h', e, q⟩ := Jmt (B := tB l D b0 ad Hb tau) (M := mt_269) (mi := 269) (as := [.ref 56, xI x0]) (d := d + 7) (ls := [some (.ref 56), some (xI x0), none, none]) rfl rfl rfl rfl rfl rfl (cw_269_56 (l := l) (D := D) (b0 := b0) (ad := ad) (Hb := Hb) (tau := tau) (d := d) (Post := fun r => ∃ (z : Int) (Z' : xZ) (h' : mx_H), r = (some (xI z), h') ∧ XH n s S Z' h' ∧ GI n S Z' ∧ fr' [(56, 0), (62, (-1)), (64, (-1)), (65, (-1)), (73, (-1)), (74, (-1)), (75, (-1))] Z Z' ∧ ((-3) ≤ z ∧ z ≤ 18)) hx hG p0 (fun z Z' h' q1 q2 q3 q4 => ⟨z, Z', h', rfl, q1, q2, q3, q4⟩))
  subst e; exact ⟨z, Z', h', hca, q⟩
set_option maxRecDepth 100000 in
theorem cw_272_ {l : Launch} {D : va_G} {b0 : Nat} {ad : Nat → Nat} {Hb : Heap} {tau : Nat → Int64} {d n s : Nat} {S : Nat → xS} {Z : xZ} {h : mx_H} {Post : mx_R → Prop} (hx : XH n s S Z h) (hG : GI n S Z)  {x0 : Int} (p0 : 0 ≤ x0 ∧ x0 ≤ 7) (hP : ∀ z : Int, 1 ≤ z ∧ z ≤ 10000000 → Post (some (xL z), h)) : mx_J (tB l D b0 ad Hb tau) mt_272 (d + 0) 0 [some (xI x0), none, none, none] [] h Post := by
    refine JcL (z := 1) (show mx_Sn _ _ 0 (mx_const (.long 1) 1) from sn_272 0) rfl ?_
    refine mx_J.step (ls2 := [some (xI x0), some (xL 1), none, none]) (sn_272 1) (fun _ _ => rfl) ?_
    refine JcI (z := 0) (show mx_Sn _ _ 2 (mx_const (.int 0) 3) from sn_272 2) rfl ?_
    refine mx_J.step (ls2 := [some (xI x0), some (xL 1), none, some (xI 0)]) (sn_272 3) (fun _ _ => rfl) ?_
    have c4 : ∀ (m1 : Nat) (w1_1 : Int) (w1_3 : Int), 7 - w1_3 < (m1 : Int) → 1 ≤ w1_1 ∧ w1_1 ≤ 10000000 → 0 ≤ w1_3 ∧ w1_3 ≤ 7 → w1_1 = p10 w1_3 → mx_J (tB l D b0 ad Hb tau) mt_272 (d + 0) 4 [some (xI x0), some (xL w1_1), none, some (xI w1_3)] [] h Post := by
      intro m1
      induction m1 with
      | zero => intro w1_1 w1_3 q1 f1_0 f1_1 f1_2; exact absurd q1 (by omega)
      | succ m1 ih1 =>
        intro w1_1 w1_3 q1 f1_0 f1_1 f1_2
        have pb := p10_b w1_3
        refine mx_J.step (sn_272 4) (fun _ _ => rfl) ?_
        refine mx_J.step (sn_272 5) (fun _ _ => rfl) ?_
        refine Jicmp_ge (show mx_Sn _ _ 6 (mx_icmp_ge 21 9) from sn_272 6) (by omega) (by omega) (fun q2 => ?_) (fun q2 => ?_)
        · skip
          have pb := p10_b w1_3
          refine mx_J.step (sn_272 21) (fun _ _ => rfl) ?_
          exact mx_J.ret (sn_272 22) (fun _ _ => rfl) (hP w1_1 (by omega))
        · skip
          have pp := p10_s w1_3 (by omega)
          refine mx_J.step (sn_272 9) (fun _ _ => rfl) ?_
          refine JcL (z := 10) (show mx_Sn _ _ 10 (mx_const (.long 10) 13) from sn_272 10) rfl ?_
          refine Jlmul (show mx_Sn _ _ 13 (mx_lmul 14) from sn_272 13) ?_
          refine mx_J.step (ls2 := [some (xI x0), some (xL (w1_1 * 10)), none, some (xI w1_3)]) (sn_272 14) (fun _ _ => rfl) ?_
          refine Jiinc (z := w1_3) (cz := 1) (ls2 := [some (xI x0), some (xL (w1_1 * 10)), none, some (xI (w1_3 + 1))]) (show mx_Sn _ _ 15 (mx_iinc 3 1 18) from sn_272 15) rfl rfl rfl rfl ?_
          refine mx_J.step (sn_272 18) (fun _ _ => rfl) ?_
          exact ih1 (w1_1 * 10) (w1_3 + 1) (by omega) (by omega) (by omega) (by first | rfl | omega)
    exact c4 (Int.toNat (7 - 0) + 1) 1 0 (by omega) (by omega) (by omega) (by first | rfl | omega)
theorem ct_272_ {l : Launch} {D : va_G} {b0 : Nat} {ad : Nat → Nat} {Hb : Heap} {tau : Nat → Int64} {d n s : Nat} {S : Nat → xS} {Z : xZ} {h : mx_H} (hx : XH n s S Z h) (hG : GI n S Z)  {x0 : Int} (p0 : 0 ≤ x0 ∧ x0 ≤ 7) : ∃ z : Int, mx_Ca (tB l D b0 ad Hb tau) (d + 1) 272 [xI x0] h (some (xL z), h) ∧ (1 ≤ z ∧ z ≤ 10000000) := by
  obtain ⟨r, hca, z, e, hp⟩ := Jmt (B := tB l D b0 ad Hb tau) (M := mt_272) (mi := 272) (as := [xI x0]) (d := d + 0) (ls := [some (xI x0), none, none, none]) rfl rfl rfl rfl rfl rfl (cw_272_ (l := l) (D := D) (b0 := b0) (ad := ad) (Hb := Hb) (tau := tau) (d := d) (Post := fun r => ∃ z : Int, r = (some (xL z), h) ∧ (1 ≤ z ∧ z ≤ 10000000)) hx hG p0 (fun z hz => ⟨z, rfl, hz⟩))
  subst e; exact ⟨z, hca, hp⟩
set_option maxRecDepth 100000 in
theorem cw_273_A0 {l : Launch} {D : va_G} {b0 : Nat} {ad : Nat → Nat} {Hb : Heap} {tau : Nat → Int64} {d n s : Nat} {S : Nat → xS} {Z : xZ} {h : mx_H} {Post : mx_R → Prop} (hx : XH n s S Z h) (hG : GI n S Z)  {x0 : Int} (p0 : (-9223372036854775808) ≤ x0 ∧ x0 ≤ 9223372036854775807) (k0 : ¬ x0 = 0) (hP : ∀ z : Int, (-9223372036854775808) ≤ z ∧ z ≤ 9223372036854775807 ∧ ¬ z = 0 → Post (some (xL z), h)) : mx_J (tB l D b0 ad Hb tau) mt_273 (d + 0) 0 [some (xL x0), none, some (xL 0), none] [] h Post := by
    refine mx_J.step (sn_273 0) (fun _ _ => rfl) ?_
    refine JcL (z := 0) (show mx_Sn _ _ 1 (mx_const (.long 0) 2) from sn_273 1) rfl ?_
    refine Jlif_ne (show mx_Sn _ _ 2 (mx_lif_ne 10 6) from sn_273 2) (by omega) (by omega) (fun q1 => ?_) (fun q1 => ?_)
    · skip
      exfalso; omega
    · skip
      refine mx_J.step (sn_273 6) (fun _ _ => rfl) ?_
      refine mx_J.step (sn_273 7) (fun _ _ => rfl) ?_
      exact mx_J.ret (sn_273 17) (fun _ _ => rfl) (hP x0 (by omega))
theorem ct_273_A0 {l : Launch} {D : va_G} {b0 : Nat} {ad : Nat → Nat} {Hb : Heap} {tau : Nat → Int64} {d n s : Nat} {S : Nat → xS} {Z : xZ} {h : mx_H} (hx : XH n s S Z h) (hG : GI n S Z)  {x0 : Int} (p0 : (-9223372036854775808) ≤ x0 ∧ x0 ≤ 9223372036854775807) (k0 : ¬ x0 = 0) : ∃ z : Int, mx_Ca (tB l D b0 ad Hb tau) (d + 1) 273 [xL x0, xL 0] h (some (xL z), h) ∧ ((-9223372036854775808) ≤ z ∧ z ≤ 9223372036854775807 ∧ ¬ z = 0) := by
  obtain ⟨r, hca, z, e, hp⟩ := Jmt (B := tB l D b0 ad Hb tau) (M := mt_273) (mi := 273) (as := [xL x0, xL 0]) (d := d + 0) (ls := [some (xL x0), none, some (xL 0), none]) rfl rfl rfl rfl rfl rfl (cw_273_A0 (l := l) (D := D) (b0 := b0) (ad := ad) (Hb := Hb) (tau := tau) (d := d) (Post := fun r => ∃ z : Int, r = (some (xL z), h) ∧ ((-9223372036854775808) ≤ z ∧ z ≤ 9223372036854775807 ∧ ¬ z = 0)) hx hG p0 k0 (fun z hz => ⟨z, rfl, hz⟩))
  subst e; exact ⟨z, hca, hp⟩
set_option maxRecDepth 100000 in
theorem cw_273_B1 {l : Launch} {D : va_G} {b0 : Nat} {ad : Nat → Nat} {Hb : Heap} {tau : Nat → Int64} {d n s : Nat} {S : Nat → xS} {Z : xZ} {h : mx_H} {Post : mx_R → Prop} (hx : XH n s S Z h) (hG : GI n S Z)  {x0 x1 : Int} (p0 : (-1) ≤ x0 ∧ x0 ≤ 1) (p1 : (-1) ≤ x1 ∧ x1 ≤ 1) (k0 : ((x0 ≤ 0 → x1 < -x0 ∧ x0 < x1) ∧ (0 ≤ x0 → x1 < x0 ∧ -x0 < x1))) (hP : ∀ z : Int, (-9223372036854775808) ≤ z ∧ z ≤ 9223372036854775807 ∧ ¬ z = 0 → Post (some (xL z), h)) : mx_J (tB l D b0 ad Hb tau) mt_273 (d + 1) 0 [some (xL x0), none, some (xL x1), none] [] h Post := by
    refine mx_J.step (sn_273 0) (fun _ _ => rfl) ?_
    refine JcL (z := 0) (show mx_Sn _ _ 1 (mx_const (.long 0) 2) from sn_273 1) rfl ?_
    have c17 : ∀ (k1_0 : Int), (-9223372036854775808) ≤ k1_0 ∧ k1_0 ≤ 9223372036854775807 → ¬ k1_0 = 0 → mx_J (tB l D b0 ad Hb tau) mt_273 (d + 1) 17 [some (xL x0), none, some (xL x1), none] [xL k1_0] h Post := by
      intro k1_0 f1_0 f1_1
      exact mx_J.ret (sn_273 17) (fun _ _ => rfl) (hP k1_0 (by omega))
    refine Jlif_ne (show mx_Sn _ _ 2 (mx_lif_ne 10 6) from sn_273 2) (by omega) (by omega) (fun q2 => ?_) (fun q2 => ?_)
    · skip
      refine mx_J.step (sn_273 10) (fun _ _ => rfl) ?_
      refine mx_J.step (sn_273 11) (fun _ _ => rfl) ?_
      refine mx_J.step (sn_273 12) (fun _ _ => rfl) ?_
      refine JlremB (show mx_Sn _ _ 13 (mx_lrem 14) from sn_273 13) (by omega) (by omega) (by omega) k0 (fun y3 hy3 => ?_)
      have el4 : y3 = 0 := by omega
      rw [el4]
      obtain ⟨z4, hc4, b4⟩ := ct_273_A0 (d := d + 0) (l := l) (D := D) (b0 := b0) (ad := ad) (Hb := Hb) (tau := tau) hx hG (show (-9223372036854775808) ≤ x1 ∧ x1 ≤ 9223372036854775807 by omega) (show ¬ x1 = 0 by omega)
      refine Jcs (show mx_Sn _ _ 14 (mx_calls 273 2 17) from sn_273 14) hc4 rfl rfl rfl ?_
      exact c17 z4 (by omega) (by omega)
    · skip
      refine mx_J.step (sn_273 6) (fun _ _ => rfl) ?_
      refine mx_J.step (sn_273 7) (fun _ _ => rfl) ?_
      exact c17 x0 (by omega) (by omega)
theorem ct_273_B1 {l : Launch} {D : va_G} {b0 : Nat} {ad : Nat → Nat} {Hb : Heap} {tau : Nat → Int64} {d n s : Nat} {S : Nat → xS} {Z : xZ} {h : mx_H} (hx : XH n s S Z h) (hG : GI n S Z)  {x0 x1 : Int} (p0 : (-1) ≤ x0 ∧ x0 ≤ 1) (p1 : (-1) ≤ x1 ∧ x1 ≤ 1) (k0 : ((x0 ≤ 0 → x1 < -x0 ∧ x0 < x1) ∧ (0 ≤ x0 → x1 < x0 ∧ -x0 < x1))) : ∃ z : Int, mx_Ca (tB l D b0 ad Hb tau) (d + 2) 273 [xL x0, xL x1] h (some (xL z), h) ∧ ((-9223372036854775808) ≤ z ∧ z ≤ 9223372036854775807 ∧ ¬ z = 0) := by
  obtain ⟨r, hca, z, e, hp⟩ := Jmt (B := tB l D b0 ad Hb tau) (M := mt_273) (mi := 273) (as := [xL x0, xL x1]) (d := d + 1) (ls := [some (xL x0), none, some (xL x1), none]) rfl rfl rfl rfl rfl rfl (cw_273_B1 (l := l) (D := D) (b0 := b0) (ad := ad) (Hb := Hb) (tau := tau) (d := d) (Post := fun r => ∃ z : Int, r = (some (xL z), h) ∧ ((-9223372036854775808) ≤ z ∧ z ≤ 9223372036854775807 ∧ ¬ z = 0)) hx hG p0 p1 k0 (fun z hz => ⟨z, rfl, hz⟩))
  subst e; exact ⟨z, hca, hp⟩
set_option maxRecDepth 100000 in
theorem cw_273_A1 {l : Launch} {D : va_G} {b0 : Nat} {ad : Nat → Nat} {Hb : Heap} {tau : Nat → Int64} {d n s : Nat} {S : Nat → xS} {Z : xZ} {h : mx_H} {Post : mx_R → Prop} (hx : XH n s S Z h) (hG : GI n S Z)  {x0 x1 : Int} (p0 : (-9223372036854775808) ≤ x0 ∧ x0 ≤ 9223372036854775807) (p1 : (-1) ≤ x1 ∧ x1 ≤ 1) (k0 : ¬ (x0 = 0 ∧ x1 = 0)) (hP : ∀ z : Int, (-9223372036854775808) ≤ z ∧ z ≤ 9223372036854775807 ∧ ¬ z = 0 → Post (some (xL z), h)) : mx_J (tB l D b0 ad Hb tau) mt_273 (d + 2) 0 [some (xL x0), none, some (xL x1), none] [] h Post := by
    refine mx_J.step (sn_273 0) (fun _ _ => rfl) ?_
    refine JcL (z := 0) (show mx_Sn _ _ 1 (mx_const (.long 0) 2) from sn_273 1) rfl ?_
    have c17 : ∀ (k1_0 : Int), (-9223372036854775808) ≤ k1_0 ∧ k1_0 ≤ 9223372036854775807 → ¬ k1_0 = 0 → mx_J (tB l D b0 ad Hb tau) mt_273 (d + 2) 17 [some (xL x0), none, some (xL x1), none] [xL k1_0] h Post := by
      intro k1_0 f1_0 f1_1
      exact mx_J.ret (sn_273 17) (fun _ _ => rfl) (hP k1_0 (by omega))
    refine Jlif_ne (show mx_Sn _ _ 2 (mx_lif_ne 10 6) from sn_273 2) (by omega) (by omega) (fun q2 => ?_) (fun q2 => ?_)
    · skip
      refine mx_J.step (sn_273 10) (fun _ _ => rfl) ?_
      refine mx_J.step (sn_273 11) (fun _ _ => rfl) ?_
      refine mx_J.step (sn_273 12) (fun _ _ => rfl) ?_
      refine JlremA (show mx_Sn _ _ 13 (mx_lrem 14) from sn_273 13) (by omega) (by omega) (by omega) (fun y3 hy3 => ?_)
      obtain ⟨z4, hc4, b4⟩ := ct_273_B1 (d := d + 0) (l := l) (D := D) (b0 := b0) (ad := ad) (Hb := Hb) (tau := tau) hx hG (show (-1) ≤ x1 ∧ x1 ≤ 1 by omega) (show (-1) ≤ y3 ∧ y3 ≤ 1 by omega) (show ((x1 ≤ 0 → y3 < -x1 ∧ x1 < y3) ∧ (0 ≤ x1 → y3 < x1 ∧ -x1 < y3)) by omega)
      refine Jcs (show mx_Sn _ _ 14 (mx_calls 273 2 17) from sn_273 14) hc4 rfl rfl rfl ?_
      exact c17 z4 (by omega) (by omega)
    · skip
      refine mx_J.step (sn_273 6) (fun _ _ => rfl) ?_
      refine mx_J.step (sn_273 7) (fun _ _ => rfl) ?_
      exact c17 x0 (by omega) (by omega)
theorem ct_273_A1 {l : Launch} {D : va_G} {b0 : Nat} {ad : Nat → Nat} {Hb : Heap} {tau : Nat → Int64} {d n s : Nat} {S : Nat → xS} {Z : xZ} {h : mx_H} (hx : XH n s S Z h) (hG : GI n S Z)  {x0 x1 : Int} (p0 : (-9223372036854775808) ≤ x0 ∧ x0 ≤ 9223372036854775807) (p1 : (-1) ≤ x1 ∧ x1 ≤ 1) (k0 : ¬ (x0 = 0 ∧ x1 = 0)) : ∃ z : Int, mx_Ca (tB l D b0 ad Hb tau) (d + 3) 273 [xL x0, xL x1] h (some (xL z), h) ∧ ((-9223372036854775808) ≤ z ∧ z ≤ 9223372036854775807 ∧ ¬ z = 0) := by
  obtain ⟨r, hca, z, e, hp⟩ := Jmt (B := tB l D b0 ad Hb tau) (M := mt_273) (mi := 273) (as := [xL x0, xL x1]) (d := d + 2) (ls := [some (xL x0), none, some (xL x1), none]) rfl rfl rfl rfl rfl rfl (cw_273_A1 (l := l) (D := D) (b0 := b0) (ad := ad) (Hb := Hb) (tau := tau) (d := d) (Post := fun r => ∃ z : Int, r = (some (xL z), h) ∧ ((-9223372036854775808) ≤ z ∧ z ≤ 9223372036854775807 ∧ ¬ z = 0)) hx hG p0 p1 k0 (fun z hz => ⟨z, rfl, hz⟩))
  subst e; exact ⟨z, hca, hp⟩
set_option maxRecDepth 100000 in
theorem cw_273_B2 {l : Launch} {D : va_G} {b0 : Nat} {ad : Nat → Nat} {Hb : Heap} {tau : Nat → Int64} {d n s : Nat} {S : Nat → xS} {Z : xZ} {h : mx_H} {Post : mx_R → Prop} (hx : XH n s S Z h) (hG : GI n S Z)  {x0 x1 : Int} (p0 : (-3) ≤ x0 ∧ x0 ≤ 3) (p1 : (-3) ≤ x1 ∧ x1 ≤ 3) (k0 : ((x0 ≤ 0 → x1 < -x0 ∧ x0 < x1) ∧ (0 ≤ x0 → x1 < x0 ∧ -x0 < x1))) (hP : ∀ z : Int, (-9223372036854775808) ≤ z ∧ z ≤ 9223372036854775807 ∧ ¬ z = 0 → Post (some (xL z), h)) : mx_J (tB l D b0 ad Hb tau) mt_273 (d + 3) 0 [some (xL x0), none, some (xL x1), none] [] h Post := by
    refine mx_J.step (sn_273 0) (fun _ _ => rfl) ?_
    refine JcL (z := 0) (show mx_Sn _ _ 1 (mx_const (.long 0) 2) from sn_273 1) rfl ?_
    have c17 : ∀ (k1_0 : Int), (-9223372036854775808) ≤ k1_0 ∧ k1_0 ≤ 9223372036854775807 → ¬ k1_0 = 0 → mx_J (tB l D b0 ad Hb tau) mt_273 (d + 3) 17 [some (xL x0), none, some (xL x1), none] [xL k1_0] h Post := by
      intro k1_0 f1_0 f1_1
      exact mx_J.ret (sn_273 17) (fun _ _ => rfl) (hP k1_0 (by omega))
    refine Jlif_ne (show mx_Sn _ _ 2 (mx_lif_ne 10 6) from sn_273 2) (by omega) (by omega) (fun q2 => ?_) (fun q2 => ?_)
    · skip
      refine mx_J.step (sn_273 10) (fun _ _ => rfl) ?_
      refine mx_J.step (sn_273 11) (fun _ _ => rfl) ?_
      refine mx_J.step (sn_273 12) (fun _ _ => rfl) ?_
      refine JlremB (show mx_Sn _ _ 13 (mx_lrem 14) from sn_273 13) (by omega) (by omega) (by omega) k0 (fun y3 hy3 => ?_)
      obtain ⟨z4, hc4, b4⟩ := ct_273_A1 (d := d + 0) (l := l) (D := D) (b0 := b0) (ad := ad) (Hb := Hb) (tau := tau) hx hG (show (-9223372036854775808) ≤ x1 ∧ x1 ≤ 9223372036854775807 by omega) (show (-1) ≤ y3 ∧ y3 ≤ 1 by omega) (show ¬ (x1 = 0 ∧ y3 = 0) by omega)
      refine Jcs (show mx_Sn _ _ 14 (mx_calls 273 2 17) from sn_273 14) hc4 rfl rfl rfl ?_
      exact c17 z4 (by omega) (by omega)
    · skip
      refine mx_J.step (sn_273 6) (fun _ _ => rfl) ?_
      refine mx_J.step (sn_273 7) (fun _ _ => rfl) ?_
      exact c17 x0 (by omega) (by omega)
theorem ct_273_B2 {l : Launch} {D : va_G} {b0 : Nat} {ad : Nat → Nat} {Hb : Heap} {tau : Nat → Int64} {d n s : Nat} {S : Nat → xS} {Z : xZ} {h : mx_H} (hx : XH n s S Z h) (hG : GI n S Z)  {x0 x1 : Int} (p0 : (-3) ≤ x0 ∧ x0 ≤ 3) (p1 : (-3) ≤ x1 ∧ x1 ≤ 3) (k0 : ((x0 ≤ 0 → x1 < -x0 ∧ x0 < x1) ∧ (0 ≤ x0 → x1 < x0 ∧ -x0 < x1))) : ∃ z : Int, mx_Ca (tB l D b0 ad Hb tau) (d + 4) 273 [xL x0, xL x1] h (some (xL z), h) ∧ ((-9223372036854775808) ≤ z ∧ z ≤ 9223372036854775807 ∧ ¬ z = 0) := by
  obtain ⟨r, hca, z, e, hp⟩ := Jmt (B := tB l D b0 ad Hb tau) (M := mt_273) (mi := 273) (as := [xL x0, xL x1]) (d := d + 3) (ls := [some (xL x0), none, some (xL x1), none]) rfl rfl rfl rfl rfl rfl (cw_273_B2 (l := l) (D := D) (b0 := b0) (ad := ad) (Hb := Hb) (tau := tau) (d := d) (Post := fun r => ∃ z : Int, r = (some (xL z), h) ∧ ((-9223372036854775808) ≤ z ∧ z ≤ 9223372036854775807 ∧ ¬ z = 0)) hx hG p0 p1 k0 (fun z hz => ⟨z, rfl, hz⟩))
  subst e; exact ⟨z, hca, hp⟩
set_option maxRecDepth 100000 in
theorem cw_273_A2 {l : Launch} {D : va_G} {b0 : Nat} {ad : Nat → Nat} {Hb : Heap} {tau : Nat → Int64} {d n s : Nat} {S : Nat → xS} {Z : xZ} {h : mx_H} {Post : mx_R → Prop} (hx : XH n s S Z h) (hG : GI n S Z)  {x0 x1 : Int} (p0 : (-9223372036854775808) ≤ x0 ∧ x0 ≤ 9223372036854775807) (p1 : (-3) ≤ x1 ∧ x1 ≤ 3) (k0 : ¬ (x0 = 0 ∧ x1 = 0)) (hP : ∀ z : Int, (-9223372036854775808) ≤ z ∧ z ≤ 9223372036854775807 ∧ ¬ z = 0 → Post (some (xL z), h)) : mx_J (tB l D b0 ad Hb tau) mt_273 (d + 4) 0 [some (xL x0), none, some (xL x1), none] [] h Post := by
    refine mx_J.step (sn_273 0) (fun _ _ => rfl) ?_
    refine JcL (z := 0) (show mx_Sn _ _ 1 (mx_const (.long 0) 2) from sn_273 1) rfl ?_
    have c17 : ∀ (k1_0 : Int), (-9223372036854775808) ≤ k1_0 ∧ k1_0 ≤ 9223372036854775807 → ¬ k1_0 = 0 → mx_J (tB l D b0 ad Hb tau) mt_273 (d + 4) 17 [some (xL x0), none, some (xL x1), none] [xL k1_0] h Post := by
      intro k1_0 f1_0 f1_1
      exact mx_J.ret (sn_273 17) (fun _ _ => rfl) (hP k1_0 (by omega))
    refine Jlif_ne (show mx_Sn _ _ 2 (mx_lif_ne 10 6) from sn_273 2) (by omega) (by omega) (fun q2 => ?_) (fun q2 => ?_)
    · skip
      refine mx_J.step (sn_273 10) (fun _ _ => rfl) ?_
      refine mx_J.step (sn_273 11) (fun _ _ => rfl) ?_
      refine mx_J.step (sn_273 12) (fun _ _ => rfl) ?_
      refine JlremA (show mx_Sn _ _ 13 (mx_lrem 14) from sn_273 13) (by omega) (by omega) (by omega) (fun y3 hy3 => ?_)
      obtain ⟨z4, hc4, b4⟩ := ct_273_B2 (d := d + 0) (l := l) (D := D) (b0 := b0) (ad := ad) (Hb := Hb) (tau := tau) hx hG (show (-3) ≤ x1 ∧ x1 ≤ 3 by omega) (show (-3) ≤ y3 ∧ y3 ≤ 3 by omega) (show ((x1 ≤ 0 → y3 < -x1 ∧ x1 < y3) ∧ (0 ≤ x1 → y3 < x1 ∧ -x1 < y3)) by omega)
      refine Jcs (show mx_Sn _ _ 14 (mx_calls 273 2 17) from sn_273 14) hc4 rfl rfl rfl ?_
      exact c17 z4 (by omega) (by omega)
    · skip
      refine mx_J.step (sn_273 6) (fun _ _ => rfl) ?_
      refine mx_J.step (sn_273 7) (fun _ _ => rfl) ?_
      exact c17 x0 (by omega) (by omega)
theorem ct_273_A2 {l : Launch} {D : va_G} {b0 : Nat} {ad : Nat → Nat} {Hb : Heap} {tau : Nat → Int64} {d n s : Nat} {S : Nat → xS} {Z : xZ} {h : mx_H} (hx : XH n s S Z h) (hG : GI n S Z)  {x0 x1 : Int} (p0 : (-9223372036854775808) ≤ x0 ∧ x0 ≤ 9223372036854775807) (p1 : (-3) ≤ x1 ∧ x1 ≤ 3) (k0 : ¬ (x0 = 0 ∧ x1 = 0)) : ∃ z : Int, mx_Ca (tB l D b0 ad Hb tau) (d + 5) 273 [xL x0, xL x1] h (some (xL z), h) ∧ ((-9223372036854775808) ≤ z ∧ z ≤ 9223372036854775807 ∧ ¬ z = 0) := by
  obtain ⟨r, hca, z, e, hp⟩ := Jmt (B := tB l D b0 ad Hb tau) (M := mt_273) (mi := 273) (as := [xL x0, xL x1]) (d := d + 4) (ls := [some (xL x0), none, some (xL x1), none]) rfl rfl rfl rfl rfl rfl (cw_273_A2 (l := l) (D := D) (b0 := b0) (ad := ad) (Hb := Hb) (tau := tau) (d := d) (Post := fun r => ∃ z : Int, r = (some (xL z), h) ∧ ((-9223372036854775808) ≤ z ∧ z ≤ 9223372036854775807 ∧ ¬ z = 0)) hx hG p0 p1 k0 (fun z hz => ⟨z, rfl, hz⟩))
  subst e; exact ⟨z, hca, hp⟩
set_option maxRecDepth 100000 in
theorem cw_273_B3 {l : Launch} {D : va_G} {b0 : Nat} {ad : Nat → Nat} {Hb : Heap} {tau : Nat → Int64} {d n s : Nat} {S : Nat → xS} {Z : xZ} {h : mx_H} {Post : mx_R → Prop} (hx : XH n s S Z h) (hG : GI n S Z)  {x0 x1 : Int} (p0 : (-7) ≤ x0 ∧ x0 ≤ 7) (p1 : (-7) ≤ x1 ∧ x1 ≤ 7) (k0 : ((x0 ≤ 0 → x1 < -x0 ∧ x0 < x1) ∧ (0 ≤ x0 → x1 < x0 ∧ -x0 < x1))) (hP : ∀ z : Int, (-9223372036854775808) ≤ z ∧ z ≤ 9223372036854775807 ∧ ¬ z = 0 → Post (some (xL z), h)) : mx_J (tB l D b0 ad Hb tau) mt_273 (d + 5) 0 [some (xL x0), none, some (xL x1), none] [] h Post := by
    refine mx_J.step (sn_273 0) (fun _ _ => rfl) ?_
    refine JcL (z := 0) (show mx_Sn _ _ 1 (mx_const (.long 0) 2) from sn_273 1) rfl ?_
    have c17 : ∀ (k1_0 : Int), (-9223372036854775808) ≤ k1_0 ∧ k1_0 ≤ 9223372036854775807 → ¬ k1_0 = 0 → mx_J (tB l D b0 ad Hb tau) mt_273 (d + 5) 17 [some (xL x0), none, some (xL x1), none] [xL k1_0] h Post := by
      intro k1_0 f1_0 f1_1
      exact mx_J.ret (sn_273 17) (fun _ _ => rfl) (hP k1_0 (by omega))
    refine Jlif_ne (show mx_Sn _ _ 2 (mx_lif_ne 10 6) from sn_273 2) (by omega) (by omega) (fun q2 => ?_) (fun q2 => ?_)
    · skip
      refine mx_J.step (sn_273 10) (fun _ _ => rfl) ?_
      refine mx_J.step (sn_273 11) (fun _ _ => rfl) ?_
      refine mx_J.step (sn_273 12) (fun _ _ => rfl) ?_
      refine JlremB (show mx_Sn _ _ 13 (mx_lrem 14) from sn_273 13) (by omega) (by omega) (by omega) k0 (fun y3 hy3 => ?_)
      obtain ⟨z4, hc4, b4⟩ := ct_273_A2 (d := d + 0) (l := l) (D := D) (b0 := b0) (ad := ad) (Hb := Hb) (tau := tau) hx hG (show (-9223372036854775808) ≤ x1 ∧ x1 ≤ 9223372036854775807 by omega) (show (-3) ≤ y3 ∧ y3 ≤ 3 by omega) (show ¬ (x1 = 0 ∧ y3 = 0) by omega)
      refine Jcs (show mx_Sn _ _ 14 (mx_calls 273 2 17) from sn_273 14) hc4 rfl rfl rfl ?_
      exact c17 z4 (by omega) (by omega)
    · skip
      refine mx_J.step (sn_273 6) (fun _ _ => rfl) ?_
      refine mx_J.step (sn_273 7) (fun _ _ => rfl) ?_
      exact c17 x0 (by omega) (by omega)
theorem ct_273_B3 {l : Launch} {D : va_G} {b0 : Nat} {ad : Nat → Nat} {Hb : Heap} {tau : Nat → Int64} {d n s : Nat} {S : Nat → xS} {Z : xZ} {h : mx_H} (hx : XH n s S Z h) (hG : GI n S Z)  {x0 x1 : Int} (p0 : (-7) ≤ x0 ∧ x0 ≤ 7) (p1 : (-7) ≤ x1 ∧ x1 ≤ 7) (k0 : ((x0 ≤ 0 → x1 < -x0 ∧ x0 < x1) ∧ (0 ≤ x0 → x1 < x0 ∧ -x0 < x1))) : ∃ z : Int, mx_Ca (tB l D b0 ad Hb tau) (d + 6) 273 [xL x0, xL x1] h (some (xL z), h) ∧ ((-9223372036854775808) ≤ z ∧ z ≤ 9223372036854775807 ∧ ¬ z = 0) := by
  obtain ⟨r, hca, z, e, hp⟩ := Jmt (B := tB l D b0 ad Hb tau) (M := mt_273) (mi := 273) (as := [xL x0, xL x1]) (d := d + 5) (ls := [some (xL x0), none, some (xL x1), none]) rfl rfl rfl rfl rfl rfl (cw_273_B3 (l := l) (D := D) (b0 := b0) (ad := ad) (Hb := Hb) (tau := tau) (d := d) (Post := fun r => ∃ z : Int, r = (some (xL z), h) ∧ ((-9223372036854775808) ≤ z ∧ z ≤ 9223372036854775807 ∧ ¬ z = 0)) hx hG p0 p1 k0 (fun z hz => ⟨z, rfl, hz⟩))
  subst e; exact ⟨z, hca, hp⟩
set_option maxRecDepth 100000 in
theorem cw_273_A3 {l : Launch} {D : va_G} {b0 : Nat} {ad : Nat → Nat} {Hb : Heap} {tau : Nat → Int64} {d n s : Nat} {S : Nat → xS} {Z : xZ} {h : mx_H} {Post : mx_R → Prop} (hx : XH n s S Z h) (hG : GI n S Z)  {x0 x1 : Int} (p0 : (-9223372036854775808) ≤ x0 ∧ x0 ≤ 9223372036854775807) (p1 : (-7) ≤ x1 ∧ x1 ≤ 7) (k0 : ¬ (x0 = 0 ∧ x1 = 0)) (hP : ∀ z : Int, (-9223372036854775808) ≤ z ∧ z ≤ 9223372036854775807 ∧ ¬ z = 0 → Post (some (xL z), h)) : mx_J (tB l D b0 ad Hb tau) mt_273 (d + 6) 0 [some (xL x0), none, some (xL x1), none] [] h Post := by
    refine mx_J.step (sn_273 0) (fun _ _ => rfl) ?_
    refine JcL (z := 0) (show mx_Sn _ _ 1 (mx_const (.long 0) 2) from sn_273 1) rfl ?_
    have c17 : ∀ (k1_0 : Int), (-9223372036854775808) ≤ k1_0 ∧ k1_0 ≤ 9223372036854775807 → ¬ k1_0 = 0 → mx_J (tB l D b0 ad Hb tau) mt_273 (d + 6) 17 [some (xL x0), none, some (xL x1), none] [xL k1_0] h Post := by
      intro k1_0 f1_0 f1_1
      exact mx_J.ret (sn_273 17) (fun _ _ => rfl) (hP k1_0 (by omega))
    refine Jlif_ne (show mx_Sn _ _ 2 (mx_lif_ne 10 6) from sn_273 2) (by omega) (by omega) (fun q2 => ?_) (fun q2 => ?_)
    · skip
      refine mx_J.step (sn_273 10) (fun _ _ => rfl) ?_
      refine mx_J.step (sn_273 11) (fun _ _ => rfl) ?_
      refine mx_J.step (sn_273 12) (fun _ _ => rfl) ?_
      refine JlremA (show mx_Sn _ _ 13 (mx_lrem 14) from sn_273 13) (by omega) (by omega) (by omega) (fun y3 hy3 => ?_)
      obtain ⟨z4, hc4, b4⟩ := ct_273_B3 (d := d + 0) (l := l) (D := D) (b0 := b0) (ad := ad) (Hb := Hb) (tau := tau) hx hG (show (-7) ≤ x1 ∧ x1 ≤ 7 by omega) (show (-7) ≤ y3 ∧ y3 ≤ 7 by omega) (show ((x1 ≤ 0 → y3 < -x1 ∧ x1 < y3) ∧ (0 ≤ x1 → y3 < x1 ∧ -x1 < y3)) by omega)
      refine Jcs (show mx_Sn _ _ 14 (mx_calls 273 2 17) from sn_273 14) hc4 rfl rfl rfl ?_
      exact c17 z4 (by omega) (by omega)
    · skip
      refine mx_J.step (sn_273 6) (fun _ _ => rfl) ?_
      refine mx_J.step (sn_273 7) (fun _ _ => rfl) ?_
      exact c17 x0 (by omega) (by omega)
theorem ct_273_A3 {l : Launch} {D : va_G} {b0 : Nat} {ad : Nat → Nat} {Hb : Heap} {tau : Nat → Int64} {d n s : Nat} {S : Nat → xS} {Z : xZ} {h : mx_H} (hx : XH n s S Z h) (hG : GI n S Z)  {x0 x1 : Int} (p0 : (-9223372036854775808) ≤ x0 ∧ x0 ≤ 9223372036854775807) (p1 : (-7) ≤ x1 ∧ x1 ≤ 7) (k0 : ¬ (x0 = 0 ∧ x1 = 0)) : ∃ z : Int, mx_Ca (tB l D b0 ad Hb tau) (d + 7) 273 [xL x0, xL x1] h (some (xL z), h) ∧ ((-9223372036854775808) ≤ z ∧ z ≤ 9223372036854775807 ∧ ¬ z = 0) := by
  obtain ⟨r, hca, z, e, hp⟩ := Jmt (B := tB l D b0 ad Hb tau) (M := mt_273) (mi := 273) (as := [xL x0, xL x1]) (d := d + 6) (ls := [some (xL x0), none, some (xL x1), none]) rfl rfl rfl rfl rfl rfl (cw_273_A3 (l := l) (D := D) (b0 := b0) (ad := ad) (Hb := Hb) (tau := tau) (d := d) (Post := fun r => ∃ z : Int, r = (some (xL z), h) ∧ ((-9223372036854775808) ≤ z ∧ z ≤ 9223372036854775807 ∧ ¬ z = 0)) hx hG p0 p1 k0 (fun z hz => ⟨z, rfl, hz⟩))
  subst e; exact ⟨z, hca, hp⟩
set_option maxRecDepth 100000 in
theorem cw_273_B4 {l : Launch} {D : va_G} {b0 : Nat} {ad : Nat → Nat} {Hb : Heap} {tau : Nat → Int64} {d n s : Nat} {S : Nat → xS} {Z : xZ} {h : mx_H} {Post : mx_R → Prop} (hx : XH n s S Z h) (hG : GI n S Z)  {x0 x1 : Int} (p0 : (-15) ≤ x0 ∧ x0 ≤ 15) (p1 : (-15) ≤ x1 ∧ x1 ≤ 15) (k0 : ((x0 ≤ 0 → x1 < -x0 ∧ x0 < x1) ∧ (0 ≤ x0 → x1 < x0 ∧ -x0 < x1))) (hP : ∀ z : Int, (-9223372036854775808) ≤ z ∧ z ≤ 9223372036854775807 ∧ ¬ z = 0 → Post (some (xL z), h)) : mx_J (tB l D b0 ad Hb tau) mt_273 (d + 7) 0 [some (xL x0), none, some (xL x1), none] [] h Post := by
    refine mx_J.step (sn_273 0) (fun _ _ => rfl) ?_
    refine JcL (z := 0) (show mx_Sn _ _ 1 (mx_const (.long 0) 2) from sn_273 1) rfl ?_
    have c17 : ∀ (k1_0 : Int), (-9223372036854775808) ≤ k1_0 ∧ k1_0 ≤ 9223372036854775807 → ¬ k1_0 = 0 → mx_J (tB l D b0 ad Hb tau) mt_273 (d + 7) 17 [some (xL x0), none, some (xL x1), none] [xL k1_0] h Post := by
      intro k1_0 f1_0 f1_1
      exact mx_J.ret (sn_273 17) (fun _ _ => rfl) (hP k1_0 (by omega))
    refine Jlif_ne (show mx_Sn _ _ 2 (mx_lif_ne 10 6) from sn_273 2) (by omega) (by omega) (fun q2 => ?_) (fun q2 => ?_)
    · skip
      refine mx_J.step (sn_273 10) (fun _ _ => rfl) ?_
      refine mx_J.step (sn_273 11) (fun _ _ => rfl) ?_
      refine mx_J.step (sn_273 12) (fun _ _ => rfl) ?_
      refine JlremB (show mx_Sn _ _ 13 (mx_lrem 14) from sn_273 13) (by omega) (by omega) (by omega) k0 (fun y3 hy3 => ?_)
      obtain ⟨z4, hc4, b4⟩ := ct_273_A3 (d := d + 0) (l := l) (D := D) (b0 := b0) (ad := ad) (Hb := Hb) (tau := tau) hx hG (show (-9223372036854775808) ≤ x1 ∧ x1 ≤ 9223372036854775807 by omega) (show (-7) ≤ y3 ∧ y3 ≤ 7 by omega) (show ¬ (x1 = 0 ∧ y3 = 0) by omega)
      refine Jcs (show mx_Sn _ _ 14 (mx_calls 273 2 17) from sn_273 14) hc4 rfl rfl rfl ?_
      exact c17 z4 (by omega) (by omega)
    · skip
      refine mx_J.step (sn_273 6) (fun _ _ => rfl) ?_
      refine mx_J.step (sn_273 7) (fun _ _ => rfl) ?_
      exact c17 x0 (by omega) (by omega)
theorem ct_273_B4 {l : Launch} {D : va_G} {b0 : Nat} {ad : Nat → Nat} {Hb : Heap} {tau : Nat → Int64} {d n s : Nat} {S : Nat → xS} {Z : xZ} {h : mx_H} (hx : XH n s S Z h) (hG : GI n S Z)  {x0 x1 : Int} (p0 : (-15) ≤ x0 ∧ x0 ≤ 15) (p1 : (-15) ≤ x1 ∧ x1 ≤ 15) (k0 : ((x0 ≤ 0 → x1 < -x0 ∧ x0 < x1) ∧ (0 ≤ x0 → x1 < x0 ∧ -x0 < x1))) : ∃ z : Int, mx_Ca (tB l D b0 ad Hb tau) (d + 8) 273 [xL x0, xL x1] h (some (xL z), h) ∧ ((-9223372036854775808) ≤ z ∧ z ≤ 9223372036854775807 ∧ ¬ z = 0) := by
  obtain ⟨r, hca, z, e, hp⟩ := Jmt (B := tB l D b0 ad Hb tau) (M := mt_273) (mi := 273) (as := [xL x0, xL x1]) (d := d + 7) (ls := [some (xL x0), none, some (xL x1), none]) rfl rfl rfl rfl rfl rfl (cw_273_B4 (l := l) (D := D) (b0 := b0) (ad := ad) (Hb := Hb) (tau := tau) (d := d) (Post := fun r => ∃ z : Int, r = (some (xL z), h) ∧ ((-9223372036854775808) ≤ z ∧ z ≤ 9223372036854775807 ∧ ¬ z = 0)) hx hG p0 p1 k0 (fun z hz => ⟨z, rfl, hz⟩))
  subst e; exact ⟨z, hca, hp⟩
set_option maxRecDepth 100000 in
theorem cw_273_A4 {l : Launch} {D : va_G} {b0 : Nat} {ad : Nat → Nat} {Hb : Heap} {tau : Nat → Int64} {d n s : Nat} {S : Nat → xS} {Z : xZ} {h : mx_H} {Post : mx_R → Prop} (hx : XH n s S Z h) (hG : GI n S Z)  {x0 x1 : Int} (p0 : (-9223372036854775808) ≤ x0 ∧ x0 ≤ 9223372036854775807) (p1 : (-15) ≤ x1 ∧ x1 ≤ 15) (k0 : ¬ (x0 = 0 ∧ x1 = 0)) (hP : ∀ z : Int, (-9223372036854775808) ≤ z ∧ z ≤ 9223372036854775807 ∧ ¬ z = 0 → Post (some (xL z), h)) : mx_J (tB l D b0 ad Hb tau) mt_273 (d + 8) 0 [some (xL x0), none, some (xL x1), none] [] h Post := by
    refine mx_J.step (sn_273 0) (fun _ _ => rfl) ?_
    refine JcL (z := 0) (show mx_Sn _ _ 1 (mx_const (.long 0) 2) from sn_273 1) rfl ?_
    have c17 : ∀ (k1_0 : Int), (-9223372036854775808) ≤ k1_0 ∧ k1_0 ≤ 9223372036854775807 → ¬ k1_0 = 0 → mx_J (tB l D b0 ad Hb tau) mt_273 (d + 8) 17 [some (xL x0), none, some (xL x1), none] [xL k1_0] h Post := by
      intro k1_0 f1_0 f1_1
      exact mx_J.ret (sn_273 17) (fun _ _ => rfl) (hP k1_0 (by omega))
    refine Jlif_ne (show mx_Sn _ _ 2 (mx_lif_ne 10 6) from sn_273 2) (by omega) (by omega) (fun q2 => ?_) (fun q2 => ?_)
    · skip
      refine mx_J.step (sn_273 10) (fun _ _ => rfl) ?_
      refine mx_J.step (sn_273 11) (fun _ _ => rfl) ?_
      refine mx_J.step (sn_273 12) (fun _ _ => rfl) ?_
      refine JlremA (show mx_Sn _ _ 13 (mx_lrem 14) from sn_273 13) (by omega) (by omega) (by omega) (fun y3 hy3 => ?_)
      obtain ⟨z4, hc4, b4⟩ := ct_273_B4 (d := d + 0) (l := l) (D := D) (b0 := b0) (ad := ad) (Hb := Hb) (tau := tau) hx hG (show (-15) ≤ x1 ∧ x1 ≤ 15 by omega) (show (-15) ≤ y3 ∧ y3 ≤ 15 by omega) (show ((x1 ≤ 0 → y3 < -x1 ∧ x1 < y3) ∧ (0 ≤ x1 → y3 < x1 ∧ -x1 < y3)) by omega)
      refine Jcs (show mx_Sn _ _ 14 (mx_calls 273 2 17) from sn_273 14) hc4 rfl rfl rfl ?_
      exact c17 z4 (by omega) (by omega)
    · skip
      refine mx_J.step (sn_273 6) (fun _ _ => rfl) ?_
      refine mx_J.step (sn_273 7) (fun _ _ => rfl) ?_
      exact c17 x0 (by omega) (by omega)
theorem ct_273_A4 {l : Launch} {D : va_G} {b0 : Nat} {ad : Nat → Nat} {Hb : Heap} {tau : Nat → Int64} {d n s : Nat} {S : Nat → xS} {Z : xZ} {h : mx_H} (hx : XH n s S Z h) (hG : GI n S Z)  {x0 x1 : Int} (p0 : (-9223372036854775808) ≤ x0 ∧ x0 ≤ 9223372036854775807) (p1 : (-15) ≤ x1 ∧ x1 ≤ 15) (k0 : ¬ (x0 = 0 ∧ x1 = 0)) : ∃ z : Int, mx_Ca (tB l D b0 ad Hb tau) (d + 9) 273 [xL x0, xL x1] h (some (xL z), h) ∧ ((-9223372036854775808) ≤ z ∧ z ≤ 9223372036854775807 ∧ ¬ z = 0) := by
  obtain ⟨r, hca, z, e, hp⟩ := Jmt (B := tB l D b0 ad Hb tau) (M := mt_273) (mi := 273) (as := [xL x0, xL x1]) (d := d + 8) (ls := [some (xL x0), none, some (xL x1), none]) rfl rfl rfl rfl rfl rfl (cw_273_A4 (l := l) (D := D) (b0 := b0) (ad := ad) (Hb := Hb) (tau := tau) (d := d) (Post := fun r => ∃ z : Int, r = (some (xL z), h) ∧ ((-9223372036854775808) ≤ z ∧ z ≤ 9223372036854775807 ∧ ¬ z = 0)) hx hG p0 p1 k0 (fun z hz => ⟨z, rfl, hz⟩))
  subst e; exact ⟨z, hca, hp⟩
set_option maxRecDepth 100000 in
theorem cw_273_B5 {l : Launch} {D : va_G} {b0 : Nat} {ad : Nat → Nat} {Hb : Heap} {tau : Nat → Int64} {d n s : Nat} {S : Nat → xS} {Z : xZ} {h : mx_H} {Post : mx_R → Prop} (hx : XH n s S Z h) (hG : GI n S Z)  {x0 x1 : Int} (p0 : (-31) ≤ x0 ∧ x0 ≤ 31) (p1 : (-31) ≤ x1 ∧ x1 ≤ 31) (k0 : ((x0 ≤ 0 → x1 < -x0 ∧ x0 < x1) ∧ (0 ≤ x0 → x1 < x0 ∧ -x0 < x1))) (hP : ∀ z : Int, (-9223372036854775808) ≤ z ∧ z ≤ 9223372036854775807 ∧ ¬ z = 0 → Post (some (xL z), h)) : mx_J (tB l D b0 ad Hb tau) mt_273 (d + 9) 0 [some (xL x0), none, some (xL x1), none] [] h Post := by
    refine mx_J.step (sn_273 0) (fun _ _ => rfl) ?_
    refine JcL (z := 0) (show mx_Sn _ _ 1 (mx_const (.long 0) 2) from sn_273 1) rfl ?_
    have c17 : ∀ (k1_0 : Int), (-9223372036854775808) ≤ k1_0 ∧ k1_0 ≤ 9223372036854775807 → ¬ k1_0 = 0 → mx_J (tB l D b0 ad Hb tau) mt_273 (d + 9) 17 [some (xL x0), none, some (xL x1), none] [xL k1_0] h Post := by
      intro k1_0 f1_0 f1_1
      exact mx_J.ret (sn_273 17) (fun _ _ => rfl) (hP k1_0 (by omega))
    refine Jlif_ne (show mx_Sn _ _ 2 (mx_lif_ne 10 6) from sn_273 2) (by omega) (by omega) (fun q2 => ?_) (fun q2 => ?_)
    · skip
      refine mx_J.step (sn_273 10) (fun _ _ => rfl) ?_
      refine mx_J.step (sn_273 11) (fun _ _ => rfl) ?_
      refine mx_J.step (sn_273 12) (fun _ _ => rfl) ?_
      refine JlremB (show mx_Sn _ _ 13 (mx_lrem 14) from sn_273 13) (by omega) (by omega) (by omega) k0 (fun y3 hy3 => ?_)
      obtain ⟨z4, hc4, b4⟩ := ct_273_A4 (d := d + 0) (l := l) (D := D) (b0 := b0) (ad := ad) (Hb := Hb) (tau := tau) hx hG (show (-9223372036854775808) ≤ x1 ∧ x1 ≤ 9223372036854775807 by omega) (show (-15) ≤ y3 ∧ y3 ≤ 15 by omega) (show ¬ (x1 = 0 ∧ y3 = 0) by omega)
      refine Jcs (show mx_Sn _ _ 14 (mx_calls 273 2 17) from sn_273 14) hc4 rfl rfl rfl ?_
      exact c17 z4 (by omega) (by omega)
    · skip
      refine mx_J.step (sn_273 6) (fun _ _ => rfl) ?_
      refine mx_J.step (sn_273 7) (fun _ _ => rfl) ?_
      exact c17 x0 (by omega) (by omega)
theorem ct_273_B5 {l : Launch} {D : va_G} {b0 : Nat} {ad : Nat → Nat} {Hb : Heap} {tau : Nat → Int64} {d n s : Nat} {S : Nat → xS} {Z : xZ} {h : mx_H} (hx : XH n s S Z h) (hG : GI n S Z)  {x0 x1 : Int} (p0 : (-31) ≤ x0 ∧ x0 ≤ 31) (p1 : (-31) ≤ x1 ∧ x1 ≤ 31) (k0 : ((x0 ≤ 0 → x1 < -x0 ∧ x0 < x1) ∧ (0 ≤ x0 → x1 < x0 ∧ -x0 < x1))) : ∃ z : Int, mx_Ca (tB l D b0 ad Hb tau) (d + 10) 273 [xL x0, xL x1] h (some (xL z), h) ∧ ((-9223372036854775808) ≤ z ∧ z ≤ 9223372036854775807 ∧ ¬ z = 0) := by
  obtain ⟨r, hca, z, e, hp⟩ := Jmt (B := tB l D b0 ad Hb tau) (M := mt_273) (mi := 273) (as := [xL x0, xL x1]) (d := d + 9) (ls := [some (xL x0), none, some (xL x1), none]) rfl rfl rfl rfl rfl rfl (cw_273_B5 (l := l) (D := D) (b0 := b0) (ad := ad) (Hb := Hb) (tau := tau) (d := d) (Post := fun r => ∃ z : Int, r = (some (xL z), h) ∧ ((-9223372036854775808) ≤ z ∧ z ≤ 9223372036854775807 ∧ ¬ z = 0)) hx hG p0 p1 k0 (fun z hz => ⟨z, rfl, hz⟩))
  subst e; exact ⟨z, hca, hp⟩
set_option maxRecDepth 100000 in
theorem cw_273_A5 {l : Launch} {D : va_G} {b0 : Nat} {ad : Nat → Nat} {Hb : Heap} {tau : Nat → Int64} {d n s : Nat} {S : Nat → xS} {Z : xZ} {h : mx_H} {Post : mx_R → Prop} (hx : XH n s S Z h) (hG : GI n S Z)  {x0 x1 : Int} (p0 : (-9223372036854775808) ≤ x0 ∧ x0 ≤ 9223372036854775807) (p1 : (-31) ≤ x1 ∧ x1 ≤ 31) (k0 : ¬ (x0 = 0 ∧ x1 = 0)) (hP : ∀ z : Int, (-9223372036854775808) ≤ z ∧ z ≤ 9223372036854775807 ∧ ¬ z = 0 → Post (some (xL z), h)) : mx_J (tB l D b0 ad Hb tau) mt_273 (d + 10) 0 [some (xL x0), none, some (xL x1), none] [] h Post := by
    refine mx_J.step (sn_273 0) (fun _ _ => rfl) ?_
    refine JcL (z := 0) (show mx_Sn _ _ 1 (mx_const (.long 0) 2) from sn_273 1) rfl ?_
    have c17 : ∀ (k1_0 : Int), (-9223372036854775808) ≤ k1_0 ∧ k1_0 ≤ 9223372036854775807 → ¬ k1_0 = 0 → mx_J (tB l D b0 ad Hb tau) mt_273 (d + 10) 17 [some (xL x0), none, some (xL x1), none] [xL k1_0] h Post := by
      intro k1_0 f1_0 f1_1
      exact mx_J.ret (sn_273 17) (fun _ _ => rfl) (hP k1_0 (by omega))
    refine Jlif_ne (show mx_Sn _ _ 2 (mx_lif_ne 10 6) from sn_273 2) (by omega) (by omega) (fun q2 => ?_) (fun q2 => ?_)
    · skip
      refine mx_J.step (sn_273 10) (fun _ _ => rfl) ?_
      refine mx_J.step (sn_273 11) (fun _ _ => rfl) ?_
      refine mx_J.step (sn_273 12) (fun _ _ => rfl) ?_
      refine JlremA (show mx_Sn _ _ 13 (mx_lrem 14) from sn_273 13) (by omega) (by omega) (by omega) (fun y3 hy3 => ?_)
      obtain ⟨z4, hc4, b4⟩ := ct_273_B5 (d := d + 0) (l := l) (D := D) (b0 := b0) (ad := ad) (Hb := Hb) (tau := tau) hx hG (show (-31) ≤ x1 ∧ x1 ≤ 31 by omega) (show (-31) ≤ y3 ∧ y3 ≤ 31 by omega) (show ((x1 ≤ 0 → y3 < -x1 ∧ x1 < y3) ∧ (0 ≤ x1 → y3 < x1 ∧ -x1 < y3)) by omega)
      refine Jcs (show mx_Sn _ _ 14 (mx_calls 273 2 17) from sn_273 14) hc4 rfl rfl rfl ?_
      exact c17 z4 (by omega) (by omega)
    · skip
      refine mx_J.step (sn_273 6) (fun _ _ => rfl) ?_
      refine mx_J.step (sn_273 7) (fun _ _ => rfl) ?_
      exact c17 x0 (by omega) (by omega)
theorem ct_273_A5 {l : Launch} {D : va_G} {b0 : Nat} {ad : Nat → Nat} {Hb : Heap} {tau : Nat → Int64} {d n s : Nat} {S : Nat → xS} {Z : xZ} {h : mx_H} (hx : XH n s S Z h) (hG : GI n S Z)  {x0 x1 : Int} (p0 : (-9223372036854775808) ≤ x0 ∧ x0 ≤ 9223372036854775807) (p1 : (-31) ≤ x1 ∧ x1 ≤ 31) (k0 : ¬ (x0 = 0 ∧ x1 = 0)) : ∃ z : Int, mx_Ca (tB l D b0 ad Hb tau) (d + 11) 273 [xL x0, xL x1] h (some (xL z), h) ∧ ((-9223372036854775808) ≤ z ∧ z ≤ 9223372036854775807 ∧ ¬ z = 0) := by
  obtain ⟨r, hca, z, e, hp⟩ := Jmt (B := tB l D b0 ad Hb tau) (M := mt_273) (mi := 273) (as := [xL x0, xL x1]) (d := d + 10) (ls := [some (xL x0), none, some (xL x1), none]) rfl rfl rfl rfl rfl rfl (cw_273_A5 (l := l) (D := D) (b0 := b0) (ad := ad) (Hb := Hb) (tau := tau) (d := d) (Post := fun r => ∃ z : Int, r = (some (xL z), h) ∧ ((-9223372036854775808) ≤ z ∧ z ≤ 9223372036854775807 ∧ ¬ z = 0)) hx hG p0 p1 k0 (fun z hz => ⟨z, rfl, hz⟩))
  subst e; exact ⟨z, hca, hp⟩
set_option maxRecDepth 100000 in
theorem cw_273_B6 {l : Launch} {D : va_G} {b0 : Nat} {ad : Nat → Nat} {Hb : Heap} {tau : Nat → Int64} {d n s : Nat} {S : Nat → xS} {Z : xZ} {h : mx_H} {Post : mx_R → Prop} (hx : XH n s S Z h) (hG : GI n S Z)  {x0 x1 : Int} (p0 : (-63) ≤ x0 ∧ x0 ≤ 63) (p1 : (-63) ≤ x1 ∧ x1 ≤ 63) (k0 : ((x0 ≤ 0 → x1 < -x0 ∧ x0 < x1) ∧ (0 ≤ x0 → x1 < x0 ∧ -x0 < x1))) (hP : ∀ z : Int, (-9223372036854775808) ≤ z ∧ z ≤ 9223372036854775807 ∧ ¬ z = 0 → Post (some (xL z), h)) : mx_J (tB l D b0 ad Hb tau) mt_273 (d + 11) 0 [some (xL x0), none, some (xL x1), none] [] h Post := by
    refine mx_J.step (sn_273 0) (fun _ _ => rfl) ?_
    refine JcL (z := 0) (show mx_Sn _ _ 1 (mx_const (.long 0) 2) from sn_273 1) rfl ?_
    have c17 : ∀ (k1_0 : Int), (-9223372036854775808) ≤ k1_0 ∧ k1_0 ≤ 9223372036854775807 → ¬ k1_0 = 0 → mx_J (tB l D b0 ad Hb tau) mt_273 (d + 11) 17 [some (xL x0), none, some (xL x1), none] [xL k1_0] h Post := by
      intro k1_0 f1_0 f1_1
      exact mx_J.ret (sn_273 17) (fun _ _ => rfl) (hP k1_0 (by omega))
    refine Jlif_ne (show mx_Sn _ _ 2 (mx_lif_ne 10 6) from sn_273 2) (by omega) (by omega) (fun q2 => ?_) (fun q2 => ?_)
    · skip
      refine mx_J.step (sn_273 10) (fun _ _ => rfl) ?_
      refine mx_J.step (sn_273 11) (fun _ _ => rfl) ?_
      refine mx_J.step (sn_273 12) (fun _ _ => rfl) ?_
      refine JlremB (show mx_Sn _ _ 13 (mx_lrem 14) from sn_273 13) (by omega) (by omega) (by omega) k0 (fun y3 hy3 => ?_)
      obtain ⟨z4, hc4, b4⟩ := ct_273_A5 (d := d + 0) (l := l) (D := D) (b0 := b0) (ad := ad) (Hb := Hb) (tau := tau) hx hG (show (-9223372036854775808) ≤ x1 ∧ x1 ≤ 9223372036854775807 by omega) (show (-31) ≤ y3 ∧ y3 ≤ 31 by omega) (show ¬ (x1 = 0 ∧ y3 = 0) by omega)
      refine Jcs (show mx_Sn _ _ 14 (mx_calls 273 2 17) from sn_273 14) hc4 rfl rfl rfl ?_
      exact c17 z4 (by omega) (by omega)
    · skip
      refine mx_J.step (sn_273 6) (fun _ _ => rfl) ?_
      refine mx_J.step (sn_273 7) (fun _ _ => rfl) ?_
      exact c17 x0 (by omega) (by omega)
theorem ct_273_B6 {l : Launch} {D : va_G} {b0 : Nat} {ad : Nat → Nat} {Hb : Heap} {tau : Nat → Int64} {d n s : Nat} {S : Nat → xS} {Z : xZ} {h : mx_H} (hx : XH n s S Z h) (hG : GI n S Z)  {x0 x1 : Int} (p0 : (-63) ≤ x0 ∧ x0 ≤ 63) (p1 : (-63) ≤ x1 ∧ x1 ≤ 63) (k0 : ((x0 ≤ 0 → x1 < -x0 ∧ x0 < x1) ∧ (0 ≤ x0 → x1 < x0 ∧ -x0 < x1))) : ∃ z : Int, mx_Ca (tB l D b0 ad Hb tau) (d + 12) 273 [xL x0, xL x1] h (some (xL z), h) ∧ ((-9223372036854775808) ≤ z ∧ z ≤ 9223372036854775807 ∧ ¬ z = 0) := by
  obtain ⟨r, hca, z, e, hp⟩ := Jmt (B := tB l D b0 ad Hb tau) (M := mt_273) (mi := 273) (as := [xL x0, xL x1]) (d := d + 11) (ls := [some (xL x0), none, some (xL x1), none]) rfl rfl rfl rfl rfl rfl (cw_273_B6 (l := l) (D := D) (b0 := b0) (ad := ad) (Hb := Hb) (tau := tau) (d := d) (Post := fun r => ∃ z : Int, r = (some (xL z), h) ∧ ((-9223372036854775808) ≤ z ∧ z ≤ 9223372036854775807 ∧ ¬ z = 0)) hx hG p0 p1 k0 (fun z hz => ⟨z, rfl, hz⟩))
  subst e; exact ⟨z, hca, hp⟩
set_option maxRecDepth 100000 in
theorem cw_273_A6 {l : Launch} {D : va_G} {b0 : Nat} {ad : Nat → Nat} {Hb : Heap} {tau : Nat → Int64} {d n s : Nat} {S : Nat → xS} {Z : xZ} {h : mx_H} {Post : mx_R → Prop} (hx : XH n s S Z h) (hG : GI n S Z)  {x0 x1 : Int} (p0 : (-9223372036854775808) ≤ x0 ∧ x0 ≤ 9223372036854775807) (p1 : (-63) ≤ x1 ∧ x1 ≤ 63) (k0 : ¬ (x0 = 0 ∧ x1 = 0)) (hP : ∀ z : Int, (-9223372036854775808) ≤ z ∧ z ≤ 9223372036854775807 ∧ ¬ z = 0 → Post (some (xL z), h)) : mx_J (tB l D b0 ad Hb tau) mt_273 (d + 12) 0 [some (xL x0), none, some (xL x1), none] [] h Post := by
    refine mx_J.step (sn_273 0) (fun _ _ => rfl) ?_
    refine JcL (z := 0) (show mx_Sn _ _ 1 (mx_const (.long 0) 2) from sn_273 1) rfl ?_
    have c17 : ∀ (k1_0 : Int), (-9223372036854775808) ≤ k1_0 ∧ k1_0 ≤ 9223372036854775807 → ¬ k1_0 = 0 → mx_J (tB l D b0 ad Hb tau) mt_273 (d + 12) 17 [some (xL x0), none, some (xL x1), none] [xL k1_0] h Post := by
      intro k1_0 f1_0 f1_1
      exact mx_J.ret (sn_273 17) (fun _ _ => rfl) (hP k1_0 (by omega))
    refine Jlif_ne (show mx_Sn _ _ 2 (mx_lif_ne 10 6) from sn_273 2) (by omega) (by omega) (fun q2 => ?_) (fun q2 => ?_)
    · skip
      refine mx_J.step (sn_273 10) (fun _ _ => rfl) ?_
      refine mx_J.step (sn_273 11) (fun _ _ => rfl) ?_
      refine mx_J.step (sn_273 12) (fun _ _ => rfl) ?_
      refine JlremA (show mx_Sn _ _ 13 (mx_lrem 14) from sn_273 13) (by omega) (by omega) (by omega) (fun y3 hy3 => ?_)
      obtain ⟨z4, hc4, b4⟩ := ct_273_B6 (d := d + 0) (l := l) (D := D) (b0 := b0) (ad := ad) (Hb := Hb) (tau := tau) hx hG (show (-63) ≤ x1 ∧ x1 ≤ 63 by omega) (show (-63) ≤ y3 ∧ y3 ≤ 63 by omega) (show ((x1 ≤ 0 → y3 < -x1 ∧ x1 < y3) ∧ (0 ≤ x1 → y3 < x1 ∧ -x1 < y3)) by omega)
      refine Jcs (show mx_Sn _ _ 14 (mx_calls 273 2 17) from sn_273 14) hc4 rfl rfl rfl ?_
      exact c17 z4 (by omega) (by omega)
    · skip
      refine mx_J.step (sn_273 6) (fun _ _ => rfl) ?_
      refine mx_J.step (sn_273 7) (fun _ _ => rfl) ?_
      exact c17 x0 (by omega) (by omega)
theorem ct_273_A6 {l : Launch} {D : va_G} {b0 : Nat} {ad : Nat → Nat} {Hb : Heap} {tau : Nat → Int64} {d n s : Nat} {S : Nat → xS} {Z : xZ} {h : mx_H} (hx : XH n s S Z h) (hG : GI n S Z)  {x0 x1 : Int} (p0 : (-9223372036854775808) ≤ x0 ∧ x0 ≤ 9223372036854775807) (p1 : (-63) ≤ x1 ∧ x1 ≤ 63) (k0 : ¬ (x0 = 0 ∧ x1 = 0)) : ∃ z : Int, mx_Ca (tB l D b0 ad Hb tau) (d + 13) 273 [xL x0, xL x1] h (some (xL z), h) ∧ ((-9223372036854775808) ≤ z ∧ z ≤ 9223372036854775807 ∧ ¬ z = 0) := by
  obtain ⟨r, hca, z, e, hp⟩ := Jmt (B := tB l D b0 ad Hb tau) (M := mt_273) (mi := 273) (as := [xL x0, xL x1]) (d := d + 12) (ls := [some (xL x0), none, some (xL x1), none]) rfl rfl rfl rfl rfl rfl (cw_273_A6 (l := l) (D := D) (b0 := b0) (ad := ad) (Hb := Hb) (tau := tau) (d := d) (Post := fun r => ∃ z : Int, r = (some (xL z), h) ∧ ((-9223372036854775808) ≤ z ∧ z ≤ 9223372036854775807 ∧ ¬ z = 0)) hx hG p0 p1 k0 (fun z hz => ⟨z, rfl, hz⟩))
  subst e; exact ⟨z, hca, hp⟩
set_option maxRecDepth 100000 in
theorem cw_273_B7 {l : Launch} {D : va_G} {b0 : Nat} {ad : Nat → Nat} {Hb : Heap} {tau : Nat → Int64} {d n s : Nat} {S : Nat → xS} {Z : xZ} {h : mx_H} {Post : mx_R → Prop} (hx : XH n s S Z h) (hG : GI n S Z)  {x0 x1 : Int} (p0 : (-127) ≤ x0 ∧ x0 ≤ 127) (p1 : (-127) ≤ x1 ∧ x1 ≤ 127) (k0 : ((x0 ≤ 0 → x1 < -x0 ∧ x0 < x1) ∧ (0 ≤ x0 → x1 < x0 ∧ -x0 < x1))) (hP : ∀ z : Int, (-9223372036854775808) ≤ z ∧ z ≤ 9223372036854775807 ∧ ¬ z = 0 → Post (some (xL z), h)) : mx_J (tB l D b0 ad Hb tau) mt_273 (d + 13) 0 [some (xL x0), none, some (xL x1), none] [] h Post := by
    refine mx_J.step (sn_273 0) (fun _ _ => rfl) ?_
    refine JcL (z := 0) (show mx_Sn _ _ 1 (mx_const (.long 0) 2) from sn_273 1) rfl ?_
    have c17 : ∀ (k1_0 : Int), (-9223372036854775808) ≤ k1_0 ∧ k1_0 ≤ 9223372036854775807 → ¬ k1_0 = 0 → mx_J (tB l D b0 ad Hb tau) mt_273 (d + 13) 17 [some (xL x0), none, some (xL x1), none] [xL k1_0] h Post := by
      intro k1_0 f1_0 f1_1
      exact mx_J.ret (sn_273 17) (fun _ _ => rfl) (hP k1_0 (by omega))
    refine Jlif_ne (show mx_Sn _ _ 2 (mx_lif_ne 10 6) from sn_273 2) (by omega) (by omega) (fun q2 => ?_) (fun q2 => ?_)
    · skip
      refine mx_J.step (sn_273 10) (fun _ _ => rfl) ?_
      refine mx_J.step (sn_273 11) (fun _ _ => rfl) ?_
      refine mx_J.step (sn_273 12) (fun _ _ => rfl) ?_
      refine JlremB (show mx_Sn _ _ 13 (mx_lrem 14) from sn_273 13) (by omega) (by omega) (by omega) k0 (fun y3 hy3 => ?_)
      obtain ⟨z4, hc4, b4⟩ := ct_273_A6 (d := d + 0) (l := l) (D := D) (b0 := b0) (ad := ad) (Hb := Hb) (tau := tau) hx hG (show (-9223372036854775808) ≤ x1 ∧ x1 ≤ 9223372036854775807 by omega) (show (-63) ≤ y3 ∧ y3 ≤ 63 by omega) (show ¬ (x1 = 0 ∧ y3 = 0) by omega)
      refine Jcs (show mx_Sn _ _ 14 (mx_calls 273 2 17) from sn_273 14) hc4 rfl rfl rfl ?_
      exact c17 z4 (by omega) (by omega)
    · skip
      refine mx_J.step (sn_273 6) (fun _ _ => rfl) ?_
      refine mx_J.step (sn_273 7) (fun _ _ => rfl) ?_
      exact c17 x0 (by omega) (by omega)
theorem ct_273_B7 {l : Launch} {D : va_G} {b0 : Nat} {ad : Nat → Nat} {Hb : Heap} {tau : Nat → Int64} {d n s : Nat} {S : Nat → xS} {Z : xZ} {h : mx_H} (hx : XH n s S Z h) (hG : GI n S Z)  {x0 x1 : Int} (p0 : (-127) ≤ x0 ∧ x0 ≤ 127) (p1 : (-127) ≤ x1 ∧ x1 ≤ 127) (k0 : ((x0 ≤ 0 → x1 < -x0 ∧ x0 < x1) ∧ (0 ≤ x0 → x1 < x0 ∧ -x0 < x1))) : ∃ z : Int, mx_Ca (tB l D b0 ad Hb tau) (d + 14) 273 [xL x0, xL x1] h (some (xL z), h) ∧ ((-9223372036854775808) ≤ z ∧ z ≤ 9223372036854775807 ∧ ¬ z = 0) := by
  obtain ⟨r, hca, z, e, hp⟩ := Jmt (B := tB l D b0 ad Hb tau) (M := mt_273) (mi := 273) (as := [xL x0, xL x1]) (d := d + 13) (ls := [some (xL x0), none, some (xL x1), none]) rfl rfl rfl rfl rfl rfl (cw_273_B7 (l := l) (D := D) (b0 := b0) (ad := ad) (Hb := Hb) (tau := tau) (d := d) (Post := fun r => ∃ z : Int, r = (some (xL z), h) ∧ ((-9223372036854775808) ≤ z ∧ z ≤ 9223372036854775807 ∧ ¬ z = 0)) hx hG p0 p1 k0 (fun z hz => ⟨z, rfl, hz⟩))
  subst e; exact ⟨z, hca, hp⟩
set_option maxRecDepth 100000 in
theorem cw_273_A7 {l : Launch} {D : va_G} {b0 : Nat} {ad : Nat → Nat} {Hb : Heap} {tau : Nat → Int64} {d n s : Nat} {S : Nat → xS} {Z : xZ} {h : mx_H} {Post : mx_R → Prop} (hx : XH n s S Z h) (hG : GI n S Z)  {x0 x1 : Int} (p0 : (-9223372036854775808) ≤ x0 ∧ x0 ≤ 9223372036854775807) (p1 : (-127) ≤ x1 ∧ x1 ≤ 127) (k0 : ¬ (x0 = 0 ∧ x1 = 0)) (hP : ∀ z : Int, (-9223372036854775808) ≤ z ∧ z ≤ 9223372036854775807 ∧ ¬ z = 0 → Post (some (xL z), h)) : mx_J (tB l D b0 ad Hb tau) mt_273 (d + 14) 0 [some (xL x0), none, some (xL x1), none] [] h Post := by
    refine mx_J.step (sn_273 0) (fun _ _ => rfl) ?_
    refine JcL (z := 0) (show mx_Sn _ _ 1 (mx_const (.long 0) 2) from sn_273 1) rfl ?_
    have c17 : ∀ (k1_0 : Int), (-9223372036854775808) ≤ k1_0 ∧ k1_0 ≤ 9223372036854775807 → ¬ k1_0 = 0 → mx_J (tB l D b0 ad Hb tau) mt_273 (d + 14) 17 [some (xL x0), none, some (xL x1), none] [xL k1_0] h Post := by
      intro k1_0 f1_0 f1_1
      exact mx_J.ret (sn_273 17) (fun _ _ => rfl) (hP k1_0 (by omega))
    refine Jlif_ne (show mx_Sn _ _ 2 (mx_lif_ne 10 6) from sn_273 2) (by omega) (by omega) (fun q2 => ?_) (fun q2 => ?_)
    · skip
      refine mx_J.step (sn_273 10) (fun _ _ => rfl) ?_
      refine mx_J.step (sn_273 11) (fun _ _ => rfl) ?_
      refine mx_J.step (sn_273 12) (fun _ _ => rfl) ?_
      refine JlremA (show mx_Sn _ _ 13 (mx_lrem 14) from sn_273 13) (by omega) (by omega) (by omega) (fun y3 hy3 => ?_)
      obtain ⟨z4, hc4, b4⟩ := ct_273_B7 (d := d + 0) (l := l) (D := D) (b0 := b0) (ad := ad) (Hb := Hb) (tau := tau) hx hG (show (-127) ≤ x1 ∧ x1 ≤ 127 by omega) (show (-127) ≤ y3 ∧ y3 ≤ 127 by omega) (show ((x1 ≤ 0 → y3 < -x1 ∧ x1 < y3) ∧ (0 ≤ x1 → y3 < x1 ∧ -x1 < y3)) by omega)
      refine Jcs (show mx_Sn _ _ 14 (mx_calls 273 2 17) from sn_273 14) hc4 rfl rfl rfl ?_
      exact c17 z4 (by omega) (by omega)
    · skip
      refine mx_J.step (sn_273 6) (fun _ _ => rfl) ?_
      refine mx_J.step (sn_273 7) (fun _ _ => rfl) ?_
      exact c17 x0 (by omega) (by omega)
theorem ct_273_A7 {l : Launch} {D : va_G} {b0 : Nat} {ad : Nat → Nat} {Hb : Heap} {tau : Nat → Int64} {d n s : Nat} {S : Nat → xS} {Z : xZ} {h : mx_H} (hx : XH n s S Z h) (hG : GI n S Z)  {x0 x1 : Int} (p0 : (-9223372036854775808) ≤ x0 ∧ x0 ≤ 9223372036854775807) (p1 : (-127) ≤ x1 ∧ x1 ≤ 127) (k0 : ¬ (x0 = 0 ∧ x1 = 0)) : ∃ z : Int, mx_Ca (tB l D b0 ad Hb tau) (d + 15) 273 [xL x0, xL x1] h (some (xL z), h) ∧ ((-9223372036854775808) ≤ z ∧ z ≤ 9223372036854775807 ∧ ¬ z = 0) := by
  obtain ⟨r, hca, z, e, hp⟩ := Jmt (B := tB l D b0 ad Hb tau) (M := mt_273) (mi := 273) (as := [xL x0, xL x1]) (d := d + 14) (ls := [some (xL x0), none, some (xL x1), none]) rfl rfl rfl rfl rfl rfl (cw_273_A7 (l := l) (D := D) (b0 := b0) (ad := ad) (Hb := Hb) (tau := tau) (d := d) (Post := fun r => ∃ z : Int, r = (some (xL z), h) ∧ ((-9223372036854775808) ≤ z ∧ z ≤ 9223372036854775807 ∧ ¬ z = 0)) hx hG p0 p1 k0 (fun z hz => ⟨z, rfl, hz⟩))
  subst e; exact ⟨z, hca, hp⟩
set_option maxRecDepth 100000 in
theorem cw_273_B8 {l : Launch} {D : va_G} {b0 : Nat} {ad : Nat → Nat} {Hb : Heap} {tau : Nat → Int64} {d n s : Nat} {S : Nat → xS} {Z : xZ} {h : mx_H} {Post : mx_R → Prop} (hx : XH n s S Z h) (hG : GI n S Z)  {x0 x1 : Int} (p0 : (-255) ≤ x0 ∧ x0 ≤ 255) (p1 : (-255) ≤ x1 ∧ x1 ≤ 255) (k0 : ((x0 ≤ 0 → x1 < -x0 ∧ x0 < x1) ∧ (0 ≤ x0 → x1 < x0 ∧ -x0 < x1))) (hP : ∀ z : Int, (-9223372036854775808) ≤ z ∧ z ≤ 9223372036854775807 ∧ ¬ z = 0 → Post (some (xL z), h)) : mx_J (tB l D b0 ad Hb tau) mt_273 (d + 15) 0 [some (xL x0), none, some (xL x1), none] [] h Post := by
    refine mx_J.step (sn_273 0) (fun _ _ => rfl) ?_
    refine JcL (z := 0) (show mx_Sn _ _ 1 (mx_const (.long 0) 2) from sn_273 1) rfl ?_
    have c17 : ∀ (k1_0 : Int), (-9223372036854775808) ≤ k1_0 ∧ k1_0 ≤ 9223372036854775807 → ¬ k1_0 = 0 → mx_J (tB l D b0 ad Hb tau) mt_273 (d + 15) 17 [some (xL x0), none, some (xL x1), none] [xL k1_0] h Post := by
      intro k1_0 f1_0 f1_1
      exact mx_J.ret (sn_273 17) (fun _ _ => rfl) (hP k1_0 (by omega))
    refine Jlif_ne (show mx_Sn _ _ 2 (mx_lif_ne 10 6) from sn_273 2) (by omega) (by omega) (fun q2 => ?_) (fun q2 => ?_)
    · skip
      refine mx_J.step (sn_273 10) (fun _ _ => rfl) ?_
      refine mx_J.step (sn_273 11) (fun _ _ => rfl) ?_
      refine mx_J.step (sn_273 12) (fun _ _ => rfl) ?_
      refine JlremB (show mx_Sn _ _ 13 (mx_lrem 14) from sn_273 13) (by omega) (by omega) (by omega) k0 (fun y3 hy3 => ?_)
      obtain ⟨z4, hc4, b4⟩ := ct_273_A7 (d := d + 0) (l := l) (D := D) (b0 := b0) (ad := ad) (Hb := Hb) (tau := tau) hx hG (show (-9223372036854775808) ≤ x1 ∧ x1 ≤ 9223372036854775807 by omega) (show (-127) ≤ y3 ∧ y3 ≤ 127 by omega) (show ¬ (x1 = 0 ∧ y3 = 0) by omega)
      refine Jcs (show mx_Sn _ _ 14 (mx_calls 273 2 17) from sn_273 14) hc4 rfl rfl rfl ?_
      exact c17 z4 (by omega) (by omega)
    · skip
      refine mx_J.step (sn_273 6) (fun _ _ => rfl) ?_
      refine mx_J.step (sn_273 7) (fun _ _ => rfl) ?_
      exact c17 x0 (by omega) (by omega)
theorem ct_273_B8 {l : Launch} {D : va_G} {b0 : Nat} {ad : Nat → Nat} {Hb : Heap} {tau : Nat → Int64} {d n s : Nat} {S : Nat → xS} {Z : xZ} {h : mx_H} (hx : XH n s S Z h) (hG : GI n S Z)  {x0 x1 : Int} (p0 : (-255) ≤ x0 ∧ x0 ≤ 255) (p1 : (-255) ≤ x1 ∧ x1 ≤ 255) (k0 : ((x0 ≤ 0 → x1 < -x0 ∧ x0 < x1) ∧ (0 ≤ x0 → x1 < x0 ∧ -x0 < x1))) : ∃ z : Int, mx_Ca (tB l D b0 ad Hb tau) (d + 16) 273 [xL x0, xL x1] h (some (xL z), h) ∧ ((-9223372036854775808) ≤ z ∧ z ≤ 9223372036854775807 ∧ ¬ z = 0) := by
  obtain ⟨r, hca, z, e, hp⟩ := Jmt (B := tB l D b0 ad Hb tau) (M := mt_273) (mi := 273) (as := [xL x0, xL x1]) (d := d + 15) (ls := [some (xL x0), none, some (xL x1), none]) rfl rfl rfl rfl rfl rfl (cw_273_B8 (l := l) (D := D) (b0 := b0) (ad := ad) (Hb := Hb) (tau := tau) (d := d) (Post := fun r => ∃ z : Int, r = (some (xL z), h) ∧ ((-9223372036854775808) ≤ z ∧ z ≤ 9223372036854775807 ∧ ¬ z = 0)) hx hG p0 p1 k0 (fun z hz => ⟨z, rfl, hz⟩))
  subst e; exact ⟨z, hca, hp⟩
set_option maxRecDepth 100000 in
theorem cw_273_A8 {l : Launch} {D : va_G} {b0 : Nat} {ad : Nat → Nat} {Hb : Heap} {tau : Nat → Int64} {d n s : Nat} {S : Nat → xS} {Z : xZ} {h : mx_H} {Post : mx_R → Prop} (hx : XH n s S Z h) (hG : GI n S Z)  {x0 x1 : Int} (p0 : (-9223372036854775808) ≤ x0 ∧ x0 ≤ 9223372036854775807) (p1 : (-255) ≤ x1 ∧ x1 ≤ 255) (k0 : ¬ (x0 = 0 ∧ x1 = 0)) (hP : ∀ z : Int, (-9223372036854775808) ≤ z ∧ z ≤ 9223372036854775807 ∧ ¬ z = 0 → Post (some (xL z), h)) : mx_J (tB l D b0 ad Hb tau) mt_273 (d + 16) 0 [some (xL x0), none, some (xL x1), none] [] h Post := by
    refine mx_J.step (sn_273 0) (fun _ _ => rfl) ?_
    refine JcL (z := 0) (show mx_Sn _ _ 1 (mx_const (.long 0) 2) from sn_273 1) rfl ?_
    have c17 : ∀ (k1_0 : Int), (-9223372036854775808) ≤ k1_0 ∧ k1_0 ≤ 9223372036854775807 → ¬ k1_0 = 0 → mx_J (tB l D b0 ad Hb tau) mt_273 (d + 16) 17 [some (xL x0), none, some (xL x1), none] [xL k1_0] h Post := by
      intro k1_0 f1_0 f1_1
      exact mx_J.ret (sn_273 17) (fun _ _ => rfl) (hP k1_0 (by omega))
    refine Jlif_ne (show mx_Sn _ _ 2 (mx_lif_ne 10 6) from sn_273 2) (by omega) (by omega) (fun q2 => ?_) (fun q2 => ?_)
    · skip
      refine mx_J.step (sn_273 10) (fun _ _ => rfl) ?_
      refine mx_J.step (sn_273 11) (fun _ _ => rfl) ?_
      refine mx_J.step (sn_273 12) (fun _ _ => rfl) ?_
      refine JlremA (show mx_Sn _ _ 13 (mx_lrem 14) from sn_273 13) (by omega) (by omega) (by omega) (fun y3 hy3 => ?_)
      obtain ⟨z4, hc4, b4⟩ := ct_273_B8 (d := d + 0) (l := l) (D := D) (b0 := b0) (ad := ad) (Hb := Hb) (tau := tau) hx hG (show (-255) ≤ x1 ∧ x1 ≤ 255 by omega) (show (-255) ≤ y3 ∧ y3 ≤ 255 by omega) (show ((x1 ≤ 0 → y3 < -x1 ∧ x1 < y3) ∧ (0 ≤ x1 → y3 < x1 ∧ -x1 < y3)) by omega)
      refine Jcs (show mx_Sn _ _ 14 (mx_calls 273 2 17) from sn_273 14) hc4 rfl rfl rfl ?_
      exact c17 z4 (by omega) (by omega)
    · skip
      refine mx_J.step (sn_273 6) (fun _ _ => rfl) ?_
      refine mx_J.step (sn_273 7) (fun _ _ => rfl) ?_
      exact c17 x0 (by omega) (by omega)
theorem ct_273_A8 {l : Launch} {D : va_G} {b0 : Nat} {ad : Nat → Nat} {Hb : Heap} {tau : Nat → Int64} {d n s : Nat} {S : Nat → xS} {Z : xZ} {h : mx_H} (hx : XH n s S Z h) (hG : GI n S Z)  {x0 x1 : Int} (p0 : (-9223372036854775808) ≤ x0 ∧ x0 ≤ 9223372036854775807) (p1 : (-255) ≤ x1 ∧ x1 ≤ 255) (k0 : ¬ (x0 = 0 ∧ x1 = 0)) : ∃ z : Int, mx_Ca (tB l D b0 ad Hb tau) (d + 17) 273 [xL x0, xL x1] h (some (xL z), h) ∧ ((-9223372036854775808) ≤ z ∧ z ≤ 9223372036854775807 ∧ ¬ z = 0) := by
  obtain ⟨r, hca, z, e, hp⟩ := Jmt (B := tB l D b0 ad Hb tau) (M := mt_273) (mi := 273) (as := [xL x0, xL x1]) (d := d + 16) (ls := [some (xL x0), none, some (xL x1), none]) rfl rfl rfl rfl rfl rfl (cw_273_A8 (l := l) (D := D) (b0 := b0) (ad := ad) (Hb := Hb) (tau := tau) (d := d) (Post := fun r => ∃ z : Int, r = (some (xL z), h) ∧ ((-9223372036854775808) ≤ z ∧ z ≤ 9223372036854775807 ∧ ¬ z = 0)) hx hG p0 p1 k0 (fun z hz => ⟨z, rfl, hz⟩))
  subst e; exact ⟨z, hca, hp⟩
set_option maxRecDepth 100000 in
theorem cw_273_B9 {l : Launch} {D : va_G} {b0 : Nat} {ad : Nat → Nat} {Hb : Heap} {tau : Nat → Int64} {d n s : Nat} {S : Nat → xS} {Z : xZ} {h : mx_H} {Post : mx_R → Prop} (hx : XH n s S Z h) (hG : GI n S Z)  {x0 x1 : Int} (p0 : (-511) ≤ x0 ∧ x0 ≤ 511) (p1 : (-511) ≤ x1 ∧ x1 ≤ 511) (k0 : ((x0 ≤ 0 → x1 < -x0 ∧ x0 < x1) ∧ (0 ≤ x0 → x1 < x0 ∧ -x0 < x1))) (hP : ∀ z : Int, (-9223372036854775808) ≤ z ∧ z ≤ 9223372036854775807 ∧ ¬ z = 0 → Post (some (xL z), h)) : mx_J (tB l D b0 ad Hb tau) mt_273 (d + 17) 0 [some (xL x0), none, some (xL x1), none] [] h Post := by
    refine mx_J.step (sn_273 0) (fun _ _ => rfl) ?_
    refine JcL (z := 0) (show mx_Sn _ _ 1 (mx_const (.long 0) 2) from sn_273 1) rfl ?_
    have c17 : ∀ (k1_0 : Int), (-9223372036854775808) ≤ k1_0 ∧ k1_0 ≤ 9223372036854775807 → ¬ k1_0 = 0 → mx_J (tB l D b0 ad Hb tau) mt_273 (d + 17) 17 [some (xL x0), none, some (xL x1), none] [xL k1_0] h Post := by
      intro k1_0 f1_0 f1_1
      exact mx_J.ret (sn_273 17) (fun _ _ => rfl) (hP k1_0 (by omega))
    refine Jlif_ne (show mx_Sn _ _ 2 (mx_lif_ne 10 6) from sn_273 2) (by omega) (by omega) (fun q2 => ?_) (fun q2 => ?_)
    · skip
      refine mx_J.step (sn_273 10) (fun _ _ => rfl) ?_
      refine mx_J.step (sn_273 11) (fun _ _ => rfl) ?_
      refine mx_J.step (sn_273 12) (fun _ _ => rfl) ?_
      refine JlremB (show mx_Sn _ _ 13 (mx_lrem 14) from sn_273 13) (by omega) (by omega) (by omega) k0 (fun y3 hy3 => ?_)
      obtain ⟨z4, hc4, b4⟩ := ct_273_A8 (d := d + 0) (l := l) (D := D) (b0 := b0) (ad := ad) (Hb := Hb) (tau := tau) hx hG (show (-9223372036854775808) ≤ x1 ∧ x1 ≤ 9223372036854775807 by omega) (show (-255) ≤ y3 ∧ y3 ≤ 255 by omega) (show ¬ (x1 = 0 ∧ y3 = 0) by omega)
      refine Jcs (show mx_Sn _ _ 14 (mx_calls 273 2 17) from sn_273 14) hc4 rfl rfl rfl ?_
      exact c17 z4 (by omega) (by omega)
    · skip
      refine mx_J.step (sn_273 6) (fun _ _ => rfl) ?_
      refine mx_J.step (sn_273 7) (fun _ _ => rfl) ?_
      exact c17 x0 (by omega) (by omega)
theorem ct_273_B9 {l : Launch} {D : va_G} {b0 : Nat} {ad : Nat → Nat} {Hb : Heap} {tau : Nat → Int64} {d n s : Nat} {S : Nat → xS} {Z : xZ} {h : mx_H} (hx : XH n s S Z h) (hG : GI n S Z)  {x0 x1 : Int} (p0 : (-511) ≤ x0 ∧ x0 ≤ 511) (p1 : (-511) ≤ x1 ∧ x1 ≤ 511) (k0 : ((x0 ≤ 0 → x1 < -x0 ∧ x0 < x1) ∧ (0 ≤ x0 → x1 < x0 ∧ -x0 < x1))) : ∃ z : Int, mx_Ca (tB l D b0 ad Hb tau) (d + 18) 273 [xL x0, xL x1] h (some (xL z), h) ∧ ((-9223372036854775808) ≤ z ∧ z ≤ 9223372036854775807 ∧ ¬ z = 0) := by
  obtain ⟨r, hca, z, e, hp⟩ := Jmt (B := tB l D b0 ad Hb tau) (M := mt_273) (mi := 273) (as := [xL x0, xL x1]) (d := d + 17) (ls := [some (xL x0), none, some (xL x1), none]) rfl rfl rfl rfl rfl rfl (cw_273_B9 (l := l) (D := D) (b0 := b0) (ad := ad) (Hb := Hb) (tau := tau) (d := d) (Post := fun r => ∃ z : Int, r = (some (xL z), h) ∧ ((-9223372036854775808) ≤ z ∧ z ≤ 9223372036854775807 ∧ ¬ z = 0)) hx hG p0 p1 k0 (fun z hz => ⟨z, rfl, hz⟩))
  subst e; exact ⟨z, hca, hp⟩
