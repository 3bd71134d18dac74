set_option maxRecDepth 100000 in
theorem cw_231_56 {l : Launch} {D : va_G} {b0 : Nat} {ad : Nat → Nat} {Hb : Heap} {tau : Nat → Int64} {d n s : Nat} {S : Nat → xS} {Z : xZ} {h : mx_H} {Post : mx_R → Prop} (hx : XH n s S Z h) (hG : GI n S Z)   (hP : ∀ (z : Int) (Z' : xZ) (h' : mx_H), XH n s S Z' h' → GI n S Z' → fr' [(71, (-1))] Z Z' → (-2147483648) ≤ z ∧ z ≤ 2147483647 → Post (some (xI z), h')) : mx_J (tB l D b0 ad Hb tau) mt_231 (d + 0) 0 [some (.ref 56), none, none] [] h Post := by
    have a56 : 56 < n := lt83 (GI_n hG) rfl
    have s56 : S 56 = .inl (12, [0, 2, 2, 2, 2, 0, 0, 0, 0, 0, 0, 0, 0, 0, 0, 2, 2, 2, 0, 2, 2, 2, 0, 0, 2, 2, 2, 2, 2, 2, 0, 0, 2, 2, 2, 2, 2, 2, 2, 2, 2, 2]) := GI_s hG 56 rfl
    have a67 : 67 < n := lt83 (GI_n hG) rfl
    have s67 : S 67 = .inr (.int, 385, 0) := GI_s hG 67 rfl
    have a71 : 71 < n := lt83 (GI_n hG) rfl
    have s71 : S 71 = .inr (.boolean, 385, 0) := GI_s hG 71 rfl
    refine JcI (z := 0) (show mx_Sn _ _ 0 (mx_const (.int 0) 1) from sn_231 0) rfl ?_
    refine mx_J.step (ls2 := [some (.ref 56), some (xI 0), none]) (sn_231 1) (fun _ _ => rfl) ?_
    have c2 : ∀ (m1 : Nat) (w1_1 : Int) (Z2 : xZ) (h2 : mx_H), 385 - w1_1 < (m1 : Int) → 0 ≤ w1_1 ∧ w1_1 ≤ 385 → XH n s S Z2 h2 → GI n S Z2 → fr' [(71, (-1))] Z Z2 → mx_J (tB l D b0 ad Hb tau) mt_231 (d + 0) 2 [some (.ref 56), some (xI w1_1), none] [] h2 Post := by
      intro m1
      induction m1 with
      | zero => intro w1_1 Z2 h2 q1 f1_0 hx2 hG2 hf2; exact absurd q1 (by omega)
      | succ m1 ih1 =>
        intro w1_1 Z2 h2 q1 f1_0 hx2 hG2 hf2
        refine mx_J.step (sn_231 2) (fun _ _ => rfl) ?_
        refine mx_J.step (sn_231 3) (fun _ _ => rfl) ?_
        have b4 : 0 ≤ Z 56 18 ∧ Z 56 18 ≤ 385 := hG.pr 56 18
        refine JgetI (g := 18) (z := Z 56 18) hx2 (show mx_Sn _ _ 4 (mx_getf 12 18 7) from sn_231 4) a56 s56 rfl rfl (hf2 56 18 rfl) ?_
        refine Jicmp_ge (show mx_Sn _ _ 7 (mx_icmp_ge 23 10) from sn_231 7) (by omega) (by omega) (fun q5 => ?_) (fun q5 => ?_)
        · skip
          refine JcI (z := 0) (show mx_Sn _ _ 23 (mx_const (.int 0) 24) from sn_231 23) rfl ?_
          refine mx_J.step (ls2 := [some (.ref 56), some (xI 0), none]) (sn_231 24) (fun _ _ => rfl) ?_
          have c25 : ∀ (m6 : Nat) (w6_1 : Int) (Z7 : xZ) (h7 : mx_H), 385 - w6_1 < (m6 : Int) → 0 ≤ w6_1 ∧ w6_1 ≤ 385 → XH n s S Z7 h7 → GI n S Z7 → fr' [(71, (-1))] Z2 Z7 → mx_J (tB l D b0 ad Hb tau) mt_231 (d + 0) 25 [some (.ref 56), some (xI w6_1), none] [] h7 Post := by
            intro m6
            induction m6 with
            | zero => intro w6_1 Z7 h7 q6 f6_0 hx7 hG7 hf7; exact absurd q6 (by omega)
            | succ m6 ih6 =>
              intro w6_1 Z7 h7 q6 f6_0 hx7 hG7 hf7
              refine mx_J.step (sn_231 25) (fun _ _ => rfl) ?_
              refine mx_J.step (sn_231 26) (fun _ _ => rfl) ?_
              refine JgetI (g := 18) (z := Z 56 18) hx7 (show mx_Sn _ _ 27 (mx_getf 12 18 30) from sn_231 27) a56 s56 rfl rfl ((hf7 56 18 rfl).trans (hf2 56 18 rfl)) ?_
              refine Jicmp_ge (show mx_Sn _ _ 30 (mx_icmp_ge 51 33) from sn_231 30) (by omega) (by omega) (fun q9 => ?_) (fun q9 => ?_)
              · skip
                refine JcI (z := 0) (show mx_Sn _ _ 51 (mx_const (.int 0) 52) from sn_231 51) rfl ?_
                refine mx_J.step (ls2 := [some (.ref 56), some (xI 0), none]) (sn_231 52) (fun _ _ => rfl) ?_
                refine JcI (z := 0) (show mx_Sn _ _ 53 (mx_const (.int 0) 54) from sn_231 53) rfl ?_
                refine mx_J.step (ls2 := [some (.ref 56), some (xI 0), some (xI 0)]) (sn_231 54) (fun _ _ => rfl) ?_
                have c55 : ∀ (m10 : Nat) (w10_1 : Int) (w10_2 : Int), 385 - w10_2 < (m10 : Int) → (-2147483648) ≤ w10_1 ∧ w10_1 ≤ 2147483647 → 0 ≤ w10_2 ∧ w10_2 ≤ 385 → mx_J (tB l D b0 ad Hb tau) mt_231 (d + 0) 55 [some (.ref 56), some (xI w10_1), some (xI w10_2)] [] h7 Post := by
                  intro m10
                  induction m10 with
                  | zero => intro w10_1 w10_2 q10 f10_0 f10_1; exact absurd q10 (by omega)
                  | succ m10 ih10 =>
                    intro w10_1 w10_2 q10 f10_0 f10_1
                    refine mx_J.step (sn_231 55) (fun _ _ => rfl) ?_
                    refine mx_J.step (sn_231 56) (fun _ _ => rfl) ?_
                    refine JgetI (g := 18) (z := Z 56 18) hx7 (show mx_Sn _ _ 57 (mx_getf 12 18 60) from sn_231 57) a56 s56 rfl rfl ((hf7 56 18 rfl).trans (hf2 56 18 rfl)) ?_
                    refine Jicmp_ge (show mx_Sn _ _ 60 (mx_icmp_ge 86 63) from sn_231 60) (by omega) (by omega) (fun q12 => ?_) (fun q12 => ?_)
                    · skip
                      refine mx_J.step (sn_231 86) (fun _ _ => rfl) ?_
                      exact mx_J.ret (sn_231 87) (fun _ _ => rfl) (hP w10_1 Z7 h7 hx7 hG7 (fr_tr (M := [(71, (-1))]) (fr_tr (M := [(71, (-1))]) fr_rf (hf2) (M1 := []) rfl rfl) (hf7) rfl rfl) (by omega))
                    · skip
                      refine mx_J.step (sn_231 63) (fun _ _ => rfl) ?_
                      refine mx_J.step (sn_231 64) (fun _ _ => rfl) ?_
                      refine JgetR (g := 28) (b := 71) hx7 (show mx_Sn _ _ 65 (mx_getf 12 28 68) from sn_231 65) a56 s56 rfl rfl (hG7.prr 56 28 rfl) ?_
                      refine mx_J.step (sn_231 68) (fun _ _ => rfl) ?_
                      have b14 : 0 ≤ Z7 71 w10_2 ∧ Z7 71 w10_2 ≤ 1 := hG7.pr 71 w10_2
                      refine JzaldI (z := Z7 71 w10_2) hx7 (show mx_Sn _ _ 69 (mx_zald 70) from sn_231 69) a71 s71 (by omega) rfl ?_
                      have c78 : ∀ (k15_1 : Int), 0 ≤ k15_1 ∧ k15_1 ≤ 1 → mx_J (tB l D b0 ad Hb tau) mt_231 (d + 0) 78 [some (.ref 56), some (xI w10_1), some (xI w10_2)] [xI k15_1, xI w10_1] h7 Post := by
                        intro k15_1 f15_0
                        refine JiaddN (show mx_Sn _ _ 78 (mx_iadd 79) from sn_231 78) (fun y16 hy16 hq16 => ?_)
                        refine mx_J.step (ls2 := [some (.ref 56), some (xI y16), some (xI w10_2)]) (sn_231 79) (fun _ _ => rfl) ?_
                        refine Jiinc (z := w10_2) (cz := 1) (ls2 := [some (.ref 56), some (xI y16), some (xI (w10_2 + 1))]) (show mx_Sn _ _ 80 (mx_iinc 2 1 83) from sn_231 80) rfl rfl rfl rfl ?_
                        refine mx_J.step (sn_231 83) (fun _ _ => rfl) ?_
                        exact ih10 y16 (w10_2 + 1) (by omega) (by omega) (by omega)
                      refine Jif_eq (show mx_Sn _ _ 70 (mx_if_eq 77 73) from sn_231 70) (by omega) (fun q17 => ?_) (fun q17 => ?_)
                      · skip
                        refine JcI (z := 1) (show mx_Sn _ _ 77 (mx_const (.int 1) 78) from sn_231 77) rfl ?_
                        exact c78 1 (by omega)
                      · skip
                        refine JcI (z := 0) (show mx_Sn _ _ 73 (mx_const (.int 0) 74) from sn_231 73) rfl ?_
                        refine mx_J.step (sn_231 74) (fun _ _ => rfl) ?_
                        exact c78 0 (by omega)
                exact c55 (Int.toNat (385 - 0) + 1) 0 0 (by omega) (by omega) (by omega)
              · skip
                refine mx_J.step (sn_231 33) (fun _ _ => rfl) ?_
                refine JgetR (g := 28) (b := 71) hx7 (show mx_Sn _ _ 34 (mx_getf 12 28 37) from sn_231 34) a56 s56 rfl rfl (hG7.prr 56 28 rfl) ?_
                refine mx_J.step (sn_231 37) (fun _ _ => rfl) ?_
                refine JgetR (g := 24) (b := 67) hx7 (show mx_Sn _ _ 38 (mx_getf 12 24 41) from sn_231 38) a56 s56 rfl rfl (hG7.prr 56 24 rfl) ?_
                refine mx_J.step (sn_231 41) (fun _ _ => rfl) ?_
                have b20 : 0 ≤ Z 67 w6_1 ∧ Z 67 w6_1 ≤ 384 := hG.pr 67 w6_1
                refine JialdI (z := Z 67 w6_1) hx7 (show mx_Sn _ _ 42 (mx_iald 43) from sn_231 42) a67 s67 (by omega) ((hf7 67 w6_1 rfl).trans (hf2 67 w6_1 rfl)) ?_
                refine JcI (z := 1) (show mx_Sn _ _ 43 (mx_const (.int 1) 44) from sn_231 43) rfl ?_
                refine JzastI hx7 (show mx_Sn _ _ 44 (mx_zast 1 45) from sn_231 44) a71 s71 rfl (by omega) (by omega) (fun Z21 h21 hx21 hE21 => ?_)
                have hG21 := GI_up hG7 hE21 (show 0 ≤ 1 ∧ 1 ≤ 1 by omega) trivial rfl
                refine Jiinc (z := w6_1) (cz := 1) (ls2 := [some (.ref 56), some (xI (w6_1 + 1)), none]) (show mx_Sn _ _ 45 (mx_iinc 1 1 48) from sn_231 45) rfl rfl rfl rfl ?_
                refine mx_J.step (sn_231 48) (fun _ _ => rfl) ?_
                exact ih6 (w6_1 + 1) Z21 h21 (by omega) (by omega) hx21 hG21 (fr_tr (M := [(71, (-1))]) (fr_tr (M := [(71, (-1))]) fr_rf (hf7) (M1 := []) rfl rfl) (fr_ua hE21) rfl rfl)
          exact c25 (Int.toNat (385 - 0) + 1) 0 Z2 h2 (by omega) (by omega) hx2 hG2 fr_rf
        · skip
          refine mx_J.step (sn_231 10) (fun _ _ => rfl) ?_
          refine JgetR (g := 28) (b := 71) hx2 (show mx_Sn _ _ 11 (mx_getf 12 28 14) from sn_231 11) a56 s56 rfl rfl (hG2.prr 56 28 rfl) ?_
          refine mx_J.step (sn_231 14) (fun _ _ => rfl) ?_
          refine JcI (z := 0) (show mx_Sn _ _ 15 (mx_const (.int 0) 16) from sn_231 15) rfl ?_
          refine JzastI hx2 (show mx_Sn _ _ 16 (mx_zast 1 17) from sn_231 16) a71 s71 rfl (by omega) (by omega) (fun Z23 h23 hx23 hE23 => ?_)
          have hG23 := GI_up hG2 hE23 (show 0 ≤ 0 ∧ 0 ≤ 1 by omega) trivial rfl
          refine Jiinc (z := w1_1) (cz := 1) (ls2 := [some (.ref 56), some (xI (w1_1 + 1)), none]) (show mx_Sn _ _ 17 (mx_iinc 1 1 20) from sn_231 17) rfl rfl rfl rfl ?_
          refine mx_J.step (sn_231 20) (fun _ _ => rfl) ?_
          exact ih1 (w1_1 + 1) Z23 h23 (by omega) (by omega) hx23 hG23 (fr_tr (M := [(71, (-1))]) (fr_tr (M := [(71, (-1))]) fr_rf (hf2) (M1 := []) rfl rfl) (fr_ua hE23) rfl rfl)
    exact c2 (Int.toNat (385 - 0) + 1) 0 Z h (by omega) (by omega) hx hG fr_rf
theorem ct_231_56 {l : Launch} {D : va_G} {b0 : Nat} {ad : Nat → Nat} {Hb : Heap} {tau : Nat → Int64} {d n s : Nat} {S : Nat → xS} {Z : xZ} {h : mx_H} (hx : XH n s S Z h) (hG : GI n S Z)   : ∃ (z : Int) (Z' : xZ) (h' : mx_H), mx_Ca (tB l D b0 ad Hb tau) (d + 1) 231 [.ref 56] h (some (xI z), h') ∧ XH n s S Z' h' ∧ GI n S Z' ∧ fr' [(71, (-1))] Z Z' ∧ ((-2147483648) ≤ z ∧ z ≤ 2147483647) := by
  obtain ⟨r, hca, z, Z', h', e, q⟩ := Jmt (B := tB l D b0 ad Hb tau) (M := mt_231) (mi := 231) (as := [.ref 56]) (d := d + 0) (ls := [some (.ref 56), none, none]) rfl rfl rfl rfl rfl rfl (cw_231_56 (l := l) (D := D) (b0 := b0) (ad := ad) (Hb := Hb) (tau := tau) (d := d) (Post := fun r => ∃ (z : Int) (Z' : xZ) (h' : mx_H), r = (some (xI z), h') ∧ XH n s S Z' h' ∧ GI n S Z' ∧ fr' [(71, (-1))] Z Z' ∧ ((-2147483648) ≤ z ∧ z ≤ 2147483647)) hx hG  (fun z Z' h' q1 q2 q3 q4 => ⟨z, Z', h', rfl, q1, q2, q3, q4⟩))
  subst e; exact ⟨z, Z', h', hca, q⟩
set_option maxRecDepth 100000 in
theorem cw_232_56 {l : Launch} {D : va_G} {b0 : Nat} {ad : Nat → Nat} {Hb : Heap} {tau : Nat → Int64} {d n s : Nat} {S : Nat → xS} {Z : xZ} {h : mx_H} {Post : mx_R → Prop} (hx : XH n s S Z h) (hG : GI n S Z)  {x0 : Int} (p0 : 0 ≤ x0 ∧ x0 ≤ 384) (k0 : ai 67 Z (Z 56 18) 0 (Z 56 18 - 1) = 1) (k1 : x0 < Z 56 18) (hP : ∀ (z : Int) (Z' : xZ) (h' : mx_H), XH n s S Z' h' → GI n S Z' → fr' [(56, 30), (56, 31), (68, (-1)), (69, (-1))] Z Z' → 0 ≤ z ∧ z ≤ 384 → Post (some (xI z), h')) : mx_J (tB l D b0 ad Hb tau) mt_232 (d + 1) 0 [some (.ref 56), some (xI x0), none, none] [] h Post := by
    have a56 : 56 < n := lt83 (GI_n hG) rfl
    have s56 : S 56 = .inl (12, [0, 2, 2, 2, 2, 0, 0, 0, 0, 0, 0, 0, 0, 0, 0, 2, 2, 2, 0, 2, 2, 2, 0, 0, 2, 2, 2, 2, 2, 2, 0, 0, 2, 2, 2, 2, 2, 2, 2, 2, 2, 2]) := GI_s hG 56 rfl
    have a69 : 69 < n := lt83 (GI_n hG) rfl
    have s69 : S 69 = .inr (.int, 386, 0) := GI_s hG 69 rfl
    refine mx_J.step (sn_232 0) (fun _ _ => rfl) ?_
    refine mx_J.step (sn_232 1) (fun _ _ => rfl) ?_
    have b2 : 0 ≤ Z 56 18 ∧ Z 56 18 ≤ 385 := hG.pr 56 18
    obtain ⟨Z1, h1, hc1, hx1, hG1, hf1, b1⟩ := ct_227_56 (d := d + 0) (l := l) (D := D) (b0 := b0) (ad := ad) (Hb := Hb) (tau := tau) hx hG (show 0 ≤ x0 ∧ x0 ≤ 384 by omega) (show ai 67 Z (Z 56 18) 0 (Z 56 18 - 1) = 1 by omega) (show x0 < Z 56 18 by omega)
    have b3 : 0 ≤ Z1 56 30 ∧ Z1 56 30 ≤ 386 := hG1.pr 56 30
    have b4 : 0 ≤ Z1 56 31 ∧ Z1 56 31 ≤ 385 := hG1.pr 56 31
    refine Jcv0 hx (show mx_Sn _ _ 2 (mx_callv 227 2 12 5) from sn_232 2) a56 s56 hc1 rfl rfl rfl ?_
    refine mx_J.step (sn_232 5) (fun _ _ => rfl) ?_
    refine JgetR (g := 26) (b := 69) hx1 (show mx_Sn _ _ 6 (mx_getf 12 26 9) from sn_232 6) a56 s56 rfl rfl (hG1.prr 56 26 rfl) ?_
    refine mx_J.step (sn_232 9) (fun _ _ => rfl) ?_
    refine JgetI (g := 31) (z := Z1 56 31) hx1 (show mx_Sn _ _ 10 (mx_getf 12 31 13) from sn_232 10) a56 s56 rfl rfl rfl ?_
    have b7 : 0 ≤ Z1 69 (Z1 56 31) ∧ Z1 69 (Z1 56 31) ≤ 384 := hG1.pr 69 (Z1 56 31)
    refine JialdI (z := Z1 69 (Z1 56 31)) hx1 (show mx_Sn _ _ 13 (mx_iald 14) from sn_232 13) a69 s69 (by omega) rfl ?_
    refine mx_J.step (ls2 := [some (.ref 56), some (xI x0), some (xI (Z1 69 (Z1 56 31))), none]) (sn_232 14) (fun _ _ => rfl) ?_
    refine mx_J.step (sn_232 15) (fun _ _ => rfl) ?_
    refine JgetI (g := 31) (z := Z1 56 31) hx1 (show mx_Sn _ _ 16 (mx_getf 12 31 19) from sn_232 16) a56 s56 rfl rfl rfl ?_
    refine mx_J.step (ls2 := [some (.ref 56), some (xI x0), some (xI (Z1 69 (Z1 56 31))), some (xI (Z1 56 31))]) (sn_232 19) (fun _ _ => rfl) ?_
    have c20 : ∀ (m9 : Nat) (w9_2 : Int) (w9_3 : Int), 386 - w9_3 < (m9 : Int) → 0 ≤ w9_2 ∧ w9_2 ≤ 384 → 0 ≤ w9_3 ∧ w9_3 ≤ 386 → mx_J (tB l D b0 ad Hb tau) mt_232 (d + 1) 20 [some (.ref 56), some (xI x0), some (xI w9_2), some (xI w9_3)] [] h1 Post := by
      intro m9
      induction m9 with
      | zero => intro w9_2 w9_3 q9 f9_0 f9_1; exact absurd q9 (by omega)
      | succ m9 ih9 =>
        intro w9_2 w9_3 q9 f9_0 f9_1
        refine mx_J.step (sn_232 20) (fun _ _ => rfl) ?_
        refine mx_J.step (sn_232 21) (fun _ _ => rfl) ?_
        refine JgetI (g := 30) (z := Z1 56 30) hx1 (show mx_Sn _ _ 22 (mx_getf 12 30 25) from sn_232 22) a56 s56 rfl rfl rfl ?_
        refine Jicmp_ge (show mx_Sn _ _ 25 (mx_icmp_ge 55 28) from sn_232 25) (by omega) (by omega) (fun q11 => ?_) (fun q11 => ?_)
        · skip
          refine mx_J.step (sn_232 55) (fun _ _ => rfl) ?_
          have eq12 : Z1 56 18 = Z 56 18 := (hf1 56 18 rfl)
          have eq13 : (ai 67) Z1 (Z 56 18) 0 (Z 56 18 - 1) = (ai 67) Z (Z 56 18) 0 (Z 56 18 - 1) := (ai_c (fun i => hf1 67 i rfl))
          exact mx_J.ret (sn_232 56) (fun _ _ => rfl) (hP w9_2 Z1 h1 hx1 hG1 (fr_tr (M := [(56, 30), (56, 31), (68, (-1)), (69, (-1))]) fr_rf (hf1) (M1 := []) rfl rfl) (by omega))
        · skip
          refine mx_J.step (sn_232 28) (fun _ _ => rfl) ?_
          refine JgetR (g := 26) (b := 69) hx1 (show mx_Sn _ _ 29 (mx_getf 12 26 32) from sn_232 29) a56 s56 rfl rfl (hG1.prr 56 26 rfl) ?_
          refine mx_J.step (sn_232 32) (fun _ _ => rfl) ?_
          have b15 : 0 ≤ Z1 69 w9_3 ∧ Z1 69 w9_3 ≤ 384 := hG1.pr 69 w9_3
          refine JialdI (z := Z1 69 w9_3) hx1 (show mx_Sn _ _ 33 (mx_iald 34) from sn_232 33) a69 s69 (by omega) rfl ?_
          refine mx_J.step (sn_232 34) (fun _ _ => rfl) ?_
          have c48 : ∀ (k16_0 : Int), 0 ≤ k16_0 ∧ k16_0 ≤ 384 → mx_J (tB l D b0 ad Hb tau) mt_232 (d + 1) 48 [some (.ref 56), some (xI x0), some (xI w9_2), some (xI w9_3)] [xI k16_0] h1 Post := by
            intro k16_0 f16_0
            refine mx_J.step (ls2 := [some (.ref 56), some (xI x0), some (xI k16_0), some (xI w9_3)]) (sn_232 48) (fun _ _ => rfl) ?_
            refine Jiinc (z := w9_3) (cz := 1) (ls2 := [some (.ref 56), some (xI x0), some (xI k16_0), some (xI (w9_3 + 1))]) (show mx_Sn _ _ 49 (mx_iinc 3 1 52) from sn_232 49) rfl rfl rfl rfl ?_
            refine mx_J.step (sn_232 52) (fun _ _ => rfl) ?_
            exact ih9 k16_0 (w9_3 + 1) (by omega) (by omega) (by omega)
          refine Jicmp_ge (show mx_Sn _ _ 35 (mx_icmp_ge 47 38) from sn_232 35) (by omega) (by omega) (fun q17 => ?_) (fun q17 => ?_)
          · skip
            refine mx_J.step (sn_232 47) (fun _ _ => rfl) ?_
            exact c48 w9_2 (by omega)
          · skip
            refine mx_J.step (sn_232 38) (fun _ _ => rfl) ?_
            refine JgetR (g := 26) (b := 69) hx1 (show mx_Sn _ _ 39 (mx_getf 12 26 42) from sn_232 39) a56 s56 rfl rfl (hG1.prr 56 26 rfl) ?_
            refine mx_J.step (sn_232 42) (fun _ _ => rfl) ?_
            refine JialdI (z := Z1 69 w9_3) hx1 (show mx_Sn _ _ 43 (mx_iald 44) from sn_232 43) a69 s69 (by omega) rfl ?_
            refine mx_J.step (sn_232 44) (fun _ _ => rfl) ?_
            exact c48 (Z1 69 w9_3) (by omega)
    exact c20 (Int.toNat (386 - (Z1 56 31)) + 1) (Z1 69 (Z1 56 31)) (Z1 56 31) (by omega) (by omega) (by omega)
theorem ct_232_56 {l : Launch} {D : va_G} {b0 : Nat} {ad : Nat → Nat} {Hb : Heap} {tau : Nat → Int64} {d n s : Nat} {S : Nat → xS} {Z : xZ} {h : mx_H} (hx : XH n s S Z h) (hG : GI n S Z)  {x0 : Int} (p0 : 0 ≤ x0 ∧ x0 ≤ 384) (k0 : ai 67 Z (Z 56 18) 0 (Z 56 18 - 1) = 1) (k1 : x0 < Z 56 18) : ∃ (z : Int) (Z' : xZ) (h' : mx_H), mx_Ca (tB l D b0 ad Hb tau) (d + 2) 232 [.ref 56, xI x0] h (some (xI z), h') ∧ XH n s S Z' h' ∧ GI n S Z' ∧ fr' [(56, 30), (56, 31), (68, (-1)), (69, (-1))] Z Z' ∧ (0 ≤ z ∧ z ≤ 384) := by
  obtain ⟨r, hca, z, Z', h', e, q⟩ := Jmt (B := tB l D b0 ad Hb tau) (M := mt_232) (mi := 232) (as := [.ref 56, xI x0]) (d := d + 1) (ls := [some (.ref 56), some (xI x0), none, none]) rfl rfl rfl rfl rfl rfl (cw_232_56 (l := l) (D := D) (b0 := b0) (ad := ad) (Hb := Hb) (tau := tau) (d := d) (Post := fun r => ∃ (z : Int) (Z' : xZ) (h' : mx_H), r = (some (xI z), h') ∧ XH n s S Z' h' ∧ GI n S Z' ∧ fr' [(56, 30), (56, 31), (68, (-1)), (69, (-1))] Z Z' ∧ (0 ≤ z ∧ z ≤ 384)) hx hG p0 k0 k1 (fun z Z' h' q1 q2 q3 q4 => ⟨z, Z', h', rfl, q1, q2, q3, q4⟩))
  subst e; exact ⟨z, Z', h', hca, q⟩
set_option maxRecDepth 100000 in
theorem cw_233_56 {l : Launch} {D : va_G} {b0 : Nat} {ad : Nat → Nat} {Hb : Heap} {tau : Nat → Int64} {d n s : Nat} {S : Nat → xS} {Z : xZ} {h : mx_H} {Post : mx_R → Prop} (hx : XH n s S Z h) (hG : GI n S Z)  {x0 : Int} (p0 : (-2147483648) ≤ x0 ∧ x0 ≤ 2147483647) (hP : ∀ (z : Int) (Z' : xZ) (h' : mx_H), XH n s S Z' h' → GI n S Z' → fr' [(56, 0), (56, 30), (56, 31), (62, (-1)), (64, (-1)), (65, (-1)), (67, (-1)), (68, (-1)), (69, (-1)), (70, (-1)), (71, (-1))] Z Z' → (-2147483648) ≤ z ∧ z ≤ 2147483647 → Post (some (xI z), h')) : mx_J (tB l D b0 ad Hb tau) mt_233 (d + 7) 0 [some (.ref 56), some (xI x0), none, none, none, none] [] h Post := by
    have a56 : 56 < n := lt83 (GI_n hG) rfl
    have s56 : S 56 = .inl (12, [0, 2, 2, 2, 2, 0, 0, 0, 0, 0, 0, 0, 0, 0, 0, 2, 2, 2, 0, 2, 2, 2, 0, 0, 2, 2, 2, 2, 2, 2, 0, 0, 2, 2, 2, 2, 2, 2, 2, 2, 2, 2]) := GI_s hG 56 rfl
    have a57 : 57 < n := lt83 (GI_n hG) rfl
    have s57 : S 57 = .inr (.int, 2886, 0) := GI_s hG 57 rfl
    have a70 : 70 < n := lt83 (GI_n hG) rfl
    have s70 : S 70 = .inr (.boolean, 385, 0) := GI_s hG 70 rfl
    refine mx_J.step (sn_233 0) (fun _ _ => rfl) ?_
    refine JcI (z := 0) (show mx_Sn _ _ 1 (mx_const (.int 0) 2) from sn_233 1) rfl ?_
    refine JputI (g := 0) hx (show mx_Sn _ _ 2 (mx_putf 1 12 0 (.int) 5) from sn_233 2) a56 s56 rfl rfl rfl rfl (fun Z1 h1 hx1 hE1 => ?_)
    have hG1 := GI_up hG hE1 (show (-2147483648) ≤ 0 ∧ 0 ≤ 2147483647 by omega) trivial rfl
    refine mx_J.step (sn_233 5) (fun _ _ => rfl) ?_
    refine Ji2l (show mx_Sn _ _ 6 (mx_i2l 7) from sn_233 6) (by omega) ?_
    refine JcL (z := 0) (show mx_Sn _ _ 7 (mx_const (.long 0) 8) from sn_233 7) rfl ?_
    refine JcL (z := 5) (show mx_Sn _ _ 8 (mx_const (.long 5) 11) from sn_233 8) rfl ?_
    obtain ⟨z2, hc2, b2⟩ := ct_154_ (d := d + 6) (l := l) (D := D) (b0 := b0) (ad := ad) (Hb := Hb) (tau := tau) hx1 hG1 (show (-9223372036854775808) ≤ x0 ∧ x0 ≤ 9223372036854775807 by omega) (show (-9223372036854775808) ≤ 0 ∧ 0 ≤ 9223372036854775807 by omega) (show (-9223372036854775808) ≤ 5 ∧ 5 ≤ 9223372036854775807 by omega)
    refine Jcs (show mx_Sn _ _ 11 (mx_calls 154 3 14) from sn_233 11) hc2 rfl rfl rfl ?_
    refine Jif_ne (show mx_Sn _ _ 14 (mx_if_ne 20 17) from sn_233 14) (by omega) (fun q3 => ?_) (fun q3 => ?_)
    · skip
      refine mx_J.step (sn_233 20) (fun _ _ => rfl) ?_
      refine Jif_ne (show mx_Sn _ _ 21 (mx_if_ne 29 24) from sn_233 21) (by omega) (fun q4 => ?_) (fun q4 => ?_)
      · skip
        refine mx_J.step (sn_233 29) (fun _ _ => rfl) ?_
        have eq6 : Z1 56 18 = Z 56 18 := (up_ni hE1 (by decide))
        have b7 : 0 ≤ Z 56 18 ∧ Z 56 18 ≤ 385 := hG.pr 56 18
        obtain ⟨Z5, h5, hc5, hx5, hG5, hf5, b5⟩ := ct_230_56 (d := d + 0) (l := l) (D := D) (b0 := b0) (ad := ad) (Hb := Hb) (tau := tau) hx1 hG1 
        try rw [eq6] at b5
        refine Jcv0 hx1 (show mx_Sn _ _ 30 (mx_callv 230 1 12 33) from sn_233 30) a56 s56 hc5 rfl rfl rfl ?_
        refine mx_J.step (sn_233 33) (fun _ _ => rfl) ?_
        refine JcI (z := 1) (show mx_Sn _ _ 34 (mx_const (.int 1) 35) from sn_233 34) rfl ?_
        refine Jicmp_ne (show mx_Sn _ _ 35 (mx_icmp_ne 43 38) from sn_233 35) (by omega) (by omega) (fun q8 => ?_) (fun q8 => ?_)
        · skip
          refine mx_J.step (sn_233 43) (fun _ _ => rfl) ?_
          refine mx_J.step (sn_233 44) (fun _ _ => rfl) ?_
          refine JgetR (g := 1) (b := 57) hx5 (show mx_Sn _ _ 45 (mx_getf 12 1 48) from sn_233 45) a56 s56 rfl rfl (hG5.prr 56 1 rfl) ?_
          refine JcI (z := 27) (show mx_Sn _ _ 48 (mx_const (.int 27) 50) from sn_233 48) rfl ?_
          have b10 := GI_st hG 27
          have b11 : 0 ≤ Z 57 27 ∧ Z 57 27 ≤ 384 := by have hq := GI_ex hG 57 27; replace hq : f57 (27 % 962) (Z 57 27) := hq; unfold f57 at hq; omega
          have b12 : (-2147483648) ≤ Z 57 27 ∧ Z 57 27 ≤ 2147483647 := hG.pr 57 27
          refine JialdI (z := Z 57 27) hx5 (show mx_Sn _ _ 50 (mx_iald 51) from sn_233 50) a57 s57 (by omega) ((hf5 57 27 rfl).trans (up_nk hE1 rfl)) ?_
          have eq14 : Z5 56 18 = Z 56 18 := ((hf5 56 18 rfl).trans (up_ni hE1 (by decide)))
          obtain ⟨z13, Z13, h13, hc13, hx13, hG13, hf13, b13⟩ := ct_232_56 (d := d + 5) (l := l) (D := D) (b0 := b0) (ad := ad) (Hb := Hb) (tau := tau) hx5 hG5 (show 0 ≤ Z 57 27 ∧ Z 57 27 ≤ 384 by omega) (show ai 67 Z5 (Z5 56 18) 0 (Z5 56 18 - 1) = 1 by first | omega | (simp only [eq14]; omega)) (show (Z 57 27) < Z5 56 18 by first | omega | (simp only [eq14]; omega))
          try rw [eq14] at b13
          refine Jcv hx5 (show mx_Sn _ _ 51 (mx_callv 232 2 12 54) from sn_233 51) a56 s56 hc13 rfl rfl rfl ?_
          refine mx_J.step (ls2 := [some (.ref 56), some (xI x0), some (xI z13), none, none, none]) (sn_233 54) (fun _ _ => rfl) ?_
          refine JcI (z := 0) (show mx_Sn _ _ 55 (mx_const (.int 0) 56) from sn_233 55) rfl ?_
          refine mx_J.step (ls2 := [some (.ref 56), some (xI x0), some (xI z13), some (xI 0), none, none]) (sn_233 56) (fun _ _ => rfl) ?_
          refine JcI (z := 0) (show mx_Sn _ _ 57 (mx_const (.int 0) 58) from sn_233 57) rfl ?_
          refine mx_J.step (ls2 := [some (.ref 56), some (xI x0), some (xI z13), some (xI 0), some (xI 0), none]) (sn_233 58) (fun _ _ => rfl) ?_
          have c60 : ∀ (m15 : Nat) (w15_3 : Int) (w15_4 : Int) (u15_5 : Option Value) (Z16 : xZ) (h16 : mx_H), 385 - w15_4 < (m15 : Int) → (-2147483648) ≤ w15_3 ∧ w15_3 ≤ 2147483647 → 0 ≤ w15_4 ∧ w15_4 ≤ 385 → XH n s S Z16 h16 → GI n S Z16 → fr' [(56, 30), (56, 31), (68, (-1)), (69, (-1))] Z13 Z16 → mx_J (tB l D b0 ad Hb tau) mt_233 (d + 7) 60 [some (.ref 56), some (xI x0), some (xI z13), some (xI w15_3), some (xI w15_4), u15_5] [] h16 Post := by
            intro m15
            induction m15 with
            | zero => intro w15_3 w15_4 u15_5 Z16 h16 q15 f15_0 f15_1 hx16 hG16 hf16; exact absurd q15 (by omega)
            | succ m15 ih15 =>
              intro w15_3 w15_4 u15_5 Z16 h16 q15 f15_0 f15_1 hx16 hG16 hf16
              refine mx_J.step (sn_233 60) (fun _ _ => rfl) ?_
              refine mx_J.step (sn_233 62) (fun _ _ => rfl) ?_
              refine JgetI (g := 18) (z := Z 56 18) hx16 (show mx_Sn _ _ 63 (mx_getf 12 18 66) from sn_233 63) a56 s56 rfl rfl ((hf16 56 18 rfl).trans ((hf13 56 18 rfl).trans ((hf5 56 18 rfl).trans (up_ni hE1 (by decide))))) ?_
              refine Jicmp_ge (show mx_Sn _ _ 66 (mx_icmp_ge 171 69) from sn_233 66) (by omega) (by omega) (fun q18 => ?_) (fun q18 => ?_)
              · skip
                refine mx_J.step (sn_233 171) (fun _ _ => rfl) ?_
                exact mx_J.ret (sn_233 172) (fun _ _ => rfl) (hP w15_3 Z16 h16 hx16 hG16 (fr_tr (M := [(56, 0), (56, 30), (56, 31), (62, (-1)), (64, (-1)), (65, (-1)), (67, (-1)), (68, (-1)), (69, (-1)), (70, (-1)), (71, (-1))]) (fr_tr (M := [(56, 0), (56, 30), (56, 31), (62, (-1)), (64, (-1)), (65, (-1)), (67, (-1)), (68, (-1)), (69, (-1)), (70, (-1)), (71, (-1))]) (fr_tr (M := [(56, 0), (56, 30), (56, 31), (62, (-1)), (64, (-1)), (65, (-1)), (67, (-1)), (68, (-1)), (69, (-1)), (70, (-1)), (71, (-1))]) (fr_tr (M := [(56, 0), (56, 30), (56, 31), (62, (-1)), (64, (-1)), (65, (-1)), (67, (-1)), (68, (-1)), (69, (-1)), (70, (-1)), (71, (-1))]) fr_rf (fr_up hE1) (M1 := []) rfl rfl) (hf5) rfl rfl) (hf13) rfl rfl) (hf16) rfl rfl) (by omega))
              · skip
                refine mx_J.step (sn_233 69) (fun _ _ => rfl) ?_
                refine mx_J.step (sn_233 70) (fun _ _ => rfl) ?_
                have eq20 : Z16 56 18 = Z 56 18 := ((hf16 56 18 rfl).trans ((hf13 56 18 rfl).trans ((hf5 56 18 rfl).trans (up_ni hE1 (by decide)))))
                have eq21 : (ai 67) Z16 (Z 56 18) 0 (Z 56 18 - 1) = (ai 67) Z5 (Z 56 18) 0 (Z 56 18 - 1) := ((ai_c (fun i => hf16 67 i rfl)).trans (ai_c (fun i => hf13 67 i rfl)))
                obtain ⟨z19, Z19, h19, hc19, hx19, hG19, hf19, b19⟩ := ct_232_56 (d := d + 5) (l := l) (D := D) (b0 := b0) (ad := ad) (Hb := Hb) (tau := tau) hx16 hG16 (show 0 ≤ w15_4 ∧ w15_4 ≤ 384 by omega) (show ai 67 Z16 (Z16 56 18) 0 (Z16 56 18 - 1) = 1 by first | omega | (simp only [eq20]; omega)) (show w15_4 < Z16 56 18 by first | omega | (simp only [eq20]; omega))
                try rw [eq20] at b19
                refine Jcv hx16 (show mx_Sn _ _ 72 (mx_callv 232 2 12 75) from sn_233 72) a56 s56 hc19 rfl rfl rfl ?_
                refine mx_J.step (ls2 := [some (.ref 56), some (xI x0), some (xI z13), some (xI w15_3), some (xI w15_4), some (xI z19)]) (sn_233 75) (fun _ _ => rfl) ?_
                refine mx_J.step (sn_233 77) (fun _ _ => rfl) ?_
                refine JcI (z := 2) (show mx_Sn _ _ 78 (mx_const (.int 2) 79) from sn_233 78) rfl ?_
                have c165 : ∀ (w22_3 : Int), (-2147483648) ≤ w22_3 ∧ w22_3 ≤ 2147483647 → mx_J (tB l D b0 ad Hb tau) mt_233 (d + 7) 165 [some (.ref 56), some (xI x0), some (xI z13), some (xI w22_3), some (xI w15_4), some (xI z19)] [] h19 Post := by
                  intro w22_3 f22_0
                  refine Jiinc (z := w15_4) (cz := 1) (ls2 := [some (.ref 56), some (xI x0), some (xI z13), some (xI w22_3), some (xI (w15_4 + 1)), some (xI z19)]) (show mx_Sn _ _ 165 (mx_iinc 4 1 168) from sn_233 165) rfl rfl rfl rfl ?_
                  refine mx_J.step (sn_233 168) (fun _ _ => rfl) ?_
                  exact ih15 w22_3 (w15_4 + 1) (some (xI z19)) Z19 h19 (by omega) (by omega) (by omega) hx19 hG19 (fr_tr (M := [(56, 30), (56, 31), (68, (-1)), (69, (-1))]) (fr_tr (M := [(56, 30), (56, 31), (68, (-1)), (69, (-1))]) fr_rf (hf16) (M1 := []) rfl rfl) (hf19) rfl rfl)
                refine Jicmp_ne (show mx_Sn _ _ 79 (mx_icmp_ne 103 82) from sn_233 79) (by omega) (by omega) (fun q23 => ?_) (fun q23 => ?_)
                · skip
                  refine mx_J.step (sn_233 103) (fun _ _ => rfl) ?_
                  refine JcI (z := 3) (show mx_Sn _ _ 104 (mx_const (.int 3) 105) from sn_233 104) rfl ?_
                  refine Jicmp_ne (show mx_Sn _ _ 105 (mx_icmp_ne 126 108) from sn_233 105) (by omega) (by omega) (fun q24 => ?_) (fun q24 => ?_)
                  · skip
                    refine mx_J.step (sn_233 126) (fun _ _ => rfl) ?_
                    refine JcI (z := 4) (show mx_Sn _ _ 127 (mx_const (.int 4) 128) from sn_233 127) rfl ?_
                    refine Jicmp_ne (show mx_Sn _ _ 128 (mx_icmp_ne 151 131) from sn_233 128) (by omega) (by omega) (fun q25 => ?_) (fun q25 => ?_)
                    · skip
                      refine mx_J.step (sn_233 151) (fun _ _ => rfl) ?_
                      refine mx_J.step (sn_233 152) (fun _ _ => rfl) ?_
                      refine mx_J.step (sn_233 154) (fun _ _ => rfl) ?_
                      have c163 : ∀ (k26_1 : Int), 0 ≤ k26_1 ∧ k26_1 ≤ 1 → mx_J (tB l D b0 ad Hb tau) mt_233 (d + 7) 163 [some (.ref 56), some (xI x0), some (xI z13), some (xI w15_3), some (xI w15_4), some (xI z19)] [xI k26_1, xI w15_3] h19 Post := by
                        intro k26_1 f26_0
                        refine JiaddN (show mx_Sn _ _ 163 (mx_iadd 164) from sn_233 163) (fun y27 hy27 hq27 => ?_)
                        refine mx_J.step (ls2 := [some (.ref 56), some (xI x0), some (xI z13), some (xI y27), some (xI w15_4), some (xI z19)]) (sn_233 164) (fun _ _ => rfl) ?_
                        exact c165 y27 (by omega)
                      refine Jicmp_ne (show mx_Sn _ _ 155 (mx_icmp_ne 162 158) from sn_233 155) (by omega) (by omega) (fun q28 => ?_) (fun q28 => ?_)
                      · skip
                        refine JcI (z := 0) (show mx_Sn _ _ 162 (mx_const (.int 0) 163) from sn_233 162) rfl ?_
                        exact c163 0 (by omega)
                      · skip
                        refine JcI (z := 1) (show mx_Sn _ _ 158 (mx_const (.int 1) 159) from sn_233 158) rfl ?_
                        refine mx_J.step (sn_233 159) (fun _ _ => rfl) ?_
                        exact c163 1 (by omega)
                    · skip
                      refine mx_J.step (sn_233 131) (fun _ _ => rfl) ?_
                      have b30 : 0 ≤ Z19 56 31 ∧ Z19 56 31 ≤ 385 := hG19.pr 56 31
                      refine JgetI (g := 31) (z := Z19 56 31) hx19 (show mx_Sn _ _ 132 (mx_getf 12 31 135) from sn_233 132) a56 s56 rfl rfl rfl ?_
                      refine mx_J.step (sn_233 135) (fun _ _ => rfl) ?_
                      have c147 : ∀ (k31_0 : Int), 0 ≤ k31_0 ∧ k31_0 ≤ 2147483647 → mx_J (tB l D b0 ad Hb tau) mt_233 (d + 7) 147 [some (.ref 56), some (xI x0), some (xI z13), some (xI w15_3), some (xI w15_4), some (xI z19)] [xI k31_0] h19 Post := by
                        intro k31_0 f31_0
                        refine mx_J.step (ls2 := [some (.ref 56), some (xI x0), some (xI z13), some (xI k31_0), some (xI w15_4), some (xI z19)]) (sn_233 147) (fun _ _ => rfl) ?_
                        refine mx_J.step (sn_233 148) (fun _ _ => rfl) ?_
                        exact c165 k31_0 (by omega)
                      refine Jicmp_le (show mx_Sn _ _ 136 (mx_icmp_le 146 139) from sn_233 136) (by omega) (by omega) (fun q32 => ?_) (fun q32 => ?_)
                      · skip
                        refine mx_J.step (sn_233 146) (fun _ _ => rfl) ?_
                        exact c147 w15_3 (by omega)
                      · skip
                        refine mx_J.step (sn_233 139) (fun _ _ => rfl) ?_
                        refine JgetI (g := 31) (z := Z19 56 31) hx19 (show mx_Sn _ _ 140 (mx_getf 12 31 143) from sn_233 140) a56 s56 rfl rfl rfl ?_
                        refine mx_J.step (sn_233 143) (fun _ _ => rfl) ?_
                        exact c147 (Z19 56 31) (by omega)
                  · skip
                    refine mx_J.step (sn_233 108) (fun _ _ => rfl) ?_
                    refine mx_J.step (sn_233 109) (fun _ _ => rfl) ?_
                    refine mx_J.step (sn_233 111) (fun _ _ => rfl) ?_
                    have c121 : ∀ (k34_1 : Int), 0 ≤ k34_1 ∧ k34_1 ≤ 1 → mx_J (tB l D b0 ad Hb tau) mt_233 (d + 7) 121 [some (.ref 56), some (xI x0), some (xI z13), some (xI w15_3), some (xI w15_4), some (xI z19)] [xI k34_1, xI w15_3] h19 Post := by
                      intro k34_1 f34_0
                      refine JiaddN (show mx_Sn _ _ 121 (mx_iadd 122) from sn_233 121) (fun y35 hy35 hq35 => ?_)
                      refine mx_J.step (ls2 := [some (.ref 56), some (xI x0), some (xI z13), some (xI y35), some (xI w15_4), some (xI z19)]) (sn_233 122) (fun _ _ => rfl) ?_
                      refine mx_J.step (sn_233 123) (fun _ _ => rfl) ?_
                      exact c165 y35 (by omega)
                    refine Jicmp_ne (show mx_Sn _ _ 113 (mx_icmp_ne 120 116) from sn_233 113) (by omega) (by omega) (fun q36 => ?_) (fun q36 => ?_)
                    · skip
                      refine JcI (z := 0) (show mx_Sn _ _ 120 (mx_const (.int 0) 121) from sn_233 120) rfl ?_
                      exact c121 0 (by omega)
                    · skip
                      refine JcI (z := 1) (show mx_Sn _ _ 116 (mx_const (.int 1) 117) from sn_233 116) rfl ?_
                      refine mx_J.step (sn_233 117) (fun _ _ => rfl) ?_
                      exact c121 1 (by omega)
                · skip
                  refine mx_J.step (sn_233 82) (fun _ _ => rfl) ?_
                  refine mx_J.step (sn_233 83) (fun _ _ => rfl) ?_
                  refine JgetR (g := 27) (b := 70) hx19 (show mx_Sn _ _ 84 (mx_getf 12 27 87) from sn_233 84) a56 s56 rfl rfl (hG19.prr 56 27 rfl) ?_
                  refine mx_J.step (sn_233 87) (fun _ _ => rfl) ?_
                  have b38 : 0 ≤ Z5 70 w15_4 ∧ Z5 70 w15_4 ≤ 1 := hG5.pr 70 w15_4
                  refine JzaldI (z := Z5 70 w15_4) hx19 (show mx_Sn _ _ 89 (mx_zald 90) from sn_233 89) a70 s70 (by omega) ((hf19 70 w15_4 rfl).trans ((hf16 70 w15_4 rfl).trans (hf13 70 w15_4 rfl))) ?_
                  have c98 : ∀ (k39_1 : Int), 0 ≤ k39_1 ∧ k39_1 ≤ 1 → mx_J (tB l D b0 ad Hb tau) mt_233 (d + 7) 98 [some (.ref 56), some (xI x0), some (xI z13), some (xI w15_3), some (xI w15_4), some (xI z19)] [xI k39_1, xI w15_3] h19 Post := by
                    intro k39_1 f39_0
                    refine JiaddN (show mx_Sn _ _ 98 (mx_iadd 99) from sn_233 98) (fun y40 hy40 hq40 => ?_)
                    refine mx_J.step (ls2 := [some (.ref 56), some (xI x0), some (xI z13), some (xI y40), some (xI w15_4), some (xI z19)]) (sn_233 99) (fun _ _ => rfl) ?_
                    refine mx_J.step (sn_233 100) (fun _ _ => rfl) ?_
                    exact c165 y40 (by omega)
                  refine Jif_eq (show mx_Sn _ _ 90 (mx_if_eq 97 93) from sn_233 90) (by omega) (fun q41 => ?_) (fun q41 => ?_)
                  · skip
                    refine JcI (z := 0) (show mx_Sn _ _ 97 (mx_const (.int 0) 98) from sn_233 97) rfl ?_
                    exact c98 0 (by omega)
                  · skip
                    refine JcI (z := 1) (show mx_Sn _ _ 93 (mx_const (.int 1) 94) from sn_233 93) rfl ?_
                    refine mx_J.step (sn_233 94) (fun _ _ => rfl) ?_
                    exact c98 1 (by omega)
          exact c60 (Int.toNat (385 - 0) + 1) 0 0 none Z13 h13 (by omega) (by omega) (by omega) hx13 hG13 fr_rf
        · skip
          refine mx_J.step (sn_233 38) (fun _ _ => rfl) ?_
          obtain ⟨z42, Z42, h42, hc42, hx42, hG42, hf42, b42⟩ := ct_231_56 (d := d + 6) (l := l) (D := D) (b0 := b0) (ad := ad) (Hb := Hb) (tau := tau) hx5 hG5 
          refine Jcv hx5 (show mx_Sn _ _ 39 (mx_callv 231 1 12 42) from sn_233 39) a56 s56 hc42 rfl rfl rfl ?_
          exact mx_J.ret (sn_233 42) (fun _ _ => rfl) (hP z42 Z42 h42 hx42 hG42 (fr_tr (M := [(56, 0), (56, 30), (56, 31), (62, (-1)), (64, (-1)), (65, (-1)), (67, (-1)), (68, (-1)), (69, (-1)), (70, (-1)), (71, (-1))]) (fr_tr (M := [(56, 0), (56, 30), (56, 31), (62, (-1)), (64, (-1)), (65, (-1)), (67, (-1)), (68, (-1)), (69, (-1)), (70, (-1)), (71, (-1))]) (fr_tr (M := [(56, 0), (56, 30), (56, 31), (62, (-1)), (64, (-1)), (65, (-1)), (67, (-1)), (68, (-1)), (69, (-1)), (70, (-1)), (71, (-1))]) fr_rf (fr_up hE1) (M1 := []) rfl rfl) (hf5) rfl rfl) (hf42) rfl rfl) (by omega))
      · skip
        refine mx_J.step (sn_233 24) (fun _ _ => rfl) ?_
        have b44 : 0 ≤ Z 56 18 ∧ Z 56 18 ≤ 385 := hG.pr 56 18
        refine JgetI (g := 18) (z := Z 56 18) hx1 (show mx_Sn _ _ 25 (mx_getf 12 18 28) from sn_233 25) a56 s56 rfl rfl (up_ni hE1 (by decide)) ?_
        exact mx_J.ret (sn_233 28) (fun _ _ => rfl) (hP (Z 56 18) Z1 h1 hx1 hG1 (fr_tr (M := [(56, 0), (56, 30), (56, 31), (62, (-1)), (64, (-1)), (65, (-1)), (67, (-1)), (68, (-1)), (69, (-1)), (70, (-1)), (71, (-1))]) fr_rf (fr_up hE1) (M1 := []) rfl rfl) (by omega))
    · skip
      refine JcI (z := (-2)) (show mx_Sn _ _ 17 (mx_const (.int (-2)) 19) from sn_233 17) rfl ?_
      exact mx_J.ret (sn_233 19) (fun _ _ => rfl) (hP (-2) Z1 h1 hx1 hG1 (fr_tr (M := [(56, 0), (56, 30), (56, 31), (62, (-1)), (64, (-1)), (65, (-1)), (67, (-1)), (68, (-1)), (69, (-1)), (70, (-1)), (71, (-1))]) fr_rf (fr_up hE1) (M1 := []) rfl rfl) (by omega))
theorem ct_233_56 {l : Launch} {D : va_G} {b0 : Nat} {ad : Nat → Nat} {Hb : Heap} {tau : Nat → Int64} {d n s : Nat} {S : Nat → xS} {Z : xZ} {h : mx_H} (hx : XH n s S Z h) (hG : GI n S Z)  {x0 : Int} (p0 : (-2147483648) ≤ x0 ∧ x0 ≤ 2147483647) : ∃ (z : Int) (Z' : xZ) (h' : mx_H), mx_Ca (tB l D b0 ad Hb tau) (d + 8) 233 [.ref 56, xI x0] h (some (xI z), h') ∧ XH n s S Z' h' ∧ GI n S Z' ∧ fr' [(56, 0), (56, 30), (56, 31), (62, (-1)), (64, (-1)), (65, (-1)), (67, (-1)), (68, (-1)), (69, (-1)), (70, (-1)), (71, (-1))] Z Z' ∧ ((-2147483648) ≤ z ∧ z ≤ 2147483647) := by
  obtain ⟨r, hca, z, Z', h', e, q⟩ := Jmt (B := tB l D b0 ad Hb tau) (M := mt_233) (mi := 233) (as := [.ref 56, xI x0]) (d := d + 7) (ls := [some (.ref 56), some (xI x0), none, none, none, none]) rfl rfl rfl rfl rfl rfl (cw_233_56 (l := l) (D := D) (b0 := b0) (ad := ad) (Hb := Hb) (tau := tau) (d := d) (Post := fun r => ∃ (z : Int) (Z' : xZ) (h' : mx_H), r = (some (xI z), h') ∧ XH n s S Z' h' ∧ GI n S Z' ∧ fr' [(56, 0), (56, 30), (56, 31), (62, (-1)), (64, (-1)), (65, (-1)), (67, (-1)), (68, (-1)), (69, (-1)), (70, (-1)), (71, (-1))] Z Z' ∧ ((-2147483648) ≤ z ∧ z ≤ 2147483647)) hx hG p0 (fun z Z' h' q1 q2 q3 q4 => ⟨z, Z', h', rfl, q1, q2, q3, q4⟩))
  subst e; exact ⟨z, Z', h', hca, q⟩
set_option maxRecDepth 100000 in
theorem cw_234_56 {l : Launch} {D : va_G} {b0 : Nat} {ad : Nat → Nat} {Hb : Heap} {tau : Nat → Int64} {d n s : Nat} {S : Nat → xS} {Z : xZ} {h : mx_H} {Post : mx_R → Prop} (hx : XH n s S Z h) (hG : GI n S Z)  {x0 : Int} (p0 : (-2147483648) ≤ x0 ∧ x0 ≤ 2147483647) (hP : ∀ (z : Int) (Z' : xZ) (h' : mx_H), XH n s S Z' h' → GI n S Z' → fr' [(56, 0), (62, (-1)), (64, (-1)), (65, (-1)), (67, (-1)), (71, (-1)), (72, (-1))] Z Z' → (-2147483648) ≤ z ∧ z ≤ 2147483647 → Post (some (xI z), h')) : mx_J (tB l D b0 ad Hb tau) mt_234 (d + 6) 0 [some (.ref 56), some (xI x0), none, none] [] h Post := by
    have a56 : 56 < n := lt83 (GI_n hG) rfl
    have s56 : S 56 = .inl (12, [0, 2, 2, 2, 2, 0, 0, 0, 0, 0, 0, 0, 0, 0, 0, 2, 2, 2, 0, 2, 2, 2, 0, 0, 2, 2, 2, 2, 2, 2, 0, 0, 2, 2, 2, 2, 2, 2, 2, 2, 2, 2]) := GI_s hG 56 rfl
    have a57 : 57 < n := lt83 (GI_n hG) rfl
    have s57 : S 57 = .inr (.int, 2886, 0) := GI_s hG 57 rfl
    have a67 : 67 < n := lt83 (GI_n hG) rfl
    have s67 : S 67 = .inr (.int, 385, 0) := GI_s hG 67 rfl
    have a71 : 71 < n := lt83 (GI_n hG) rfl
    have s71 : S 71 = .inr (.boolean, 385, 0) := GI_s hG 71 rfl
    have a72 : 72 < n := lt83 (GI_n hG) rfl
    have s72 : S 72 = .inr (.boolean, 385, 0) := GI_s hG 72 rfl
    refine mx_J.step (sn_234 0) (fun _ _ => rfl) ?_
    refine JcI (z := 0) (show mx_Sn _ _ 1 (mx_const (.int 0) 2) from sn_234 1) rfl ?_
    refine JputI (g := 0) hx (show mx_Sn _ _ 2 (mx_putf 1 12 0 (.int) 5) from sn_234 2) a56 s56 rfl rfl rfl rfl (fun Z1 h1 hx1 hE1 => ?_)
    have hG1 := GI_up hG hE1 (show (-2147483648) ≤ 0 ∧ 0 ≤ 2147483647 by omega) trivial rfl
    refine mx_J.step (sn_234 5) (fun _ _ => rfl) ?_
    refine Ji2l (show mx_Sn _ _ 6 (mx_i2l 7) from sn_234 6) (by omega) ?_
    refine JcL (z := 0) (show mx_Sn _ _ 7 (mx_const (.long 0) 8) from sn_234 7) rfl ?_
    refine JcL (z := 9) (show mx_Sn _ _ 8 (mx_const (.long 9) 11) from sn_234 8) rfl ?_
    obtain ⟨z2, hc2, b2⟩ := ct_154_ (d := d + 5) (l := l) (D := D) (b0 := b0) (ad := ad) (Hb := Hb) (tau := tau) hx1 hG1 (show (-9223372036854775808) ≤ x0 ∧ x0 ≤ 9223372036854775807 by omega) (show (-9223372036854775808) ≤ 0 ∧ 0 ≤ 9223372036854775807 by omega) (show (-9223372036854775808) ≤ 9 ∧ 9 ≤ 9223372036854775807 by omega)
    refine Jcs (show mx_Sn _ _ 11 (mx_calls 154 3 14) from sn_234 11) hc2 rfl rfl rfl ?_
    refine Jif_ne (show mx_Sn _ _ 14 (mx_if_ne 20 17) from sn_234 14) (by omega) (fun q3 => ?_) (fun q3 => ?_)
    · skip
      refine mx_J.step (sn_234 20) (fun _ _ => rfl) ?_
      have eq5 : Z1 56 18 = Z 56 18 := (up_ni hE1 (by decide))
      have b6 : 0 ≤ Z 56 18 ∧ Z 56 18 ≤ 385 := hG.pr 56 18
      obtain ⟨Z4, h4, hc4, hx4, hG4, hf4, b4⟩ := ct_226_56 (d := d + 0) (l := l) (D := D) (b0 := b0) (ad := ad) (Hb := Hb) (tau := tau) hx1 hG1 
      try rw [eq5] at b4
      refine Jcv0 hx1 (show mx_Sn _ _ 21 (mx_callv 226 1 12 24) from sn_234 21) a56 s56 hc4 rfl rfl rfl ?_
      refine JcI (z := 0) (show mx_Sn _ _ 24 (mx_const (.int 0) 25) from sn_234 24) rfl ?_
      refine mx_J.step (ls2 := [some (.ref 56), some (xI x0), some (xI 0), none]) (sn_234 25) (fun _ _ => rfl) ?_
      have c26 : ∀ (m7 : Nat) (w7_2 : Int) (Z8 : xZ) (h8 : mx_H), 385 - w7_2 < (m7 : Int) → 0 ≤ w7_2 ∧ w7_2 ≤ 385 → XH n s S Z8 h8 → GI n S Z8 → fr' [(71, (-1))] Z4 Z8 → mx_J (tB l D b0 ad Hb tau) mt_234 (d + 6) 26 [some (.ref 56), some (xI x0), some (xI w7_2), none] [] h8 Post := by
        intro m7
        induction m7 with
        | zero => intro w7_2 Z8 h8 q7 f7_0 hx8 hG8 hf8; exact absurd q7 (by omega)
        | succ m7 ih7 =>
          intro w7_2 Z8 h8 q7 f7_0 hx8 hG8 hf8
          refine mx_J.step (sn_234 26) (fun _ _ => rfl) ?_
          refine mx_J.step (sn_234 27) (fun _ _ => rfl) ?_
          refine JgetI (g := 18) (z := Z 56 18) hx8 (show mx_Sn _ _ 28 (mx_getf 12 18 31) from sn_234 28) a56 s56 rfl rfl ((hf8 56 18 rfl).trans ((hf4 56 18 rfl).trans (up_ni hE1 (by decide)))) ?_
          refine Jicmp_ge (show mx_Sn _ _ 31 (mx_icmp_ge 62 34) from sn_234 31) (by omega) (by omega) (fun q10 => ?_) (fun q10 => ?_)
          · skip
            refine JcI (z := 0) (show mx_Sn _ _ 62 (mx_const (.int 0) 63) from sn_234 62) rfl ?_
            refine mx_J.step (ls2 := [some (.ref 56), some (xI x0), some (xI 0), none]) (sn_234 63) (fun _ _ => rfl) ?_
            have c64 : ∀ (m11 : Nat) (w11_2 : Int) (u11_3 : Option Value) (Z12 : xZ) (h12 : mx_H), 9 - w11_2 < (m11 : Int) → 0 ≤ w11_2 ∧ w11_2 ≤ 9 → XH n s S Z12 h12 → GI n S Z12 → fr' [(71, (-1)), (72, (-1))] Z8 Z12 → mx_J (tB l D b0 ad Hb tau) mt_234 (d + 6) 64 [some (.ref 56), some (xI x0), some (xI w11_2), u11_3] [] h12 Post := by
              intro m11
              induction m11 with
              | zero => intro w11_2 u11_3 Z12 h12 q11 f11_0 hx12 hG12 hf12; exact absurd q11 (by omega)
              | succ m11 ih11 =>
                intro w11_2 u11_3 Z12 h12 q11 f11_0 hx12 hG12 hf12
                refine mx_J.step (sn_234 64) (fun _ _ => rfl) ?_
                refine mx_J.step (sn_234 65) (fun _ _ => rfl) ?_
                refine Jicmp_ge (show mx_Sn _ _ 66 (mx_icmp_ge 136 69) from sn_234 66) (by omega) (by omega) (fun q13 => ?_) (fun q13 => ?_)
                · skip
                  refine JcI (z := 0) (show mx_Sn _ _ 136 (mx_const (.int 0) 137) from sn_234 136) rfl ?_
                  refine mx_J.step (ls2 := [some (.ref 56), some (xI x0), some (xI 0), u11_3]) (sn_234 137) (fun _ _ => rfl) ?_
                  refine JcI (z := 0) (show mx_Sn _ _ 138 (mx_const (.int 0) 139) from sn_234 138) rfl ?_
                  refine mx_J.step (ls2 := [some (.ref 56), some (xI x0), some (xI 0), some (xI 0)]) (sn_234 139) (fun _ _ => rfl) ?_
                  have c140 : ∀ (m14 : Nat) (w14_2 : Int) (w14_3 : Int), 385 - w14_3 < (m14 : Int) → (-2147483648) ≤ w14_2 ∧ w14_2 ≤ 2147483647 → 0 ≤ w14_3 ∧ w14_3 ≤ 385 → mx_J (tB l D b0 ad Hb tau) mt_234 (d + 6) 140 [some (.ref 56), some (xI x0), some (xI w14_2), some (xI w14_3)] [] h12 Post := by
                    intro m14
                    induction m14 with
                    | zero => intro w14_2 w14_3 q14 f14_0 f14_1; exact absurd q14 (by omega)
                    | succ m14 ih14 =>
                      intro w14_2 w14_3 q14 f14_0 f14_1
                      refine mx_J.step (sn_234 140) (fun _ _ => rfl) ?_
                      refine mx_J.step (sn_234 141) (fun _ _ => rfl) ?_
                      refine JgetI (g := 18) (z := Z 56 18) hx12 (show mx_Sn _ _ 142 (mx_getf 12 18 145) from sn_234 142) a56 s56 rfl rfl ((hf12 56 18 rfl).trans ((hf8 56 18 rfl).trans ((hf4 56 18 rfl).trans (up_ni hE1 (by decide))))) ?_
                      refine Jicmp_ge (show mx_Sn _ _ 145 (mx_icmp_ge 171 148) from sn_234 145) (by omega) (by omega) (fun q16 => ?_) (fun q16 => ?_)
                      · skip
                        refine mx_J.step (sn_234 171) (fun _ _ => rfl) ?_
                        exact mx_J.ret (sn_234 172) (fun _ _ => rfl) (hP w14_2 Z12 h12 hx12 hG12 (fr_tr (M := [(56, 0), (62, (-1)), (64, (-1)), (65, (-1)), (67, (-1)), (71, (-1)), (72, (-1))]) (fr_tr (M := [(56, 0), (62, (-1)), (64, (-1)), (65, (-1)), (67, (-1)), (71, (-1)), (72, (-1))]) (fr_tr (M := [(56, 0), (62, (-1)), (64, (-1)), (65, (-1)), (67, (-1)), (71, (-1)), (72, (-1))]) (fr_tr (M := [(56, 0), (62, (-1)), (64, (-1)), (65, (-1)), (67, (-1)), (71, (-1)), (72, (-1))]) fr_rf (fr_up hE1) (M1 := []) rfl rfl) (hf4) rfl rfl) (hf8) rfl rfl) (hf12) rfl rfl) (by omega))
                      · skip
                        refine mx_J.step (sn_234 148) (fun _ _ => rfl) ?_
                        refine mx_J.step (sn_234 149) (fun _ _ => rfl) ?_
                        refine JgetR (g := 28) (b := 71) hx12 (show mx_Sn _ _ 150 (mx_getf 12 28 153) from sn_234 150) a56 s56 rfl rfl (hG12.prr 56 28 rfl) ?_
                        refine mx_J.step (sn_234 153) (fun _ _ => rfl) ?_
                        have b18 : 0 ≤ Z12 71 w14_3 ∧ Z12 71 w14_3 ≤ 1 := hG12.pr 71 w14_3
                        refine JzaldI (z := Z12 71 w14_3) hx12 (show mx_Sn _ _ 154 (mx_zald 155) from sn_234 154) a71 s71 (by omega) rfl ?_
                        have c163 : ∀ (k19_1 : Int), 0 ≤ k19_1 ∧ k19_1 ≤ 1 → mx_J (tB l D b0 ad Hb tau) mt_234 (d + 6) 163 [some (.ref 56), some (xI x0), some (xI w14_2), some (xI w14_3)] [xI k19_1, xI w14_2] h12 Post := by
                          intro k19_1 f19_0
                          refine JiaddN (show mx_Sn _ _ 163 (mx_iadd 164) from sn_234 163) (fun y20 hy20 hq20 => ?_)
                          refine mx_J.step (ls2 := [some (.ref 56), some (xI x0), some (xI y20), some (xI w14_3)]) (sn_234 164) (fun _ _ => rfl) ?_
                          refine Jiinc (z := w14_3) (cz := 1) (ls2 := [some (.ref 56), some (xI x0), some (xI y20), some (xI (w14_3 + 1))]) (show mx_Sn _ _ 165 (mx_iinc 3 1 168) from sn_234 165) rfl rfl rfl rfl ?_
                          refine mx_J.step (sn_234 168) (fun _ _ => rfl) ?_
                          exact ih14 y20 (w14_3 + 1) (by omega) (by omega) (by omega)
                        refine Jif_eq (show mx_Sn _ _ 155 (mx_if_eq 162 158) from sn_234 155) (by omega) (fun q21 => ?_) (fun q21 => ?_)
                        · skip
                          refine JcI (z := 0) (show mx_Sn _ _ 162 (mx_const (.int 0) 163) from sn_234 162) rfl ?_
                          exact c163 0 (by omega)
                        · skip
                          refine JcI (z := 1) (show mx_Sn _ _ 158 (mx_const (.int 1) 159) from sn_234 158) rfl ?_
                          refine mx_J.step (sn_234 159) (fun _ _ => rfl) ?_
                          exact c163 1 (by omega)
                  exact c140 (Int.toNat (385 - 0) + 1) 0 0 (by omega) (by omega) (by omega)
                · skip
                  refine JcI (z := 0) (show mx_Sn _ _ 69 (mx_const (.int 0) 70) from sn_234 69) rfl ?_
                  refine mx_J.step (ls2 := [some (.ref 56), some (xI x0), some (xI w11_2), some (xI 0)]) (sn_234 70) (fun _ _ => rfl) ?_
                  have c71 : ∀ (m22 : Nat) (w22_3 : Int) (Z23 : xZ) (h23 : mx_H), 385 - w22_3 < (m22 : Int) → 0 ≤ w22_3 ∧ w22_3 ≤ 385 → XH n s S Z23 h23 → GI n S Z23 → fr' [(72, (-1))] Z12 Z23 → mx_J (tB l D b0 ad Hb tau) mt_234 (d + 6) 71 [some (.ref 56), some (xI x0), some (xI w11_2), some (xI w22_3)] [] h23 Post := by
                    intro m22
                    induction m22 with
                    | zero => intro w22_3 Z23 h23 q22 f22_0 hx23 hG23 hf23; exact absurd q22 (by omega)
                    | succ m22 ih22 =>
                      intro w22_3 Z23 h23 q22 f22_0 hx23 hG23 hf23
                      refine mx_J.step (sn_234 71) (fun _ _ => rfl) ?_
                      refine mx_J.step (sn_234 72) (fun _ _ => rfl) ?_
                      refine JgetI (g := 18) (z := Z 56 18) hx23 (show mx_Sn _ _ 73 (mx_getf 12 18 76) from sn_234 73) a56 s56 rfl rfl ((hf23 56 18 rfl).trans ((hf12 56 18 rfl).trans ((hf8 56 18 rfl).trans ((hf4 56 18 rfl).trans (up_ni hE1 (by decide)))))) ?_
                      refine Jicmp_ge (show mx_Sn _ _ 76 (mx_icmp_ge 102 79) from sn_234 76) (by omega) (by omega) (fun q25 => ?_) (fun q25 => ?_)
                      · skip
                        refine JcI (z := 0) (show mx_Sn _ _ 102 (mx_const (.int 0) 103) from sn_234 102) rfl ?_
                        refine mx_J.step (ls2 := [some (.ref 56), some (xI x0), some (xI w11_2), some (xI 0)]) (sn_234 103) (fun _ _ => rfl) ?_
                        have c104 : ∀ (m26 : Nat) (w26_3 : Int) (Z27 : xZ) (h27 : mx_H), 385 - w26_3 < (m26 : Int) → 0 ≤ w26_3 ∧ w26_3 ≤ 385 → XH n s S Z27 h27 → GI n S Z27 → fr' [(71, (-1))] Z23 Z27 → mx_J (tB l D b0 ad Hb tau) mt_234 (d + 6) 104 [some (.ref 56), some (xI x0), some (xI w11_2), some (xI w26_3)] [] h27 Post := by
                          intro m26
                          induction m26 with
                          | zero => intro w26_3 Z27 h27 q26 f26_0 hx27 hG27 hf27; exact absurd q26 (by omega)
                          | succ m26 ih26 =>
                            intro w26_3 Z27 h27 q26 f26_0 hx27 hG27 hf27
                            refine mx_J.step (sn_234 104) (fun _ _ => rfl) ?_
                            refine mx_J.step (sn_234 105) (fun _ _ => rfl) ?_
                            refine JgetI (g := 18) (z := Z 56 18) hx27 (show mx_Sn _ _ 106 (mx_getf 12 18 109) from sn_234 106) a56 s56 rfl rfl ((hf27 56 18 rfl).trans ((hf23 56 18 rfl).trans ((hf12 56 18 rfl).trans ((hf8 56 18 rfl).trans ((hf4 56 18 rfl).trans (up_ni hE1 (by decide))))))) ?_
                            refine Jicmp_ge (show mx_Sn _ _ 109 (mx_icmp_ge 130 112) from sn_234 109) (by omega) (by omega) (fun q29 => ?_) (fun q29 => ?_)
                            · skip
                              refine Jiinc (z := w11_2) (cz := 1) (ls2 := [some (.ref 56), some (xI x0), some (xI (w11_2 + 1)), some (xI w26_3)]) (show mx_Sn _ _ 130 (mx_iinc 2 1 133) from sn_234 130) rfl rfl rfl rfl ?_
                              refine mx_J.step (sn_234 133) (fun _ _ => rfl) ?_
                              exact ih11 (w11_2 + 1) (some (xI w26_3)) Z27 h27 (by omega) (by omega) hx27 hG27 (fr_tr (M := [(71, (-1)), (72, (-1))]) (fr_tr (M := [(71, (-1)), (72, (-1))]) (fr_tr (M := [(71, (-1)), (72, (-1))]) fr_rf (hf12) (M1 := []) rfl rfl) (hf23) rfl rfl) (hf27) rfl rfl)
                            · skip
                              refine mx_J.step (sn_234 112) (fun _ _ => rfl) ?_
                              refine JgetR (g := 28) (b := 71) hx27 (show mx_Sn _ _ 113 (mx_getf 12 28 116) from sn_234 113) a56 s56 rfl rfl (hG27.prr 56 28 rfl) ?_
                              refine mx_J.step (sn_234 116) (fun _ _ => rfl) ?_
                              refine mx_J.step (sn_234 117) (fun _ _ => rfl) ?_
                              refine JgetR (g := 29) (b := 72) hx27 (show mx_Sn _ _ 118 (mx_getf 12 29 121) from sn_234 118) a56 s56 rfl rfl (hG27.prr 56 29 rfl) ?_
                              refine mx_J.step (sn_234 121) (fun _ _ => rfl) ?_
                              have b32 : 0 ≤ Z23 72 w26_3 ∧ Z23 72 w26_3 ≤ 1 := hG23.pr 72 w26_3
                              refine JzaldI (z := Z23 72 w26_3) hx27 (show mx_Sn _ _ 122 (mx_zald 123) from sn_234 122) a72 s72 (by omega) (hf27 72 w26_3 rfl) ?_
                              refine JzastI hx27 (show mx_Sn _ _ 123 (mx_zast 1 124) from sn_234 123) a71 s71 rfl (by omega) (by omega) (fun Z33 h33 hx33 hE33 => ?_)
                              have hG33 := GI_up hG27 hE33 (show 0 ≤ Z23 72 w26_3 ∧ Z23 72 w26_3 ≤ 1 by omega) trivial rfl
                              refine Jiinc (z := w26_3) (cz := 1) (ls2 := [some (.ref 56), some (xI x0), some (xI w11_2), some (xI (w26_3 + 1))]) (show mx_Sn _ _ 124 (mx_iinc 3 1 127) from sn_234 124) rfl rfl rfl rfl ?_
                              refine mx_J.step (sn_234 127) (fun _ _ => rfl) ?_
                              exact ih26 (w26_3 + 1) Z33 h33 (by omega) (by omega) hx33 hG33 (fr_tr (M := [(71, (-1))]) (fr_tr (M := [(71, (-1))]) fr_rf (hf27) (M1 := []) rfl rfl) (fr_ua hE33) rfl rfl)
                        exact c104 (Int.toNat (385 - 0) + 1) 0 Z23 h23 (by omega) (by omega) hx23 hG23 fr_rf
                      · skip
                        refine mx_J.step (sn_234 79) (fun _ _ => rfl) ?_
                        refine JgetR (g := 29) (b := 72) hx23 (show mx_Sn _ _ 80 (mx_getf 12 29 83) from sn_234 80) a56 s56 rfl rfl (hG23.prr 56 29 rfl) ?_
                        refine mx_J.step (sn_234 83) (fun _ _ => rfl) ?_
                        refine mx_J.step (sn_234 84) (fun _ _ => rfl) ?_
                        refine JgetR (g := 28) (b := 71) hx23 (show mx_Sn _ _ 85 (mx_getf 12 28 88) from sn_234 85) a56 s56 rfl rfl (hG23.prr 56 28 rfl) ?_
                        refine mx_J.step (sn_234 88) (fun _ _ => rfl) ?_
                        refine JgetR (g := 24) (b := 67) hx23 (show mx_Sn _ _ 89 (mx_getf 12 24 92) from sn_234 89) a56 s56 rfl rfl (hG23.prr 56 24 rfl) ?_
                        refine mx_J.step (sn_234 92) (fun _ _ => rfl) ?_
                        have b37 : 0 ≤ Z4 67 w22_3 ∧ Z4 67 w22_3 ≤ 384 := hG4.pr 67 w22_3
                        refine JialdI (z := Z4 67 w22_3) hx23 (show mx_Sn _ _ 93 (mx_iald 94) from sn_234 93) a67 s67 (by omega) ((hf23 67 w22_3 rfl).trans ((hf12 67 w22_3 rfl).trans (hf8 67 w22_3 rfl))) ?_
                        have b38 : 0 ≤ Z12 71 (Z4 67 w22_3) ∧ Z12 71 (Z4 67 w22_3) ≤ 1 := hG12.pr 71 (Z4 67 w22_3)
                        refine JzaldI (z := Z12 71 (Z4 67 w22_3)) hx23 (show mx_Sn _ _ 94 (mx_zald 95) from sn_234 94) a71 s71 (by omega) (hf23 71 (Z4 67 w22_3) rfl) ?_
                        refine JzastI hx23 (show mx_Sn _ _ 95 (mx_zast 1 96) from sn_234 95) a72 s72 rfl (by omega) (by omega) (fun Z39 h39 hx39 hE39 => ?_)
                        have hG39 := GI_up hG23 hE39 (show 0 ≤ Z12 71 (Z4 67 w22_3) ∧ Z12 71 (Z4 67 w22_3) ≤ 1 by omega) trivial rfl
                        refine Jiinc (z := w22_3) (cz := 1) (ls2 := [some (.ref 56), some (xI x0), some (xI w11_2), some (xI (w22_3 + 1))]) (show mx_Sn _ _ 96 (mx_iinc 3 1 99) from sn_234 96) rfl rfl rfl rfl ?_
                        refine mx_J.step (sn_234 99) (fun _ _ => rfl) ?_
                        exact ih22 (w22_3 + 1) Z39 h39 (by omega) (by omega) hx39 hG39 (fr_tr (M := [(72, (-1))]) (fr_tr (M := [(72, (-1))]) fr_rf (hf23) (M1 := []) rfl rfl) (fr_ua hE39) rfl rfl)
                  exact c71 (Int.toNat (385 - 0) + 1) 0 Z12 h12 (by omega) (by omega) hx12 hG12 fr_rf
            exact c64 (Int.toNat (9 - 0) + 1) 0 none Z8 h8 (by omega) (by omega) hx8 hG8 fr_rf
          · skip
            refine mx_J.step (sn_234 34) (fun _ _ => rfl) ?_
            refine JgetR (g := 28) (b := 71) hx8 (show mx_Sn _ _ 35 (mx_getf 12 28 38) from sn_234 35) a56 s56 rfl rfl (hG8.prr 56 28 rfl) ?_
            refine mx_J.step (sn_234 38) (fun _ _ => rfl) ?_
            refine mx_J.step (sn_234 39) (fun _ _ => rfl) ?_
            refine mx_J.step (sn_234 40) (fun _ _ => rfl) ?_
            refine JgetR (g := 1) (b := 57) hx8 (show mx_Sn _ _ 41 (mx_getf 12 1 44) from sn_234 41) a56 s56 rfl rfl (hG8.prr 56 1 rfl) ?_
            refine JcI (z := 27) (show mx_Sn _ _ 44 (mx_const (.int 27) 46) from sn_234 44) rfl ?_
            have b42 := GI_st hG 27
            have b43 : 0 ≤ Z 57 27 ∧ Z 57 27 ≤ 384 := by have hq := GI_ex hG 57 27; replace hq : f57 (27 % 962) (Z 57 27) := hq; unfold f57 at hq; omega
            have b44 : (-2147483648) ≤ Z 57 27 ∧ Z 57 27 ≤ 2147483647 := hG.pr 57 27
            refine JialdI (z := Z 57 27) hx8 (show mx_Sn _ _ 46 (mx_iald 47) from sn_234 46) a57 s57 (by omega) ((hf8 57 27 rfl).trans ((hf4 57 27 rfl).trans (up_nk hE1 rfl))) ?_
            have c55 : ∀ (k45_2 : Int), 0 ≤ k45_2 ∧ k45_2 ≤ 1 → mx_J (tB l D b0 ad Hb tau) mt_234 (d + 6) 55 [some (.ref 56), some (xI x0), some (xI w7_2), none] [xI k45_2, xI w7_2, .ref 71] h8 Post := by
              intro k45_2 f45_0
              refine JzastI hx8 (show mx_Sn _ _ 55 (mx_zast 1 56) from sn_234 55) a71 s71 rfl (by omega) (by omega) (fun Z46 h46 hx46 hE46 => ?_)
              have hG46 := GI_up hG8 hE46 (show 0 ≤ k45_2 ∧ k45_2 ≤ 1 by omega) trivial rfl
              refine Jiinc (z := w7_2) (cz := 1) (ls2 := [some (.ref 56), some (xI x0), some (xI (w7_2 + 1)), none]) (show mx_Sn _ _ 56 (mx_iinc 2 1 59) from sn_234 56) rfl rfl rfl rfl ?_
              refine mx_J.step (sn_234 59) (fun _ _ => rfl) ?_
              exact ih7 (w7_2 + 1) Z46 h46 (by omega) (by omega) hx46 hG46 (fr_tr (M := [(71, (-1))]) (fr_tr (M := [(71, (-1))]) fr_rf (hf8) (M1 := []) rfl rfl) (fr_ua hE46) rfl rfl)
            refine Jicmp_ne (show mx_Sn _ _ 47 (mx_icmp_ne 54 50) from sn_234 47) (by omega) (by omega) (fun q47 => ?_) (fun q47 => ?_)
            · skip
              refine JcI (z := 0) (show mx_Sn _ _ 54 (mx_const (.int 0) 55) from sn_234 54) rfl ?_
              exact c55 0 (by omega)
            · skip
              refine JcI (z := 1) (show mx_Sn _ _ 50 (mx_const (.int 1) 51) from sn_234 50) rfl ?_
              refine mx_J.step (sn_234 51) (fun _ _ => rfl) ?_
              exact c55 1 (by omega)
      exact c26 (Int.toNat (385 - 0) + 1) 0 Z4 h4 (by omega) (by omega) hx4 hG4 fr_rf
    · skip
      refine JcI (z := (-3)) (show mx_Sn _ _ 17 (mx_const (.int (-3)) 19) from sn_234 17) rfl ?_
      exact mx_J.ret (sn_234 19) (fun _ _ => rfl) (hP (-3) Z1 h1 hx1 hG1 (fr_tr (M := [(56, 0), (62, (-1)), (64, (-1)), (65, (-1)), (67, (-1)), (71, (-1)), (72, (-1))]) fr_rf (fr_up hE1) (M1 := []) rfl rfl) (by omega))
theorem ct_234_56 {l : Launch} {D : va_G} {b0 : Nat} {ad : Nat → Nat} {Hb : Heap} {tau : Nat → Int64} {d n s : Nat} {S : Nat → xS} {Z : xZ} {h : mx_H} (hx : XH n s S Z h) (hG : GI n S Z)  {x0 : Int} (p0 : (-2147483648) ≤ x0 ∧ x0 ≤ 2147483647) : ∃ (z : Int) (Z' : xZ) (h' : mx_H), mx_Ca (tB l D b0 ad Hb tau) (d + 7) 234 [.ref 56, xI x0] h (some (xI z), h') ∧ XH n s S Z' h' ∧ GI n S Z' ∧ fr' [(56, 0), (62, (-1)), (64, (-1)), (65, (-1)), (67, (-1)), (71, (-1)), (72, (-1))] Z Z' ∧ ((-2147483648) ≤ z ∧ z ≤ 2147483647) := by
  obtain ⟨r, hca, z, Z', h', e, q⟩ := Jmt (B := tB l D b0 ad Hb tau) (M := mt_234) (mi := 234) (as := [.ref 56, xI x0]) (d := d + 6) (ls := [some (.ref 56), some (xI x0), none, none]) rfl rfl rfl rfl rfl rfl (cw_234_56 (l := l) (D := D) (b0 := b0) (ad := ad) (Hb := Hb) (tau := tau) (d := d) (Post := fun r => ∃ (z : Int) (Z' : xZ) (h' : mx_H), r = (some (xI z), h') ∧ XH n s S Z' h' ∧ GI n S Z' ∧ fr' [(56, 0), (62, (-1)), (64, (-1)), (65, (-1)), (67, (-1)), (71, (-1)), (72, (-1))] Z Z' ∧ ((-2147483648) ≤ z ∧ z ≤ 2147483647)) hx hG p0 (fun z Z' h' q1 q2 q3 q4 => ⟨z, Z', h', rfl, q1, q2, q3, q4⟩))
  subst e; exact ⟨z, Z', h', hca, q⟩
set_option maxRecDepth 100000 in
theorem cw_235_56 {l : Launch} {D : va_G} {b0 : Nat} {ad : Nat → Nat} {Hb : Heap} {tau : Nat → Int64} {d n s : Nat} {S : Nat → xS} {Z : xZ} {h : mx_H} {Post : mx_R → Prop} (hx : XH n s S Z h) (hG : GI n S Z)   (hP : ∀ (Z' : xZ) (h' : mx_H), XH n s S Z' h' → GI n S Z' → fr' [(62, (-1)), (64, (-1)), (65, (-1)), (73, (-1))] Z Z' → (ai 73 Z' (19 * Z 56 18) (-1) (Z 56 18 - 1) = 1) → Post (none, h')) : mx_J (tB l D b0 ad Hb tau) mt_235 (d + 5) 0 [some (.ref 56), none, none] [] h Post := by
    have a56 : 56 < n := lt83 (GI_n hG) rfl
    have s56 : S 56 = .inl (12, [0, 2, 2, 2, 2, 0, 0, 0, 0, 0, 0, 0, 0, 0, 0, 2, 2, 2, 0, 2, 2, 2, 0, 0, 2, 2, 2, 2, 2, 2, 0, 0, 2, 2, 2, 2, 2, 2, 2, 2, 2, 2]) := GI_s hG 56 rfl
    have a57 : 57 < n := lt83 (GI_n hG) rfl
    have s57 : S 57 = .inr (.int, 2886, 0) := GI_s hG 57 rfl
    have a73 : 73 < n := lt83 (GI_n hG) rfl
    have s73 : S 73 = .inr (.int, 7315, 0) := GI_s hG 73 rfl
    refine JcI (z := 0) (show mx_Sn _ _ 0 (mx_const (.int 0) 1) from sn_235 0) rfl ?_
    refine mx_J.step (ls2 := [some (.ref 56), some (xI 0), none]) (sn_235 1) (fun _ _ => rfl) ?_
    have c2 : ∀ (m1 : Nat) (w1_1 : Int) (u1_2 : Option Value) (Z2 : xZ) (h2 : mx_H), 385 - w1_1 < (m1 : Int) → 0 ≤ w1_1 ∧ w1_1 ≤ 385 → ai 73 Z2 (19 * w1_1) (-1) (Z 56 18 - 1) = 1 → XH n s S Z2 h2 → GI n S Z2 → fr' [(62, (-1)), (64, (-1)), (65, (-1)), (73, (-1))] Z Z2 → mx_J (tB l D b0 ad Hb tau) mt_235 (d + 5) 2 [some (.ref 56), some (xI w1_1), u1_2] [] h2 Post := by
      intro m1
      induction m1 with
      | zero => intro w1_1 u1_2 Z2 h2 q1 f1_0 f1_1 hx2 hG2 hf2; exact absurd q1 (by omega)
      | succ m1 ih1 =>
        intro w1_1 u1_2 Z2 h2 q1 f1_0 f1_1 hx2 hG2 hf2
        refine mx_J.step (sn_235 2) (fun _ _ => rfl) ?_
        refine mx_J.step (sn_235 3) (fun _ _ => rfl) ?_
        have b4 : 0 ≤ Z 56 18 ∧ Z 56 18 ≤ 385 := hG.pr 56 18
        refine JgetI (g := 18) (z := Z 56 18) hx2 (show mx_Sn _ _ 4 (mx_getf 12 18 7) from sn_235 4) a56 s56 rfl rfl (hf2 56 18 rfl) ?_
        refine Jicmp_ge (show mx_Sn _ _ 7 (mx_icmp_ge 67 10) from sn_235 7) (by omega) (by omega) (fun q5 => ?_) (fun q5 => ?_)
        · skip
          have af : ai 73 Z2 (19 * Z 56 18) (-1) (Z 56 18 - 1) = 1 := ai_m (len := 19 * w1_1) (by assumption) (by omega) (by omega) (by omega)
          have eq6 : Z2 56 18 = Z 56 18 := (hf2 56 18 rfl)
          exact mx_J.ret (sn_235 67) (fun _ _ => rfl) (hP Z2 h2 hx2 hG2 (fr_tr (M := [(62, (-1)), (64, (-1)), (65, (-1)), (73, (-1))]) fr_rf (hf2) (M1 := []) rfl rfl) (by omega))
        · skip
          refine JcI (z := 0) (show mx_Sn _ _ 10 (mx_const (.int 0) 11) from sn_235 10) rfl ?_
          refine mx_J.step (ls2 := [some (.ref 56), some (xI w1_1), some (xI 0)]) (sn_235 11) (fun _ _ => rfl) ?_
          have c12 : ∀ (m7 : Nat) (w7_2 : Int) (Z8 : xZ) (h8 : mx_H), 19 - w7_2 < (m7 : Int) → 0 ≤ w7_2 ∧ w7_2 ≤ 19 → ai 73 Z8 (19 * w1_1 + w7_2) (-1) (Z 56 18 - 1) = 1 → XH n s S Z8 h8 → GI n S Z8 → fr' [(62, (-1)), (64, (-1)), (65, (-1)), (73, (-1))] Z2 Z8 → mx_J (tB l D b0 ad Hb tau) mt_235 (d + 5) 12 [some (.ref 56), some (xI w1_1), some (xI w7_2)] [] h8 Post := by
            intro m7
            induction m7 with
            | zero => intro w7_2 Z8 h8 q7 f7_0 f7_1 hx8 hG8 hf8; exact absurd q7 (by omega)
            | succ m7 ih7 =>
              intro w7_2 Z8 h8 q7 f7_0 f7_1 hx8 hG8 hf8
              refine mx_J.step (sn_235 12) (fun _ _ => rfl) ?_
              refine JcI (z := 19) (show mx_Sn _ _ 13 (mx_const (.int 19) 15) from sn_235 13) rfl ?_
              refine Jicmp_ge (show mx_Sn _ _ 15 (mx_icmp_ge 61 18) from sn_235 15) (by omega) (by omega) (fun q9 => ?_) (fun q9 => ?_)
              · skip
                have as2 : ai 73 Z8 (19 * (w1_1 + 1)) (-1) (Z 56 18 - 1) = 1 := ai_m (len := 19 * w1_1 + w7_2) (by assumption) (by omega) (by omega) (by omega)
                refine Jiinc (z := w1_1) (cz := 1) (ls2 := [some (.ref 56), some (xI (w1_1 + 1)), some (xI w7_2)]) (show mx_Sn _ _ 61 (mx_iinc 1 1 64) from sn_235 61) rfl rfl rfl rfl ?_
                refine mx_J.step (sn_235 64) (fun _ _ => rfl) ?_
                exact ih1 (w1_1 + 1) (some (xI w7_2)) Z8 h8 (by omega) (by omega) (by first | exact ai_0 (by omega) | assumption) hx8 hG8 (fr_tr (M := [(62, (-1)), (64, (-1)), (65, (-1)), (73, (-1))]) (fr_tr (M := [(62, (-1)), (64, (-1)), (65, (-1)), (73, (-1))]) fr_rf (hf2) (M1 := []) rfl rfl) (hf8) rfl rfl)
              · skip
                refine mx_J.step (sn_235 18) (fun _ _ => rfl) ?_
                refine JgetR (g := 32) (b := 73) hx8 (show mx_Sn _ _ 19 (mx_getf 12 32 22) from sn_235 19) a56 s56 rfl rfl (hG8.prr 56 32 rfl) ?_
                refine JcI (z := 19) (show mx_Sn _ _ 22 (mx_const (.int 19) 24) from sn_235 22) rfl ?_
                refine mx_J.step (sn_235 24) (fun _ _ => rfl) ?_
                refine Jimul (show mx_Sn _ _ 25 (mx_imul 26) from sn_235 25) ?_
                refine mx_J.step (sn_235 26) (fun _ _ => rfl) ?_
                refine Jiadd (show mx_Sn _ _ 27 (mx_iadd 28) from sn_235 27) ?_
                refine mx_J.step (sn_235 28) (fun _ _ => rfl) ?_
                refine mx_J.step (sn_235 29) (fun _ _ => rfl) ?_
                refine mx_J.step (sn_235 30) (fun _ _ => rfl) ?_
                have eq12 : hv Z8 w1_1 w7_2 = hv Z w1_1 w7_2 := ((hv_c (fun i => hf8 61 i rfl)).trans (hv_c (fun i => hf2 61 i rfl)))
                obtain ⟨z11, hc11, b11⟩ := ct_197_56 (d := d + 2) (l := l) (D := D) (b0 := b0) (ad := ad) (Hb := Hb) (tau := tau) hx8 hG8 (show 0 ≤ w1_1 ∧ w1_1 ≤ 384 by omega) (show (-2147483648) ≤ w7_2 ∧ w7_2 ≤ 2147483647 by omega)
                refine Jcv hx8 (show mx_Sn _ _ 31 (mx_callv 197 3 12 34) from sn_235 31) a56 s56 hc11 rfl rfl rfl ?_
                have c54 : ∀ (k13_2 : Int) (Z14 : xZ) (h14 : mx_H), (-1) ≤ k13_2 ∧ k13_2 ≤ 384 → k13_2 < Z 56 18 → XH n s S Z14 h14 → GI n S Z14 → fr' [(62, (-1)), (64, (-1)), (65, (-1))] Z8 Z14 → mx_J (tB l D b0 ad Hb tau) mt_235 (d + 5) 54 [some (.ref 56), some (xI w1_1), some (xI w7_2)] [xI k13_2, xI ((19 * w1_1) + w7_2), .ref 73] h14 Post := by
                  intro k13_2 Z14 h14 f13_0 f13_1 hx14 hG14 hf14
                  have eq15 : (ai 73) Z14 (19 * w1_1 + w7_2) (-1) (Z 56 18 - 1) = (ai 73) Z8 (19 * w1_1 + w7_2) (-1) (Z 56 18 - 1) := (ai_c (fun i => hf14 73 i rfl))
                  refine JiastI hx14 (show mx_Sn _ _ 54 (mx_iast 1 55) from sn_235 54) a73 s73 rfl (by omega) (fun Z16 h16 hx16 hE16 => ?_)
                  have hG16 := GI_up hG14 hE16 (show (-1) ≤ k13_2 ∧ k13_2 ≤ 384 by omega) trivial rfl
                  have as1 : ai 73 Z16 (19 * w1_1 + (w7_2 + 1)) (-1) (Z 56 18 - 1) = 1 := ai_s (Z := Z14) (len := 19 * w1_1 + w7_2) (by omega) hE16 rfl (by omega) (by omega)
                  refine Jiinc (z := w7_2) (cz := 1) (ls2 := [some (.ref 56), some (xI w1_1), some (xI (w7_2 + 1))]) (show mx_Sn _ _ 55 (mx_iinc 2 1 58) from sn_235 55) rfl rfl rfl rfl ?_
                  refine mx_J.step (sn_235 58) (fun _ _ => rfl) ?_
                  exact ih7 (w7_2 + 1) Z16 h16 (by omega) (by omega) (by first | assumption | exact ai_m (len := 19 * w1_1) (by assumption) (by omega) (by omega) (by omega)) hx16 hG16 (fr_tr (M := [(62, (-1)), (64, (-1)), (65, (-1)), (73, (-1))]) (fr_tr (M := [(62, (-1)), (64, (-1)), (65, (-1)), (73, (-1))]) (fr_tr (M := [(62, (-1)), (64, (-1)), (65, (-1)), (73, (-1))]) fr_rf (hf8) (M1 := []) rfl rfl) (hf14) rfl rfl) (fr_ua hE16) rfl rfl)
                refine Jif_eq (show mx_Sn _ _ 34 (mx_if_eq 53 37) from sn_235 34) (by omega) (fun q17 => ?_) (fun q17 => ?_)
                · skip
                  refine JcI (z := (-1)) (show mx_Sn _ _ 53 (mx_const (.int (-1)) 54) from sn_235 53) rfl ?_
                  exact c54 (-1) Z8 h8 (by omega) (by omega) hx8 hG8 fr_rf
                · skip
                  refine mx_J.step (sn_235 37) (fun _ _ => rfl) ?_
                  refine mx_J.step (sn_235 38) (fun _ _ => rfl) ?_
                  refine mx_J.step (sn_235 39) (fun _ _ => rfl) ?_
                  refine mx_J.step (sn_235 40) (fun _ _ => rfl) ?_
                  refine JgetR (g := 1) (b := 57) hx8 (show mx_Sn _ _ 41 (mx_getf 12 1 44) from sn_235 41) a56 s56 rfl rfl (hG8.prr 56 1 rfl) ?_
                  refine JcI (z := 28) (show mx_Sn _ _ 44 (mx_const (.int 28) 46) from sn_235 44) rfl ?_
                  have b19 : 0 ≤ Z 57 28 ∧ Z 57 28 ≤ 9 := by have hq := GI_ex hG 57 28; replace hq : f57 (28 % 962) (Z 57 28) := hq; unfold f57 at hq; omega
                  have b20 : (-2147483648) ≤ Z 57 28 ∧ Z 57 28 ≤ 2147483647 := hG.pr 57 28
                  refine JialdI (z := Z 57 28) hx8 (show mx_Sn _ _ 46 (mx_iald 47) from sn_235 46) a57 s57 (by omega) ((hf8 57 28 rfl).trans (hf2 57 28 rfl)) ?_
                  have eq22 : Z8 56 18 = Z 56 18 := ((hf8 56 18 rfl).trans (hf2 56 18 rfl))
                  obtain ⟨z21, Z21, h21, hc21, hx21, hG21, hf21, b21⟩ := ct_198_56 (d := d + 0) (l := l) (D := D) (b0 := b0) (ad := ad) (Hb := Hb) (tau := tau) hx8 hG8 (show 0 ≤ w1_1 ∧ w1_1 ≤ 384 by omega) (show (-2147483648) ≤ w7_2 ∧ w7_2 ≤ 2147483647 by omega) (show 0 ≤ Z 57 28 ∧ Z 57 28 ≤ 9 by omega)
                  try rw [eq22] at b21
                  refine Jcv hx8 (show mx_Sn _ _ 47 (mx_callv 198 4 12 50) from sn_235 47) a56 s56 hc21 rfl rfl rfl ?_
                  refine mx_J.step (sn_235 50) (fun _ _ => rfl) ?_
                  exact c54 z21 Z21 h21 (by omega) (by omega) hx21 hG21 (fr_tr (M := [(62, (-1)), (64, (-1)), (65, (-1))]) fr_rf (hf21) (M1 := []) rfl rfl)
          exact c12 (Int.toNat (19 - 0) + 1) 0 Z2 h2 (by omega) (by omega) (by first | assumption | exact ai_m (len := 19 * w1_1) (by assumption) (by omega) (by omega) (by omega)) hx2 hG2 fr_rf
    exact c2 (Int.toNat (385 - 0) + 1) 0 none Z h (by omega) (by omega) (by first | exact ai_0 (by omega) | assumption) hx hG fr_rf
theorem ct_235_56 {l : Launch} {D : va_G} {b0 : Nat} {ad : Nat → Nat} {Hb : Heap} {tau : Nat → Int64} {d n s : Nat} {S : Nat → xS} {Z : xZ} {h : mx_H} (hx : XH n s S Z h) (hG : GI n S Z)   : ∃ (Z' : xZ) (h' : mx_H), mx_Ca (tB l D b0 ad Hb tau) (d + 6) 235 [.ref 56] h (none, h') ∧ XH n s S Z' h' ∧ GI n S Z' ∧ fr' [(62, (-1)), (64, (-1)), (65, (-1)), (73, (-1))] Z Z' ∧ ((ai 73 Z' (19 * Z 56 18) (-1) (Z 56 18 - 1) = 1)) := by
  obtain ⟨r, hca, Z', h', e, q⟩ := Jmt (B := tB l D b0 ad Hb tau) (M := mt_235) (mi := 235) (as := [.ref 56]) (d := d + 5) (ls := [some (.ref 56), none, none]) rfl rfl rfl rfl rfl rfl (cw_235_56 (l := l) (D := D) (b0 := b0) (ad := ad) (Hb := Hb) (tau := tau) (d := d) (Post := fun r => ∃ (Z' : xZ) (h' : mx_H), r = (none, h') ∧ XH n s S Z' h' ∧ GI n S Z' ∧ fr' [(62, (-1)), (64, (-1)), (65, (-1)), (73, (-1))] Z Z' ∧ ((ai 73 Z' (19 * Z 56 18) (-1) (Z 56 18 - 1) = 1))) hx hG  (fun Z' h' q1 q2 q3 q4 => ⟨Z', h', rfl, q1, q2, q3, q4⟩))
  subst e; exact ⟨Z', h', hca, q⟩
set_option maxRecDepth 100000 in
theorem cw_237_56 {l : Launch} {D : va_G} {b0 : Nat} {ad : Nat → Nat} {Hb : Heap} {tau : Nat → Int64} {d n s : Nat} {S : Nat → xS} {Z : xZ} {h : mx_H} {Post : mx_R → Prop} (hx : XH n s S Z h) (hG : GI n S Z)  {x0 : Int} (p0 : 0 ≤ x0 ∧ x0 ≤ 384) (hP : ∀ (z : Int) (Z' : xZ) (h' : mx_H), XH n s S Z' h' → GI n S Z' → fr' [(62, (-1)), (64, (-1)), (65, (-1)), (73, (-1)), (74, (-1))] Z Z' → 0 ≤ z ∧ z ≤ 268435456 ∧ (fu Z' (Z 56 18) = 1 ∧ fl' Z' (Z 56 18) 0 = 1 ∧ ai 73 Z' (19 * Z 56 18) (-1) (Z 56 18 - 1) = 1) → Post (some (xI z), h')) : mx_J (tB l D b0 ad Hb tau) mt_237 (d + 6) 0 [some (.ref 56), some (xI x0), none, none, none] [] h Post := by
    have a56 : 56 < n := lt83 (GI_n hG) rfl
    have s56 : S 56 = .inl (12, [0, 2, 2, 2, 2, 0, 0, 0, 0, 0, 0, 0, 0, 0, 0, 2, 2, 2, 0, 2, 2, 2, 0, 0, 2, 2, 2, 2, 2, 2, 0, 0, 2, 2, 2, 2, 2, 2, 2, 2, 2, 2]) := GI_s hG 56 rfl
    have a57 : 57 < n := lt83 (GI_n hG) rfl
    have s57 : S 57 = .inr (.int, 2886, 0) := GI_s hG 57 rfl
    have a74 : 74 < n := lt83 (GI_n hG) rfl
    have s74 : S 74 = .inr (.int, 385, 0) := GI_s hG 74 rfl
    refine mx_J.step (sn_237 0) (fun _ _ => rfl) ?_
    have b2 : 0 ≤ Z 56 18 ∧ Z 56 18 ≤ 385 := hG.pr 56 18
    obtain ⟨Z1, h1, hc1, hx1, hG1, hf1, b1⟩ := ct_235_56 (d := d + 0) (l := l) (D := D) (b0 := b0) (ad := ad) (Hb := Hb) (tau := tau) hx hG 
    refine Jcv0 hx (show mx_Sn _ _ 1 (mx_callv 235 1 12 4) from sn_237 1) a56 s56 hc1 rfl rfl rfl ?_
    refine JcI (z := 0) (show mx_Sn _ _ 4 (mx_const (.int 0) 5) from sn_237 4) rfl ?_
    refine mx_J.step (ls2 := [some (.ref 56), some (xI x0), some (xI 0), none, none]) (sn_237 5) (fun _ _ => rfl) ?_
    have c6 : ∀ (m3 : Nat) (w3_2 : Int) (Z4 : xZ) (h4 : mx_H), 385 - w3_2 < (m3 : Int) → 0 ≤ w3_2 ∧ w3_2 ≤ 385 → (∀ i, 0 ≤ i → i < w3_2 → (Z4 74 i = 0 ∨ Z4 74 i = 268435456)) → XH n s S Z4 h4 → GI n S Z4 → fr' [(74, (-1))] Z1 Z4 → mx_J (tB l D b0 ad Hb tau) mt_237 (d + 6) 6 [some (.ref 56), some (xI x0), some (xI w3_2), none, none] [] h4 Post := by
      intro m3
      induction m3 with
      | zero => intro w3_2 Z4 h4 q3 f3_0 f3_1 hx4 hG4 hf4; exact absurd q3 (by omega)
      | succ m3 ih3 =>
        intro w3_2 Z4 h4 q3 f3_0 f3_1 hx4 hG4 hf4
        refine mx_J.step (sn_237 6) (fun _ _ => rfl) ?_
        refine mx_J.step (sn_237 7) (fun _ _ => rfl) ?_
        refine JgetI (g := 18) (z := Z 56 18) hx4 (show mx_Sn _ _ 8 (mx_getf 12 18 11) from sn_237 8) a56 s56 rfl rfl ((hf4 56 18 rfl).trans (hf1 56 18 rfl)) ?_
        refine Jicmp_ge (show mx_Sn _ _ 11 (mx_icmp_ge 38 14) from sn_237 11) (by omega) (by omega) (fun q6 => ?_) (fun q6 => ?_)
        · skip
          have fz : fu Z4 (Z 56 18) = 1 := fu_0 (len := w3_2) (by omega) (by assumption)
          refine JcI (z := 1) (show mx_Sn _ _ 38 (mx_const (.int 1) 39) from sn_237 38) rfl ?_
          refine mx_J.step (ls2 := [some (.ref 56), some (xI x0), some (xI 1), none, none]) (sn_237 39) (fun _ _ => rfl) ?_
          have c40 : ∀ (m7 : Nat) (w7_2 : Int) (u7_3 : Option Value) (u7_4 : Option Value) (Z8 : xZ) (h8 : mx_H), (((sn 74 Z8 (Z 56 18) + w7_2).toNat : Nat) : Int) < (m7 : Int) → 0 ≤ w7_2 ∧ w7_2 ≤ 1 → fu Z8 (Z 56 18) = 1 → (w7_2 = 0 → fl' Z8 (Z 56 18) 0 = 1) → XH n s S Z8 h8 → GI n S Z8 → fr' [(74, (-1))] Z4 Z8 → mx_J (tB l D b0 ad Hb tau) mt_237 (d + 6) 40 [some (.ref 56), some (xI x0), some (xI w7_2), u7_3, u7_4] [] h8 Post := by
            intro m7
            induction m7 with
            | zero => intro w7_2 u7_3 u7_4 Z8 h8 q7 f7_0 f7_1 f7_2 hx8 hG8 hf8; exact absurd q7 (by omega)
            | succ m7 ih7 =>
              intro w7_2 u7_3 u7_4 Z8 h8 q7 f7_0 f7_1 f7_2 hx8 hG8 hf8
              have sp := sn_p (Z := Z8) (c := 74) (m := Z 56 18) (fun i => (hG8.pr 74 i).1)
              refine mx_J.step (sn_237 40) (fun _ _ => rfl) ?_
              refine Jif_eq (show mx_Sn _ _ 41 (mx_if_eq 115 44) from sn_237 41) (by omega) (fun q9 => ?_) (fun q9 => ?_)
              · skip
                refine mx_J.step (sn_237 115) (fun _ _ => rfl) ?_
                refine JgetR (g := 33) (b := 74) hx8 (show mx_Sn _ _ 116 (mx_getf 12 33 119) from sn_237 116) a56 s56 rfl rfl (hG8.prr 56 33 rfl) ?_
                refine mx_J.step (sn_237 119) (fun _ _ => rfl) ?_
                refine JgetR (g := 1) (b := 57) hx8 (show mx_Sn _ _ 120 (mx_getf 12 1 123) from sn_237 120) a56 s56 rfl rfl (hG8.prr 56 1 rfl) ?_
                refine JcI (z := 27) (show mx_Sn _ _ 123 (mx_const (.int 27) 125) from sn_237 123) rfl ?_
                have b12 := GI_st hG 27
                have b13 : 0 ≤ Z 57 27 ∧ Z 57 27 ≤ 384 := by have hq := GI_ex hG 57 27; replace hq : f57 (27 % 962) (Z 57 27) := hq; unfold f57 at hq; omega
                have b14 : (-2147483648) ≤ Z 57 27 ∧ Z 57 27 ≤ 2147483647 := hG.pr 57 27
                refine JialdI (z := Z 57 27) hx8 (show mx_Sn _ _ 125 (mx_iald 126) from sn_237 125) a57 s57 (by omega) ((hf8 57 27 rfl).trans ((hf4 57 27 rfl).trans (hf1 57 27 rfl))) ?_
                have b15 : 0 ≤ Z8 74 (Z 57 27) ∧ Z8 74 (Z 57 27) ≤ 268435456 := hG8.pr 74 (Z 57 27)
                refine JialdI (z := Z8 74 (Z 57 27)) hx8 (show mx_Sn _ _ 126 (mx_iald 127) from sn_237 126) a74 s74 (by omega) rfl ?_
                have eq16 : (ai 73) Z8 (19 * Z 56 18) (-1) (Z 56 18 - 1) = (ai 73) Z1 (19 * Z 56 18) (-1) (Z 56 18 - 1) := ((ai_c (fun i => hf8 73 i rfl)).trans (ai_c (fun i => hf4 73 i rfl)))
                have eq17 : Z8 56 18 = Z 56 18 := ((hf8 56 18 rfl).trans ((hf4 56 18 rfl).trans (hf1 56 18 rfl)))
                exact mx_J.ret (sn_237 127) (fun _ _ => rfl) (hP (Z8 74 (Z 57 27)) Z8 h8 hx8 hG8 (fr_tr (M := [(62, (-1)), (64, (-1)), (65, (-1)), (73, (-1)), (74, (-1))]) (fr_tr (M := [(62, (-1)), (64, (-1)), (65, (-1)), (73, (-1)), (74, (-1))]) (fr_tr (M := [(62, (-1)), (64, (-1)), (65, (-1)), (73, (-1)), (74, (-1))]) fr_rf (hf1) (M1 := []) rfl rfl) (hf4) rfl rfl) (hf8) rfl rfl) (by omega))
              · skip
                refine JcI (z := 0) (show mx_Sn _ _ 44 (mx_const (.int 0) 45) from sn_237 44) rfl ?_
                refine mx_J.step (ls2 := [some (.ref 56), some (xI x0), some (xI 0), u7_3, u7_4]) (sn_237 45) (fun _ _ => rfl) ?_
                refine JcI (z := 0) (show mx_Sn _ _ 46 (mx_const (.int 0) 47) from sn_237 46) rfl ?_
                refine mx_J.step (ls2 := [some (.ref 56), some (xI x0), some (xI 0), some (xI 0), u7_4]) (sn_237 47) (fun _ _ => rfl) ?_
                have c48 : ∀ (m18 : Nat) (w18_2 : Int) (w18_3 : Int) (u18_4 : Option Value) (Z19 : xZ) (h19 : mx_H), 385 - w18_3 < (m18 : Int) → 0 ≤ w18_2 ∧ w18_2 ≤ 1 → 0 ≤ w18_3 ∧ w18_3 ≤ 385 → fu Z19 (Z 56 18) = 1 → (sn 74 Z19 (Z 56 18) ≤ sn 74 Z8 (Z 56 18) ∧ (w18_2 = 1 → sn 74 Z19 (Z 56 18) < sn 74 Z8 (Z 56 18))) → (w18_2 = 0 → fl' Z19 w18_3 0 = 1) → XH n s S Z19 h19 → GI n S Z19 → fr' [(74, (-1))] Z8 Z19 → mx_J (tB l D b0 ad Hb tau) mt_237 (d + 6) 48 [some (.ref 56), some (xI x0), some (xI w18_2), some (xI w18_3), u18_4] [] h19 Post := by
                  intro m18
                  induction m18 with
                  | zero => intro w18_2 w18_3 u18_4 Z19 h19 q18 f18_0 f18_1 f18_2 f18_3 f18_4 hx19 hG19 hf19; exact absurd q18 (by omega)
                  | succ m18 ih18 =>
                    intro w18_2 w18_3 u18_4 Z19 h19 q18 f18_0 f18_1 f18_2 f18_3 f18_4 hx19 hG19 hf19
                    refine mx_J.step (sn_237 48) (fun _ _ => rfl) ?_
                    refine mx_J.step (sn_237 49) (fun _ _ => rfl) ?_
                    refine JgetI (g := 18) (z := Z 56 18) hx19 (show mx_Sn _ _ 50 (mx_getf 12 18 53) from sn_237 50) a56 s56 rfl rfl ((hf19 56 18 rfl).trans ((hf8 56 18 rfl).trans ((hf4 56 18 rfl).trans (hf1 56 18 rfl)))) ?_
                    refine Jicmp_ge (show mx_Sn _ _ 53 (mx_icmp_ge 112 56) from sn_237 53) (by omega) (by omega) (fun q21 => ?_) (fun q21 => ?_)
                    · skip
                      have fm : w18_2 = 0 → fl' Z19 (Z 56 18) 0 = 1 := fun e => fl_m (s := w18_3) (d := 0) (by omega) (by omega) (by omega)
                      refine mx_J.step (sn_237 112) (fun _ _ => rfl) ?_
                      exact ih7 w18_2 (some (xI w18_3)) u18_4 Z19 h19 (by omega) (by omega) (by omega) (by omega) hx19 hG19 (fr_tr (M := [(74, (-1))]) (fr_tr (M := [(74, (-1))]) fr_rf (hf8) (M1 := []) rfl rfl) (hf19) rfl rfl)
                    · skip
                      refine JcI (z := 0) (show mx_Sn _ _ 56 (mx_const (.int 0) 57) from sn_237 56) rfl ?_
                      refine mx_J.step (ls2 := [some (.ref 56), some (xI x0), some (xI w18_2), some (xI w18_3), some (xI 0)]) (sn_237 57) (fun _ _ => rfl) ?_
                      have c59 : ∀ (m22 : Nat) (w22_2 : Int) (w22_4 : Int) (Z23 : xZ) (h23 : mx_H), 19 - w22_4 < (m22 : Int) → 0 ≤ w22_2 ∧ w22_2 ≤ 1 → 0 ≤ w22_4 ∧ w22_4 ≤ 19 → fu Z23 (Z 56 18) = 1 → (sn 74 Z23 (Z 56 18) ≤ sn 74 Z8 (Z 56 18) ∧ (w22_2 = 1 → sn 74 Z23 (Z 56 18) < sn 74 Z8 (Z 56 18))) → (w22_2 = 0 → fl' Z23 w18_3 w22_4 = 1) → XH n s S Z23 h23 → GI n S Z23 → fr' [(74, (-1))] Z19 Z23 → mx_J (tB l D b0 ad Hb tau) mt_237 (d + 6) 59 [some (.ref 56), some (xI x0), some (xI w22_2), some (xI w18_3), some (xI w22_4)] [] h23 Post := by
                        intro m22
                        induction m22 with
                        | zero => intro w22_2 w22_4 Z23 h23 q22 f22_0 f22_1 f22_2 f22_3 f22_4 hx23 hG23 hf23; exact absurd q22 (by omega)
                        | succ m22 ih22 =>
                          intro w22_2 w22_4 Z23 h23 q22 f22_0 f22_1 f22_2 f22_3 f22_4 hx23 hG23 hf23
                          refine mx_J.step (sn_237 59) (fun _ _ => rfl) ?_
                          refine JcI (z := 19) (show mx_Sn _ _ 61 (mx_const (.int 19) 63) from sn_237 61) rfl ?_
                          refine Jicmp_ge (show mx_Sn _ _ 63 (mx_icmp_ge 106 66) from sn_237 63) (by omega) (by omega) (fun q24 => ?_) (fun q24 => ?_)
                          · skip
                            have fn : w22_2 = 0 → fl' Z23 (w18_3 + 1) 0 = 1 := fun e => fl_n (d := w22_4) (by omega) (by omega) rfl
                            refine Jiinc (z := w18_3) (cz := 1) (ls2 := [some (.ref 56), some (xI x0), some (xI w22_2), some (xI (w18_3 + 1)), some (xI w22_4)]) (show mx_Sn _ _ 106 (mx_iinc 3 1 109) from sn_237 106) rfl rfl rfl rfl ?_
                            refine mx_J.step (sn_237 109) (fun _ _ => rfl) ?_
                            exact ih18 w22_2 (w18_3 + 1) (some (xI w22_4)) Z23 h23 (by omega) (by omega) (by omega) (by omega) (by omega) (by first | exact (fun _ => fl_0 (by omega) (by omega)) | omega) hx23 hG23 (fr_tr (M := [(74, (-1))]) (fr_tr (M := [(74, (-1))]) fr_rf (hf19) (M1 := []) rfl rfl) (hf23) rfl rfl)
                          · skip
                            refine mx_J.step (sn_237 66) (fun _ _ => rfl) ?_
                            refine mx_J.step (sn_237 67) (fun _ _ => rfl) ?_
                            refine mx_J.step (sn_237 68) (fun _ _ => rfl) ?_
                            obtain ⟨z25, hc25, b25⟩ := ct_236_56 (d := d + 5) (l := l) (D := D) (b0 := b0) (ad := ad) (Hb := Hb) (tau := tau) hx23 hG23 (show 0 ≤ w18_3 ∧ w18_3 ≤ 384 by omega) (show 0 ≤ w22_4 ∧ w22_4 ≤ 18 by omega)
                            refine Jcv hx23 (show mx_Sn _ _ 70 (mx_callv 236 3 12 73) from sn_237 70) a56 s56 hc25 rfl rfl rfl ?_
                            refine mx_J.step (sn_237 73) (fun _ _ => rfl) ?_
                            refine JgetR (g := 33) (b := 74) hx23 (show mx_Sn _ _ 74 (mx_getf 12 33 77) from sn_237 74) a56 s56 rfl rfl (hG23.prr 56 33 rfl) ?_
                            refine mx_J.step (sn_237 77) (fun _ _ => rfl) ?_
                            have b27 : 0 ≤ Z23 74 w18_3 ∧ Z23 74 w18_3 ≤ 268435456 := hG23.pr 74 w18_3
                            refine JialdI (z := Z23 74 w18_3) hx23 (show mx_Sn _ _ 78 (mx_iald 79) from sn_237 78) a74 s74 (by omega) rfl ?_
                            have c100 : ∀ (w28_2 : Int) (Z29 : xZ) (h29 : mx_H), 0 ≤ w28_2 ∧ w28_2 ≤ 1 → fu Z29 (Z 56 18) = 1 → (sn 74 Z29 (Z 56 18) ≤ sn 74 Z8 (Z 56 18) ∧ (w28_2 = 1 → sn 74 Z29 (Z 56 18) < sn 74 Z8 (Z 56 18))) → (w28_2 = 0 → fl' Z29 w18_3 (w22_4 + 1) = 1) → XH n s S Z29 h29 → GI n S Z29 → fr' [(74, (-1))] Z23 Z29 → mx_J (tB l D b0 ad Hb tau) mt_237 (d + 6) 100 [some (.ref 56), some (xI x0), some (xI w28_2), some (xI w18_3), some (xI w22_4)] [] h29 Post := by
                              intro w28_2 Z29 h29 f28_0 f28_1 f28_2 f28_3 hx29 hG29 hf29
                              refine Jiinc (z := w22_4) (cz := 1) (ls2 := [some (.ref 56), some (xI x0), some (xI w28_2), some (xI w18_3), some (xI (w22_4 + 1))]) (show mx_Sn _ _ 100 (mx_iinc 4 1 103) from sn_237 100) rfl rfl rfl rfl ?_
                              refine mx_J.step (sn_237 103) (fun _ _ => rfl) ?_
                              exact ih22 w28_2 (w22_4 + 1) Z29 h29 (by omega) (by omega) (by omega) (by omega) (by omega) (by omega) hx29 hG29 (fr_tr (M := [(74, (-1))]) (fr_tr (M := [(74, (-1))]) fr_rf (hf23) (M1 := []) rfl rfl) (hf29) rfl rfl)
                            refine Jicmp_lt (show mx_Sn _ _ 79 (mx_icmp_lt 85 82) from sn_237 79) (by omega) (by omega) (fun q30 => ?_) (fun q30 => ?_)
                            · skip
                              refine mx_J.step (sn_237 85) (fun _ _ => rfl) ?_
                              refine JgetR (g := 33) (b := 74) hx23 (show mx_Sn _ _ 86 (mx_getf 12 33 89) from sn_237 86) a56 s56 rfl rfl (hG23.prr 56 33 rfl) ?_
                              refine mx_J.step (sn_237 89) (fun _ _ => rfl) ?_
                              refine mx_J.step (sn_237 90) (fun _ _ => rfl) ?_
                              refine mx_J.step (sn_237 91) (fun _ _ => rfl) ?_
                              refine mx_J.step (sn_237 92) (fun _ _ => rfl) ?_
                              obtain ⟨z32, hc32, b32⟩ := ct_236_56 (d := d + 5) (l := l) (D := D) (b0 := b0) (ad := ad) (Hb := Hb) (tau := tau) hx23 hG23 (show 0 ≤ w18_3 ∧ w18_3 ≤ 384 by omega) (show 0 ≤ w22_4 ∧ w22_4 ≤ 18 by omega)
                              refine Jcv hx23 (show mx_Sn _ _ 94 (mx_callv 236 3 12 97) from sn_237 94) a56 s56 hc32 rfl rfl rfl ?_
                              refine JiastI hx23 (show mx_Sn _ _ 97 (mx_iast 1 98) from sn_237 97) a74 s74 rfl (by omega) (fun Z33 h33 hx33 hE33 => ?_)
                              have hG33 := GI_up hG23 hE33 (show 0 ≤ z32 ∧ z32 ≤ 268435456 by omega) trivial rfl
                              have fq := fu_u (Z := Z23) (Z2 := Z33) (m := Z 56 18) (s := w18_3) (d := w22_4) (by omega) (by have e9 : fb Z23 w18_3 w22_4 = z32 := (by omega); rw [e9]; first | done | exact hE33) (by omega) (by omega) (by omega) (fun i => hG23.pr 74 i)
                              have sq := sn_u (m := Z 56 18) hE33 (by omega)
                              refine JcI (z := 1) (show mx_Sn _ _ 98 (mx_const (.int 1) 99) from sn_237 98) rfl ?_
                              refine mx_J.step (ls2 := [some (.ref 56), some (xI x0), some (xI 1), some (xI w18_3), some (xI w22_4)]) (sn_237 99) (fun _ _ => rfl) ?_
                              exact c100 1 Z33 h33 (by omega) (by omega) (by omega) (by omega) hx33 hG33 (fr_tr (M := [(74, (-1))]) fr_rf (fr_ua hE33) (M1 := []) rfl rfl)
                            · skip
                              have fs : w22_2 = 0 → fl' Z23 w18_3 (w22_4 + 1) = 1 := fun e => fl_s (d := w22_4) (by omega) (by omega) rfl
                              refine mx_J.step (sn_237 82) (fun _ _ => rfl) ?_
                              exact c100 w22_2 Z23 h23 (by omega) (by omega) (by omega) (by omega) hx23 hG23 fr_rf
                      exact c59 (Int.toNat (19 - 0) + 1) w18_2 0 Z19 h19 (by omega) (by omega) (by omega) (by omega) (by omega) (by omega) hx19 hG19 fr_rf
                exact c48 (Int.toNat (385 - 0) + 1) 0 0 u7_4 Z8 h8 (by omega) (by omega) (by omega) (by omega) (by omega) (by first | exact (fun _ => fl_0 (by omega) (by omega)) | omega) hx8 hG8 fr_rf
          exact c40 (Int.toNat ((((sn 74 Z4 (Z 56 18) + 1).toNat : Nat) : Int)) + 1) 1 none none Z4 h4 (by omega) (by omega) (by omega) (by omega) hx4 hG4 fr_rf
        · skip
          refine mx_J.step (sn_237 14) (fun _ _ => rfl) ?_
          refine JgetR (g := 33) (b := 74) hx4 (show mx_Sn _ _ 15 (mx_getf 12 33 18) from sn_237 15) a56 s56 rfl rfl (hG4.prr 56 33 rfl) ?_
          refine mx_J.step (sn_237 18) (fun _ _ => rfl) ?_
          refine mx_J.step (sn_237 19) (fun _ _ => rfl) ?_
          refine mx_J.step (sn_237 20) (fun _ _ => rfl) ?_
          have c31 : ∀ (k35_2 : Int), 0 ≤ k35_2 ∧ k35_2 ≤ 268435456 → (k35_2 = 0 ∨ k35_2 = 268435456) → mx_J (tB l D b0 ad Hb tau) mt_237 (d + 6) 31 [some (.ref 56), some (xI x0), some (xI w3_2), none, none] [xI k35_2, xI w3_2, .ref 74] h4 Post := by
            intro k35_2 f35_0 f35_1
            refine JiastI hx4 (show mx_Sn _ _ 31 (mx_iast 1 32) from sn_237 31) a74 s74 rfl (by omega) (fun Z36 h36 hx36 hE36 => ?_)
            have hG36 := GI_up hG4 hE36 (show 0 ≤ k35_2 ∧ k35_2 ≤ 268435456 by omega) trivial rfl
            have f0 : (∀ i, 0 ≤ i → i < (w3_2 + 1) → (Z36 74 i = 0 ∨ Z36 74 i = 268435456)) := fun i i0 i1 => if hi : i = w3_2 then (by rw [hi, up_at hE36]; omega) else (by rw [up_ni hE36 hi]; exact (by assumption : (∀ i, 0 ≤ i → i < w3_2 → (Z4 74 i = 0 ∨ Z4 74 i = 268435456))) i i0 (by omega))
            refine Jiinc (z := w3_2) (cz := 1) (ls2 := [some (.ref 56), some (xI x0), some (xI (w3_2 + 1)), none, none]) (show mx_Sn _ _ 32 (mx_iinc 2 1 35) from sn_237 32) rfl rfl rfl rfl ?_
            refine mx_J.step (sn_237 35) (fun _ _ => rfl) ?_
            exact ih3 (w3_2 + 1) Z36 h36 (by omega) (by omega) (by first | exact (fun i i0 i1 => absurd i1 (by omega)) | assumption) hx36 hG36 (fr_tr (M := [(74, (-1))]) (fr_tr (M := [(74, (-1))]) fr_rf (hf4) (M1 := []) rfl rfl) (fr_ua hE36) rfl rfl)
          refine Jicmp_ne (show mx_Sn _ _ 21 (mx_icmp_ne 28 24) from sn_237 21) (by omega) (by omega) (fun q37 => ?_) (fun q37 => ?_)
          · skip
            refine JcI (z := 268435456) (show mx_Sn _ _ 28 (mx_const (.int 268435456) 31) from sn_237 28) rfl ?_
            exact c31 268435456 (by omega) (by omega)
          · skip
            refine JcI (z := 0) (show mx_Sn _ _ 24 (mx_const (.int 0) 25) from sn_237 24) rfl ?_
            refine mx_J.step (sn_237 25) (fun _ _ => rfl) ?_
            exact c31 0 (by omega) (by omega)
    exact c6 (Int.toNat (385 - 0) + 1) 0 Z1 h1 (by omega) (by omega) (by first | exact (fun i i0 i1 => absurd i1 (by omega)) | assumption) hx1 hG1 fr_rf
theorem ct_237_56 {l : Launch} {D : va_G} {b0 : Nat} {ad : Nat → Nat} {Hb : Heap} {tau : Nat → Int64} {d n s : Nat} {S : Nat → xS} {Z : xZ} {h : mx_H} (hx : XH n s S Z h) (hG : GI n S Z)  {x0 : Int} (p0 : 0 ≤ x0 ∧ x0 ≤ 384) : ∃ (z : Int) (Z' : xZ) (h' : mx_H), mx_Ca (tB l D b0 ad Hb tau) (d + 7) 237 [.ref 56, xI x0] h (some (xI z), h') ∧ XH n s S Z' h' ∧ GI n S Z' ∧ fr' [(62, (-1)), (64, (-1)), (65, (-1)), (73, (-1)), (74, (-1))] Z Z' ∧ (0 ≤ z ∧ z ≤ 268435456 ∧ (fu Z' (Z 56 18) = 1 ∧ fl' Z' (Z 56 18) 0 = 1 ∧ ai 73 Z' (19 * Z 56 18) (-1) (Z 56 18 - 1) = 1)) := by
  obtain ⟨r, hca, z, Z', h', e, q⟩ := Jmt (B := tB l D b0 ad Hb tau) (M := mt_237) (mi := 237) (as := [.ref 56, xI x0]) (d := d + 6) (ls := [some (.ref 56), some (xI x0), none, none, none]) rfl rfl rfl rfl rfl rfl (cw_237_56 (l := l) (D := D) (b0 := b0) (ad := ad) (Hb := Hb) (tau := tau) (d := d) (Post := fun r => ∃ (z : Int) (Z' : xZ) (h' : mx_H), r = (some (xI z), h') ∧ XH n s S Z' h' ∧ GI n S Z' ∧ fr' [(62, (-1)), (64, (-1)), (65, (-1)), (73, (-1)), (74, (-1))] Z Z' ∧ (0 ≤ z ∧ z ≤ 268435456 ∧ (fu Z' (Z 56 18) = 1 ∧ fl' Z' (Z 56 18) 0 = 1 ∧ ai 73 Z' (19 * Z 56 18) (-1) (Z 56 18 - 1) = 1))) hx hG p0 (fun z Z' h' q1 q2 q3 q4 => ⟨z, Z', h', rfl, q1, q2, q3, q4⟩))
  subst e; exact ⟨z, Z', h', hca, q⟩
set_option maxRecDepth 100000 in
theorem cw_239_56 {l : Launch} {D : va_G} {b0 : Nat} {ad : Nat → Nat} {Hb : Heap} {tau : Nat → Int64} {d n s : Nat} {S : Nat → xS} {Z : xZ} {h : mx_H} {Post : mx_R → Prop} (hx : XH n s S Z h) (hG : GI n S Z)  {x0 : Int} (p0 : (-2147483648) ≤ x0 ∧ x0 ≤ 2147483647) (hP : ∀ z : Int, (-6) ≤ z ∧ z ≤ 0 ∧ (z = 0 → (0 ≤ x0 ∧ x0 ≤ 3 ∧ 1 ≤ Z 81 x0 ∧ Z 81 x0 ≤ 18)) → Post (some (xI z), h)) : mx_J (tB l D b0 ad Hb tau) mt_239 (d + 2) 0 [some (.ref 56), some (xI x0), none, none, none] [] h Post := by
    have a56 : 56 < n := lt83 (GI_n hG) rfl
    have s56 : S 56 = .inl (12, [0, 2, 2, 2, 2, 0, 0, 0, 0, 0, 0, 0, 0, 0, 0, 2, 2, 2, 0, 2, 2, 2, 0, 0, 2, 2, 2, 2, 2, 2, 0, 0, 2, 2, 2, 2, 2, 2, 2, 2, 2, 2]) := GI_s hG 56 rfl
    have a57 : 57 < n := lt83 (GI_n hG) rfl
    have s57 : S 57 = .inr (.int, 2886, 0) := GI_s hG 57 rfl
    have a81 : 81 < n := lt83 (GI_n hG) rfl
    have s81 : S 81 = .inr (.int, 4, 0) := GI_s hG 81 rfl
    have a82 : 82 < n := lt83 (GI_n hG) rfl
    have s82 : S 82 = .inr (.long, 160, 1) := GI_s hG 82 rfl
    refine mx_J.step (sn_239 0) (fun _ _ => rfl) ?_
    refine mx_J.step (sn_239 1) (fun _ _ => rfl) ?_
    have b2 : (-1) ≤ Z 80 x0 ∧ Z 80 x0 ≤ 3 := hG.pr 80 x0
    obtain ⟨z1, hc1, b1⟩ := ct_220_56 (d := d + 0) (l := l) (D := D) (b0 := b0) (ad := ad) (Hb := Hb) (tau := tau) hx hG (show (-2147483648) ≤ x0 ∧ x0 ≤ 2147483647 by omega)
    refine Jcv hx (show mx_Sn _ _ 2 (mx_callv 220 2 12 5) from sn_239 2) a56 s56 hc1 rfl rfl rfl ?_
    refine mx_J.step (ls2 := [some (.ref 56), some (xI x0), some (xI z1), none, none]) (sn_239 5) (fun _ _ => rfl) ?_
    refine mx_J.step (sn_239 6) (fun _ _ => rfl) ?_
    refine Jif_eq (show mx_Sn _ _ 7 (mx_if_eq 12 10) from sn_239 7) (by omega) (fun q3 => ?_) (fun q3 => ?_)
    · skip
      refine mx_J.step (sn_239 12) (fun _ _ => rfl) ?_
      refine JgetR (g := 40) (b := 81) hx (show mx_Sn _ _ 13 (mx_getf 12 40 16) from sn_239 13) a56 s56 rfl rfl (hG.prr 56 40 rfl) ?_
      refine mx_J.step (sn_239 16) (fun _ _ => rfl) ?_
      have b5 : 0 ≤ Z 81 x0 ∧ Z 81 x0 ≤ 40 := hG.pr 81 x0
      refine JialdI (z := Z 81 x0) hx (show mx_Sn _ _ 17 (mx_iald 18) from sn_239 17) a81 s81 (by omega) rfl ?_
      refine Ji2l (show mx_Sn _ _ 18 (mx_i2l 19) from sn_239 18) (by omega) ?_
      refine JcL (z := 1) (show mx_Sn _ _ 19 (mx_const (.long 1) 20) from sn_239 19) rfl ?_
      refine JcL (z := 18) (show mx_Sn _ _ 20 (mx_const (.long 18) 23) from sn_239 20) rfl ?_
      obtain ⟨z6, hc6, b6⟩ := ct_154_ (d := d + 1) (l := l) (D := D) (b0 := b0) (ad := ad) (Hb := Hb) (tau := tau) hx hG (show (-9223372036854775808) ≤ Z 81 x0 ∧ Z 81 x0 ≤ 9223372036854775807 by omega) (show (-9223372036854775808) ≤ 1 ∧ 1 ≤ 9223372036854775807 by omega) (show (-9223372036854775808) ≤ 18 ∧ 18 ≤ 9223372036854775807 by omega)
      refine Jcs (show mx_Sn _ _ 23 (mx_calls 154 3 26) from sn_239 23) hc6 rfl rfl rfl ?_
      refine Jif_ne (show mx_Sn _ _ 26 (mx_if_ne 32 29) from sn_239 26) (by omega) (fun q7 => ?_) (fun q7 => ?_)
      · skip
        refine JcI (z := 0) (show mx_Sn _ _ 32 (mx_const (.int 0) 33) from sn_239 32) rfl ?_
        refine mx_J.step (ls2 := [some (.ref 56), some (xI x0), some (xI z1), some (xI 0), none]) (sn_239 33) (fun _ _ => rfl) ?_
        refine JcI (z := 0) (show mx_Sn _ _ 34 (mx_const (.int 0) 35) from sn_239 34) rfl ?_
        refine mx_J.step (ls2 := [some (.ref 56), some (xI x0), some (xI z1), some (xI 0), some (xI 0)]) (sn_239 35) (fun _ _ => rfl) ?_
        have c37 : ∀ (m8 : Nat) (w8_3 : Int) (w8_4 : Int), 40 - w8_4 < (m8 : Int) → (-2147483648) ≤ w8_3 ∧ w8_3 ≤ 2147483647 → 0 ≤ w8_4 ∧ w8_4 ≤ 40 → mx_J (tB l D b0 ad Hb tau) mt_239 (d + 2) 37 [some (.ref 56), some (xI x0), some (xI z1), some (xI w8_3), some (xI w8_4)] [] h Post := by
          intro m8
          induction m8 with
          | zero => intro w8_3 w8_4 q8 f8_0 f8_1; exact absurd q8 (by omega)
          | succ m8 ih8 =>
            intro w8_3 w8_4 q8 f8_0 f8_1
            refine mx_J.step (sn_239 37) (fun _ _ => rfl) ?_
            refine mx_J.step (sn_239 39) (fun _ _ => rfl) ?_
            refine JgetR (g := 40) (b := 81) hx (show mx_Sn _ _ 40 (mx_getf 12 40 43) from sn_239 40) a56 s56 rfl rfl (hG.prr 56 40 rfl) ?_
            refine mx_J.step (sn_239 43) (fun _ _ => rfl) ?_
            refine JialdI (z := Z 81 x0) hx (show mx_Sn _ _ 44 (mx_iald 45) from sn_239 44) a81 s81 (by omega) rfl ?_
            refine Jicmp_ge (show mx_Sn _ _ 45 (mx_icmp_ge 91 48) from sn_239 45) (by omega) (by omega) (fun q10 => ?_) (fun q10 => ?_)
            · skip
              refine mx_J.step (sn_239 91) (fun _ _ => rfl) ?_
              refine mx_J.step (sn_239 92) (fun _ _ => rfl) ?_
              refine JgetR (g := 1) (b := 57) hx (show mx_Sn _ _ 93 (mx_getf 12 1 96) from sn_239 93) a56 s56 rfl rfl (hG.prr 56 1 rfl) ?_
              refine JcI (z := 1) (show mx_Sn _ _ 96 (mx_const (.int 1) 97) from sn_239 96) rfl ?_
              have b12 : 0 ≤ Z 57 1 ∧ Z 57 1 ≤ 18 := by have hq := GI_ex hG 57 1; replace hq : f57 (1 % 962) (Z 57 1) := hq; unfold f57 at hq; omega
              have b13 : (-2147483648) ≤ Z 57 1 ∧ Z 57 1 ≤ 2147483647 := hG.pr 57 1
              refine JialdI (z := Z 57 1) hx (show mx_Sn _ _ 97 (mx_iald 98) from sn_239 97) a57 s57 (by omega) rfl ?_
              have c107 : ∀ (k14_0 : Int), (-5) ≤ k14_0 ∧ k14_0 ≤ 0 → mx_J (tB l D b0 ad Hb tau) mt_239 (d + 2) 107 [some (.ref 56), some (xI x0), some (xI z1), some (xI w8_3), some (xI w8_4)] [xI k14_0] h Post := by
                intro k14_0 f14_0
                exact mx_J.ret (sn_239 107) (fun _ _ => rfl) (hP k14_0 (by omega))
              refine Jicmp_ne (show mx_Sn _ _ 98 (mx_icmp_ne 105 101) from sn_239 98) (by omega) (by omega) (fun q15 => ?_) (fun q15 => ?_)
              · skip
                refine JcI (z := (-5)) (show mx_Sn _ _ 105 (mx_const (.int (-5)) 107) from sn_239 105) rfl ?_
                exact c107 (-5) (by omega)
              · skip
                refine JcI (z := 0) (show mx_Sn _ _ 101 (mx_const (.int 0) 102) from sn_239 101) rfl ?_
                refine mx_J.step (sn_239 102) (fun _ _ => rfl) ?_
                exact c107 0 (by omega)
            · skip
              refine mx_J.step (sn_239 48) (fun _ _ => rfl) ?_
              refine JgetR (g := 41) (b := 82) hx (show mx_Sn _ _ 49 (mx_getf 12 41 52) from sn_239 49) a56 s56 rfl rfl (hG.prr 56 41 rfl) ?_
              refine JcI (z := 40) (show mx_Sn _ _ 52 (mx_const (.int 40) 54) from sn_239 52) rfl ?_
              refine mx_J.step (sn_239 54) (fun _ _ => rfl) ?_
              refine Jimul (show mx_Sn _ _ 55 (mx_imul 56) from sn_239 55) ?_
              refine mx_J.step (sn_239 56) (fun _ _ => rfl) ?_
              refine Jiadd (show mx_Sn _ _ 58 (mx_iadd 59) from sn_239 58) ?_
              have b17 : (-9223372036854775808) ≤ Z 82 ((40 * x0) + w8_4) ∧ Z 82 ((40 * x0) + w8_4) ≤ 9223372036854775807 := hG.pr 82 ((40 * x0) + w8_4)
              refine JlaldL (z := Z 82 ((40 * x0) + w8_4)) hx (show mx_Sn _ _ 59 (mx_lald 60) from sn_239 59) a82 s82 (by omega) rfl ?_
              obtain ⟨z18, hc18, b18⟩ := ct_208_ (d := d + 0) (l := l) (D := D) (b0 := b0) (ad := ad) (Hb := Hb) (tau := tau) hx hG (show (-9223372036854775808) ≤ Z 82 ((40 * x0) + w8_4) ∧ Z 82 ((40 * x0) + w8_4) ≤ 9223372036854775807 by omega)
              refine Jcs (show mx_Sn _ _ 60 (mx_calls 208 1 63) from sn_239 60) hc18 rfl rfl rfl ?_
              refine Jif_ne (show mx_Sn _ _ 63 (mx_if_ne 69 66) from sn_239 63) (by omega) (fun q19 => ?_) (fun q19 => ?_)
              · skip
                refine mx_J.step (sn_239 69) (fun _ _ => rfl) ?_
                refine mx_J.step (sn_239 70) (fun _ _ => rfl) ?_
                refine JgetR (g := 41) (b := 82) hx (show mx_Sn _ _ 71 (mx_getf 12 41 74) from sn_239 71) a56 s56 rfl rfl (hG.prr 56 41 rfl) ?_
                refine JcI (z := 40) (show mx_Sn _ _ 74 (mx_const (.int 40) 76) from sn_239 74) rfl ?_
                refine mx_J.step (sn_239 76) (fun _ _ => rfl) ?_
                refine Jimul (show mx_Sn _ _ 77 (mx_imul 78) from sn_239 77) ?_
                refine mx_J.step (sn_239 78) (fun _ _ => rfl) ?_
                refine Jiadd (show mx_Sn _ _ 80 (mx_iadd 81) from sn_239 80) ?_
                refine JlaldL (z := Z 82 ((40 * x0) + w8_4)) hx (show mx_Sn _ _ 81 (mx_lald 82) from sn_239 81) a82 s82 (by omega) rfl ?_
                refine Jl2i (show mx_Sn _ _ 82 (mx_l2i 83) from sn_239 82) (Jnorm fun y21 hy21 hq21 => ?_)
                refine JiaddN (show mx_Sn _ _ 83 (mx_iadd 84) from sn_239 83) (fun y22 hy22 hq22 => ?_)
                refine mx_J.step (ls2 := [some (.ref 56), some (xI x0), some (xI z1), some (xI y22), some (xI w8_4)]) (sn_239 84) (fun _ _ => rfl) ?_
                refine Jiinc (z := w8_4) (cz := 1) (ls2 := [some (.ref 56), some (xI x0), some (xI z1), some (xI y22), some (xI (w8_4 + 1))]) (show mx_Sn _ _ 85 (mx_iinc 4 1 88) from sn_239 85) rfl rfl rfl rfl ?_
                refine mx_J.step (sn_239 88) (fun _ _ => rfl) ?_
                exact ih8 y22 (w8_4 + 1) (by omega) (by omega) (by omega)
              · skip
                refine JcI (z := (-3)) (show mx_Sn _ _ 66 (mx_const (.int (-3)) 68) from sn_239 66) rfl ?_
                exact mx_J.ret (sn_239 68) (fun _ _ => rfl) (hP (-3) (by omega))
        exact c37 (Int.toNat (40 - 0) + 1) 0 0 (by omega) (by omega) (by omega)
      · skip
        refine JcI (z := (-4)) (show mx_Sn _ _ 29 (mx_const (.int (-4)) 31) from sn_239 29) rfl ?_
        exact mx_J.ret (sn_239 31) (fun _ _ => rfl) (hP (-4) (by omega))
    · skip
      refine mx_J.step (sn_239 10) (fun _ _ => rfl) ?_
      have b23 : 0 ≤ Z 81 x0 ∧ Z 81 x0 ≤ 40 := hG.pr 81 x0
      exact mx_J.ret (sn_239 11) (fun _ _ => rfl) (hP z1 (by omega))
theorem ct_239_56 {l : Launch} {D : va_G} {b0 : Nat} {ad : Nat → Nat} {Hb : Heap} {tau : Nat → Int64} {d n s : Nat} {S : Nat → xS} {Z : xZ} {h : mx_H} (hx : XH n s S Z h) (hG : GI n S Z)  {x0 : Int} (p0 : (-2147483648) ≤ x0 ∧ x0 ≤ 2147483647) : ∃ z : Int, mx_Ca (tB l D b0 ad Hb tau) (d + 3) 239 [.ref 56, xI x0] h (some (xI z), h) ∧ ((-6) ≤ z ∧ z ≤ 0 ∧ (z = 0 → (0 ≤ x0 ∧ x0 ≤ 3 ∧ 1 ≤ Z 81 x0 ∧ Z 81 x0 ≤ 18))) := by
  obtain ⟨r, hca, z, e, hp⟩ := Jmt (B := tB l D b0 ad Hb tau) (M := mt_239) (mi := 239) (as := [.ref 56, xI x0]) (d := d + 2) (ls := [some (.ref 56), some (xI x0), none, none, none]) rfl rfl rfl rfl rfl rfl (cw_239_56 (l := l) (D := D) (b0 := b0) (ad := ad) (Hb := Hb) (tau := tau) (d := d) (Post := fun r => ∃ z : Int, r = (some (xI z), h) ∧ ((-6) ≤ z ∧ z ≤ 0 ∧ (z = 0 → (0 ≤ x0 ∧ x0 ≤ 3 ∧ 1 ≤ Z 81 x0 ∧ Z 81 x0 ≤ 18)))) hx hG p0 (fun z hz => ⟨z, rfl, hz⟩))
  subst e; exact ⟨z, hca, hp⟩
