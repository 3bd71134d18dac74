set_option maxRecDepth 100000 in
theorem cw_195_56 {l : Launch} {D : va_G} {b0 : Nat} {ad : Nat → Nat} {Hb : Heap} {tau : Nat → Int64} {d n s : Nat} {S : Nat → xS} {Z : xZ} {h : mx_H} {Post : mx_R → Prop} (hx : XH n s S Z h) (hG : GI n S Z)  {x0 x1 x2 : Int} (p0 : 0 ≤ x0 ∧ x0 ≤ 384) (p1 : 0 ≤ x1 ∧ x1 ≤ 17) (p2 : 0 ≤ x2 ∧ x2 ≤ 9) (hP : ∀ (z : Int) (Z' : xZ) (h' : mx_H), XH n s S Z' h' → GI n S Z' → fr' [(64, (-1)), (65, (-1))] Z Z' → 0 ≤ z ∧ z ≤ 18 → Post (some (xI z), h')) : mx_J (tB l D b0 ad Hb tau) mt_195 (d + 2) 0 [some (.ref 56), some (xI x0), some (xI x1), some (xI x2), none] [] h Post := by
    have a56 : 56 < n := lt83 (GI_n hG) rfl
    have s56 : S 56 = .inl (12, [0, 2, 2, 2, 2, 0, 0, 0, 0, 0, 0, 0, 0, 0, 0, 2, 2, 2, 0, 2, 2, 2, 0, 0, 2, 2, 2, 2, 2, 2, 0, 0, 2, 2, 2, 2, 2, 2, 2, 2, 2, 2]) := GI_s hG 56 rfl
    have a57 : 57 < n := lt83 (GI_n hG) rfl
    have s57 : S 57 = .inr (.int, 2886, 0) := GI_s hG 57 rfl
    have a65 : 65 < n := lt83 (GI_n hG) rfl
    have s65 : S 65 = .inr (.int, 5, 0) := GI_s hG 65 rfl
    refine mx_J.step (sn_195 0) (fun _ _ => rfl) ?_
    refine JgetR (g := 20) (b := 65) hx (show mx_Sn _ _ 1 (mx_getf 12 20 4) from sn_195 1) a56 s56 rfl rfl (hG.prr 56 20 rfl) ?_
    refine JcI (z := 0) (show mx_Sn _ _ 4 (mx_const (.int 0) 5) from sn_195 4) rfl ?_
    refine mx_J.step (sn_195 5) (fun _ _ => rfl) ?_
    refine mx_J.step (sn_195 6) (fun _ _ => rfl) ?_
    refine mx_J.step (sn_195 7) (fun _ _ => rfl) ?_
    have b3 : 0 ≤ Z 61 (18 * x0 + x1) ∧ Z 61 (18 * x0 + x1) ≤ 18 := hG.pr 61 (18 * x0 + x1)
    obtain ⟨z2, hc2, b2⟩ := ct_190_56 (d := d + 1) (l := l) (D := D) (b0 := b0) (ad := ad) (Hb := Hb) (tau := tau) hx hG (show 0 ≤ x0 ∧ x0 ≤ 384 by omega) (show 0 ≤ x1 ∧ x1 ≤ 17 by omega)
    refine Jcv hx (show mx_Sn _ _ 8 (mx_callv 190 3 12 11) from sn_195 8) a56 s56 hc2 rfl rfl rfl ?_
    refine JiastI hx (show mx_Sn _ _ 11 (mx_iast 1 12) from sn_195 11) a65 s65 rfl (by omega) (fun Z4 h4 hx4 hE4 => ?_)
    have hG4 := GI_up hG hE4 (show (-2147483648) ≤ z2 ∧ z2 ≤ 2147483647 by omega) trivial rfl
    refine mx_J.step (sn_195 12) (fun _ _ => rfl) ?_
    refine JgetR (g := 20) (b := 65) hx4 (show mx_Sn _ _ 13 (mx_getf 12 20 16) from sn_195 13) a56 s56 rfl rfl (hG4.prr 56 20 rfl) ?_
    refine JcI (z := 1) (show mx_Sn _ _ 16 (mx_const (.int 1) 17) from sn_195 16) rfl ?_
    refine mx_J.step (sn_195 17) (fun _ _ => rfl) ?_
    refine JiastI hx4 (show mx_Sn _ _ 18 (mx_iast 1 19) from sn_195 18) a65 s65 rfl (by omega) (fun Z6 h6 hx6 hE6 => ?_)
    have hG6 := GI_up hG4 hE6 (show (-2147483648) ≤ x1 ∧ x1 ≤ 2147483647 by omega) trivial rfl
    refine mx_J.step (sn_195 19) (fun _ _ => rfl) ?_
    refine JgetR (g := 20) (b := 65) hx6 (show mx_Sn _ _ 20 (mx_getf 12 20 23) from sn_195 20) a56 s56 rfl rfl (hG6.prr 56 20 rfl) ?_
    refine JcI (z := 2) (show mx_Sn _ _ 23 (mx_const (.int 2) 24) from sn_195 23) rfl ?_
    refine mx_J.step (sn_195 24) (fun _ _ => rfl) ?_
    refine mx_J.step (sn_195 25) (fun _ _ => rfl) ?_
    have eq9 : mn Z6 x0 = mn Z x0 := ((mn_c (fun i => up_nk hE6 rfl)).trans (mn_c (fun i => up_nk hE4 rfl)))
    obtain ⟨z8, hc8, b8⟩ := ct_191_56 (d := d + 0) (l := l) (D := D) (b0 := b0) (ad := ad) (Hb := Hb) (tau := tau) hx6 hG6 (show 0 ≤ x0 ∧ x0 ≤ 384 by omega)
    refine Jcv hx6 (show mx_Sn _ _ 26 (mx_callv 191 2 12 29) from sn_195 26) a56 s56 hc8 rfl rfl rfl ?_
    refine JiastI hx6 (show mx_Sn _ _ 29 (mx_iast 1 30) from sn_195 29) a65 s65 rfl (by omega) (fun Z10 h10 hx10 hE10 => ?_)
    have hG10 := GI_up hG6 hE10 (show (-2147483648) ≤ z8 ∧ z8 ≤ 2147483647 by omega) trivial rfl
    refine mx_J.step (sn_195 30) (fun _ _ => rfl) ?_
    refine JgetR (g := 20) (b := 65) hx10 (show mx_Sn _ _ 31 (mx_getf 12 20 34) from sn_195 31) a56 s56 rfl rfl (hG10.prr 56 20 rfl) ?_
    refine JcI (z := 3) (show mx_Sn _ _ 34 (mx_const (.int 3) 35) from sn_195 34) rfl ?_
    refine mx_J.step (sn_195 35) (fun _ _ => rfl) ?_
    refine JgetR (g := 1) (b := 57) hx10 (show mx_Sn _ _ 36 (mx_getf 12 1 39) from sn_195 36) a56 s56 rfl rfl (hG10.prr 56 1 rfl) ?_
    refine JcI (z := 1) (show mx_Sn _ _ 39 (mx_const (.int 1) 40) from sn_195 39) rfl ?_
    have b13 : 0 ≤ Z 57 1 ∧ Z 57 1 ≤ 18 := by have hq := GI_ex hG 57 1; replace hq : f57 (1 % 962) (Z 57 1) := hq; unfold f57 at hq; omega
    have b14 : (-2147483648) ≤ Z 57 1 ∧ Z 57 1 ≤ 2147483647 := hG.pr 57 1
    refine JialdI (z := Z 57 1) hx10 (show mx_Sn _ _ 40 (mx_iald 41) from sn_195 40) a57 s57 (by omega) ((up_nk hE10 rfl).trans ((up_nk hE6 rfl).trans (up_nk hE4 rfl))) ?_
    refine JiastI hx10 (show mx_Sn _ _ 41 (mx_iast 1 42) from sn_195 41) a65 s65 rfl (by omega) (fun Z15 h15 hx15 hE15 => ?_)
    have hG15 := GI_up hG10 hE15 (show (-2147483648) ≤ Z 57 1 ∧ Z 57 1 ≤ 2147483647 by omega) trivial rfl
    refine mx_J.step (sn_195 42) (fun _ _ => rfl) ?_
    refine JgetR (g := 20) (b := 65) hx15 (show mx_Sn _ _ 43 (mx_getf 12 20 46) from sn_195 43) a56 s56 rfl rfl (hG15.prr 56 20 rfl) ?_
    refine JcI (z := 4) (show mx_Sn _ _ 46 (mx_const (.int 4) 47) from sn_195 46) rfl ?_
    refine mx_J.step (sn_195 47) (fun _ _ => rfl) ?_
    refine JiastI hx15 (show mx_Sn _ _ 48 (mx_iast 1 49) from sn_195 48) a65 s65 rfl (by omega) (fun Z17 h17 hx17 hE17 => ?_)
    have hG17 := GI_up hG15 hE17 (show (-2147483648) ≤ x2 ∧ x2 ≤ 2147483647 by omega) trivial rfl
    refine mx_J.step (sn_195 49) (fun _ _ => rfl) ?_
    refine JgetR (g := 1) (b := 57) hx17 (show mx_Sn _ _ 50 (mx_getf 12 1 53) from sn_195 50) a56 s56 rfl rfl (hG17.prr 56 1 rfl) ?_
    refine JcI (z := 22) (show mx_Sn _ _ 53 (mx_const (.int 22) 55) from sn_195 53) rfl ?_
    have b19 : 0 ≤ Z 57 22 ∧ Z 57 22 ≤ 1 := by have hq := GI_ex hG 57 22; replace hq : f57 (22 % 962) (Z 57 22) := hq; unfold f57 at hq; omega
    have b20 : (-2147483648) ≤ Z 57 22 ∧ Z 57 22 ≤ 2147483647 := hG.pr 57 22
    refine JialdI (z := Z 57 22) hx17 (show mx_Sn _ _ 55 (mx_iald 56) from sn_195 55) a57 s57 (by omega) ((up_nk hE17 rfl).trans ((up_nk hE15 rfl).trans ((up_nk hE10 rfl).trans ((up_nk hE6 rfl).trans (up_nk hE4 rfl))))) ?_
    refine JcI (z := 1) (show mx_Sn _ _ 56 (mx_const (.int 1) 57) from sn_195 56) rfl ?_
    have c70 : ∀  (Z22 : xZ) (h22 : mx_H), XH n s S Z22 h22 → GI n S Z22 → fr' [(64, (-1))] Z17 Z22 → mx_J (tB l D b0 ad Hb tau) mt_195 (d + 2) 70 [some (.ref 56), some (xI x0), some (xI x1), some (xI x2), none] [] h22 Post := by
      intro Z22 h22 hx22 hG22 hf22
      refine mx_J.step (sn_195 70) (fun _ _ => rfl) ?_
      refine JgetR (g := 1) (b := 57) hx22 (show mx_Sn _ _ 71 (mx_getf 12 1 74) from sn_195 71) a56 s56 rfl rfl (hG22.prr 56 1 rfl) ?_
      refine JcI (z := 21) (show mx_Sn _ _ 74 (mx_const (.int 21) 76) from sn_195 74) rfl ?_
      have b24 : 0 ≤ Z 57 21 ∧ Z 57 21 ≤ 1 := by have hq := GI_ex hG 57 21; replace hq : f57 (21 % 962) (Z 57 21) := hq; unfold f57 at hq; omega
      have b25 : (-2147483648) ≤ Z 57 21 ∧ Z 57 21 ≤ 2147483647 := hG.pr 57 21
      refine JialdI (z := Z 57 21) hx22 (show mx_Sn _ _ 76 (mx_iald 77) from sn_195 76) a57 s57 (by omega) ((hf22 57 21 rfl).trans ((up_nk hE17 rfl).trans ((up_nk hE15 rfl).trans ((up_nk hE10 rfl).trans ((up_nk hE6 rfl).trans (up_nk hE4 rfl)))))) ?_
      refine JcI (z := 1) (show mx_Sn _ _ 77 (mx_const (.int 1) 78) from sn_195 77) rfl ?_
      have c90 : ∀ (k26_0 : Int) (Z27 : xZ) (h27 : mx_H), (-2147483648) ≤ k26_0 ∧ k26_0 ≤ 2147483647 → XH n s S Z27 h27 → GI n S Z27 → fr' [(64, (-1))] Z22 Z27 → mx_J (tB l D b0 ad Hb tau) mt_195 (d + 2) 90 [some (.ref 56), some (xI x0), some (xI x1), some (xI x2), none] [xI k26_0] h27 Post := by
        intro k26_0 Z27 h27 f26_0 hx27 hG27 hf27
        refine mx_J.step (ls2 := [some (.ref 56), some (xI x0), some (xI x1), some (xI x2), some (xI k26_0)]) (sn_195 90) (fun _ _ => rfl) ?_
        refine mx_J.step (sn_195 92) (fun _ _ => rfl) ?_
        have c123 : ∀ (k28_0 : Int), 0 ≤ k28_0 ∧ k28_0 ≤ 18 → mx_J (tB l D b0 ad Hb tau) mt_195 (d + 2) 123 [some (.ref 56), some (xI x0), some (xI x1), some (xI x2), some (xI k26_0)] [xI k28_0] h27 Post := by
          intro k28_0 f28_0
          exact mx_J.ret (sn_195 123) (fun _ _ => rfl) (hP k28_0 Z27 h27 hx27 hG27 (fr_tr (M := [(64, (-1)), (65, (-1))]) (fr_tr (M := [(64, (-1)), (65, (-1))]) (fr_tr (M := [(64, (-1)), (65, (-1))]) (fr_tr (M := [(64, (-1)), (65, (-1))]) (fr_tr (M := [(64, (-1)), (65, (-1))]) (fr_tr (M := [(64, (-1)), (65, (-1))]) (fr_tr (M := [(64, (-1)), (65, (-1))]) fr_rf (fr_ua hE4) (M1 := []) rfl rfl) (fr_ua hE6) rfl rfl) (fr_ua hE10) rfl rfl) (fr_ua hE15) rfl rfl) (fr_ua hE17) rfl rfl) (hf22) rfl rfl) (hf27) rfl rfl) (by omega))
        refine Jif_ge (show mx_Sn _ _ 94 (mx_if_ge 101 97) from sn_195 94) (by omega) (fun q29 => ?_) (fun q29 => ?_)
        · skip
          refine mx_J.step (sn_195 101) (fun _ _ => rfl) ?_
          refine mx_J.step (sn_195 103) (fun _ _ => rfl) ?_
          refine JgetR (g := 20) (b := 65) hx27 (show mx_Sn _ _ 104 (mx_getf 12 20 107) from sn_195 104) a56 s56 rfl rfl (hG27.prr 56 20 rfl) ?_
          refine JcI (z := 0) (show mx_Sn _ _ 107 (mx_const (.int 0) 108) from sn_195 107) rfl ?_
          refine JialdI (z := z2) hx27 (show mx_Sn _ _ 108 (mx_iald 109) from sn_195 108) a65 s65 (by omega) ((hf27 65 0 rfl).trans ((hf22 65 0 rfl).trans ((up_ni hE17 (by decide)).trans ((up_ni hE15 (by decide)).trans ((up_ni hE10 (by decide)).trans ((up_ni hE6 (by decide)).trans (up_at hE4))))))) ?_
          refine Jicmp_le (show mx_Sn _ _ 109 (mx_icmp_le 121 112) from sn_195 109) (by omega) (by omega) (fun q31 => ?_) (fun q31 => ?_)
          · skip
            refine mx_J.step (sn_195 121) (fun _ _ => rfl) ?_
            exact c123 k26_0 (by omega)
          · skip
            refine mx_J.step (sn_195 112) (fun _ _ => rfl) ?_
            refine JgetR (g := 20) (b := 65) hx27 (show mx_Sn _ _ 113 (mx_getf 12 20 116) from sn_195 113) a56 s56 rfl rfl (hG27.prr 56 20 rfl) ?_
            refine JcI (z := 0) (show mx_Sn _ _ 116 (mx_const (.int 0) 117) from sn_195 116) rfl ?_
            refine JialdI (z := z2) hx27 (show mx_Sn _ _ 117 (mx_iald 118) from sn_195 117) a65 s65 (by omega) ((hf27 65 0 rfl).trans ((hf22 65 0 rfl).trans ((up_ni hE17 (by decide)).trans ((up_ni hE15 (by decide)).trans ((up_ni hE10 (by decide)).trans ((up_ni hE6 (by decide)).trans (up_at hE4))))))) ?_
            refine mx_J.step (sn_195 118) (fun _ _ => rfl) ?_
            exact c123 z2 (by omega)
        · skip
          refine JcI (z := 0) (show mx_Sn _ _ 97 (mx_const (.int 0) 98) from sn_195 97) rfl ?_
          refine mx_J.step (sn_195 98) (fun _ _ => rfl) ?_
          exact c123 0 (by omega)
      refine Jicmp_ne (show mx_Sn _ _ 78 (mx_icmp_ne 89 81) from sn_195 78) (by omega) (by omega) (fun q33 => ?_) (fun q33 => ?_)
      · skip
        refine JcI (z := 1) (show mx_Sn _ _ 89 (mx_const (.int 1) 90) from sn_195 89) rfl ?_
        exact c90 1 Z22 h22 (by omega) hx22 hG22 fr_rf
      · skip
        refine mx_J.step (sn_195 81) (fun _ _ => rfl) ?_
        refine JcI (z := 0) (show mx_Sn _ _ 82 (mx_const (.int 0) 83) from sn_195 82) rfl ?_
        have eq35 : Z22 57 21 = Z 57 21 := ((hf22 57 21 rfl).trans ((up_nk hE17 rfl).trans ((up_nk hE15 rfl).trans ((up_nk hE10 rfl).trans ((up_nk hE6 rfl).trans (up_nk hE4 rfl))))))
        obtain ⟨z34, Z34, h34, hc34, hx34, hG34, hf34, b34⟩ := ct_194_56_i0 (d := d + 0) (l := l) (D := D) (b0 := b0) (ad := ad) (Hb := Hb) (tau := tau) hx22 hG22  (show Z22 57 21 = 1 by first | omega | (simp only [eq35]; omega))
        try rw [eq35] at b34
        refine Jcv hx22 (show mx_Sn _ _ 83 (mx_callv 194 2 12 86) from sn_195 83) a56 s56 hc34 rfl rfl rfl ?_
        refine mx_J.step (sn_195 86) (fun _ _ => rfl) ?_
        exact c90 z34 Z34 h34 (by omega) hx34 hG34 (fr_tr (M := [(64, (-1))]) fr_rf (hf34) (M1 := []) rfl rfl)
    refine Jicmp_ne (show mx_Sn _ _ 57 (mx_icmp_ne 70 60) from sn_195 57) (by omega) (by omega) (fun q36 => ?_) (fun q36 => ?_)
    · skip
      exact c70 Z17 h17 hx17 hG17 fr_rf
    · skip
      refine mx_J.step (sn_195 60) (fun _ _ => rfl) ?_
      refine JcI (z := 1) (show mx_Sn _ _ 61 (mx_const (.int 1) 62) from sn_195 61) rfl ?_
      have eq38 : Z17 57 22 = Z 57 22 := ((up_nk hE17 rfl).trans ((up_nk hE15 rfl).trans ((up_nk hE10 rfl).trans ((up_nk hE6 rfl).trans (up_nk hE4 rfl)))))
      obtain ⟨z37, Z37, h37, hc37, hx37, hG37, hf37, b37⟩ := ct_194_56_i1 (d := d + 0) (l := l) (D := D) (b0 := b0) (ad := ad) (Hb := Hb) (tau := tau) hx17 hG17  (show Z17 57 22 = 1 by first | omega | (simp only [eq38]; omega))
      try rw [eq38] at b37
      refine Jcv hx17 (show mx_Sn _ _ 62 (mx_callv 194 2 12 65) from sn_195 62) a56 s56 hc37 rfl rfl rfl ?_
      refine Jif_ne (show mx_Sn _ _ 65 (mx_if_ne 70 68) from sn_195 65) (by omega) (fun q39 => ?_) (fun q39 => ?_)
      · skip
        exact c70 Z37 h37 hx37 hG37 (fr_tr (M := [(64, (-1))]) fr_rf (hf37) (M1 := []) rfl rfl)
      · skip
        refine JcI (z := 0) (show mx_Sn _ _ 68 (mx_const (.int 0) 69) from sn_195 68) rfl ?_
        exact mx_J.ret (sn_195 69) (fun _ _ => rfl) (hP 0 Z37 h37 hx37 hG37 (fr_tr (M := [(64, (-1)), (65, (-1))]) (fr_tr (M := [(64, (-1)), (65, (-1))]) (fr_tr (M := [(64, (-1)), (65, (-1))]) (fr_tr (M := [(64, (-1)), (65, (-1))]) (fr_tr (M := [(64, (-1)), (65, (-1))]) (fr_tr (M := [(64, (-1)), (65, (-1))]) fr_rf (fr_ua hE4) (M1 := []) rfl rfl) (fr_ua hE6) rfl rfl) (fr_ua hE10) rfl rfl) (fr_ua hE15) rfl rfl) (fr_ua hE17) rfl rfl) (hf37) rfl rfl) (by omega))
theorem ct_195_56 {l : Launch} {D : va_G} {b0 : Nat} {ad : Nat → Nat} {Hb : Heap} {tau : Nat → Int64} {d n s : Nat} {S : Nat → xS} {Z : xZ} {h : mx_H} (hx : XH n s S Z h) (hG : GI n S Z)  {x0 x1 x2 : Int} (p0 : 0 ≤ x0 ∧ x0 ≤ 384) (p1 : 0 ≤ x1 ∧ x1 ≤ 17) (p2 : 0 ≤ x2 ∧ x2 ≤ 9) : ∃ (z : Int) (Z' : xZ) (h' : mx_H), mx_Ca (tB l D b0 ad Hb tau) (d + 3) 195 [.ref 56, xI x0, xI x1, xI x2] h (some (xI z), h') ∧ XH n s S Z' h' ∧ GI n S Z' ∧ fr' [(64, (-1)), (65, (-1))] Z Z' ∧ (0 ≤ z ∧ z ≤ 18) := by
  obtain ⟨r, hca, z, Z', h', e, q⟩ := Jmt (B := tB l D b0 ad Hb tau) (M := mt_195) (mi := 195) (as := [.ref 56, xI x0, xI x1, xI x2]) (d := d + 2) (ls := [some (.ref 56), some (xI x0), some (xI x1), some (xI x2), none]) rfl rfl rfl rfl rfl rfl (cw_195_56 (l := l) (D := D) (b0 := b0) (ad := ad) (Hb := Hb) (tau := tau) (d := d) (Post := fun r => ∃ (z : Int) (Z' : xZ) (h' : mx_H), r = (some (xI z), h') ∧ XH n s S Z' h' ∧ GI n S Z' ∧ fr' [(64, (-1)), (65, (-1))] Z Z' ∧ (0 ≤ z ∧ z ≤ 18)) hx hG p0 p1 p2 (fun z Z' h' q1 q2 q3 q4 => ⟨z, Z', h', rfl, q1, q2, q3, q4⟩))
  subst e; exact ⟨z, Z', h', hca, q⟩
set_option maxRecDepth 100000 in
theorem cw_196_56 {l : Launch} {D : va_G} {b0 : Nat} {ad : Nat → Nat} {Hb : Heap} {tau : Nat → Int64} {d n s : Nat} {S : Nat → xS} {Z : xZ} {h : mx_H} {Post : mx_R → Prop} (hx : XH n s S Z h) (hG : GI n S Z)  {x0 x1 x2 : Int} (p0 : 0 ≤ x0 ∧ x0 ≤ 384) (p1 : (-2147483648) ≤ x1 ∧ x1 ≤ 2147483647) (p2 : 0 ≤ x2 ∧ x2 ≤ 9) (hP : ∀ (z : Int) (Z' : xZ) (h' : mx_H), XH n s S Z' h' → GI n S Z' → fr' [(62, (-1)), (64, (-1)), (65, (-1))] Z Z' → 0 ≤ z ∧ z ≤ 384 ∧ z < Z 56 18 → Post (some (xI z), h')) : mx_J (tB l D b0 ad Hb tau) mt_196 (d + 3) 0 [some (.ref 56), some (xI x0), some (xI x1), some (xI x2), none, none, none] [] h Post := by
    have a56 : 56 < n := lt83 (GI_n hG) rfl
    have s56 : S 56 = .inl (12, [0, 2, 2, 2, 2, 0, 0, 0, 0, 0, 0, 0, 0, 0, 0, 2, 2, 2, 0, 2, 2, 2, 0, 0, 2, 2, 2, 2, 2, 2, 0, 0, 2, 2, 2, 2, 2, 2, 2, 2, 2, 2]) := GI_s hG 56 rfl
    have a62 : 62 < n := lt83 (GI_n hG) rfl
    have s62 : S 62 = .inr (.int, 20, 0) := GI_s hG 62 rfl
    refine mx_J.step (sn_196 0) (fun _ _ => rfl) ?_
    obtain ⟨Z1, h1, hc1, hx1, hG1, hf1⟩ := ct_186_56 (d := d + 2) (l := l) (D := D) (b0 := b0) (ad := ad) (Hb := Hb) (tau := tau) hx hG 
    refine Jcv0 hx (show mx_Sn _ _ 1 (mx_callv 186 1 12 4) from sn_196 1) a56 s56 hc1 rfl rfl rfl ?_
    refine JcI (z := 0) (show mx_Sn _ _ 4 (mx_const (.int 0) 5) from sn_196 4) rfl ?_
    refine mx_J.step (ls2 := [some (.ref 56), some (xI x0), some (xI x1), some (xI x2), some (xI 0), none, none]) (sn_196 5) (fun _ _ => rfl) ?_
    refine JcI (z := 0) (show mx_Sn _ _ 7 (mx_const (.int 0) 8) from sn_196 7) rfl ?_
    refine mx_J.step (ls2 := [some (.ref 56), some (xI x0), some (xI x1), some (xI x2), some (xI 0), some (xI 0), none]) (sn_196 8) (fun _ _ => rfl) ?_
    have c10 : ∀ (m2 : Nat) (w2_4 : Int) (w2_5 : Int) (u2_6 : Option Value) (Z3 : xZ) (h3 : mx_H), 18 - w2_5 < (m2 : Int) → (-2147483648) ≤ w2_4 ∧ w2_4 ≤ 2147483647 → 0 ≤ w2_5 ∧ w2_5 ≤ 18 → XH n s S Z3 h3 → GI n S Z3 → fr' [(62, (-1)), (64, (-1)), (65, (-1))] Z1 Z3 → mx_J (tB l D b0 ad Hb tau) mt_196 (d + 3) 10 [some (.ref 56), some (xI x0), some (xI x1), some (xI x2), some (xI w2_4), some (xI w2_5), u2_6] [] h3 Post := by
      intro m2
      induction m2 with
      | zero => intro w2_4 w2_5 u2_6 Z3 h3 q2 f2_0 f2_1 hx3 hG3 hf3; exact absurd q2 (by omega)
      | succ m2 ih2 =>
        intro w2_4 w2_5 u2_6 Z3 h3 q2 f2_0 f2_1 hx3 hG3 hf3
        refine mx_J.step (sn_196 10) (fun _ _ => rfl) ?_
        refine JcI (z := 18) (show mx_Sn _ _ 12 (mx_const (.int 18) 14) from sn_196 12) rfl ?_
        refine Jicmp_ge (show mx_Sn _ _ 14 (mx_icmp_ge 80 17) from sn_196 14) (by omega) (by omega) (fun q4 => ?_) (fun q4 => ?_)
        · skip
          refine mx_J.step (sn_196 80) (fun _ _ => rfl) ?_
          refine JgetR (g := 16) (b := 62) hx3 (show mx_Sn _ _ 81 (mx_getf 12 16 84) from sn_196 81) a56 s56 rfl rfl (hG3.prr 56 16 rfl) ?_
          refine JcI (z := 18) (show mx_Sn _ _ 84 (mx_const (.int 18) 86) from sn_196 84) rfl ?_
          refine mx_J.step (sn_196 86) (fun _ _ => rfl) ?_
          refine JiastI hx3 (show mx_Sn _ _ 88 (mx_iast 1 89) from sn_196 88) a62 s62 rfl (by omega) (fun Z6 h6 hx6 hE6 => ?_)
          have hG6 := GI_up hG3 hE6 (show (-2147483648) ≤ w2_4 ∧ w2_4 ≤ 2147483647 by omega) trivial rfl
          refine mx_J.step (sn_196 89) (fun _ _ => rfl) ?_
          have eq8 : Z6 56 18 = Z 56 18 := ((up_nk hE6 rfl).trans ((hf3 56 18 rfl).trans (hf1 56 18 rfl)))
          have b9 : 0 ≤ Z 56 18 ∧ Z 56 18 ≤ 385 := hG.pr 56 18
          obtain ⟨z7, Z7, h7, hc7, hx7, hG7, hf7, b7⟩ := ct_188_56 (d := d + 1) (l := l) (D := D) (b0 := b0) (ad := ad) (Hb := Hb) (tau := tau) hx6 hG6 
          try rw [eq8] at b7
          refine Jcv hx6 (show mx_Sn _ _ 90 (mx_callv 188 1 12 93) from sn_196 90) a56 s56 hc7 rfl rfl rfl ?_
          have eq10 : Z7 56 18 = Z 56 18 := ((hf7 56 18 rfl).trans ((up_nk hE6 rfl).trans ((hf3 56 18 rfl).trans (hf1 56 18 rfl))))
          exact mx_J.ret (sn_196 93) (fun _ _ => rfl) (hP z7 Z7 h7 hx7 hG7 (fr_tr (M := [(62, (-1)), (64, (-1)), (65, (-1))]) (fr_tr (M := [(62, (-1)), (64, (-1)), (65, (-1))]) (fr_tr (M := [(62, (-1)), (64, (-1)), (65, (-1))]) (fr_tr (M := [(62, (-1)), (64, (-1)), (65, (-1))]) fr_rf (hf1) (M1 := []) rfl rfl) (hf3) rfl rfl) (fr_ua hE6) rfl rfl) (hf7) rfl rfl) (by omega))
        · skip
          refine mx_J.step (sn_196 17) (fun _ _ => rfl) ?_
          refine mx_J.step (sn_196 18) (fun _ _ => rfl) ?_
          refine mx_J.step (sn_196 19) (fun _ _ => rfl) ?_
          have eq12 : Z3 61 (18 * x0 + w2_5) = Z 61 (18 * x0 + w2_5) := ((hf3 61 (18 * x0 + w2_5) rfl).trans (hf1 61 (18 * x0 + w2_5) rfl))
          have b13 : 0 ≤ Z 61 (18 * x0 + w2_5) ∧ Z 61 (18 * x0 + w2_5) ≤ 18 := hG.pr 61 (18 * x0 + w2_5)
          obtain ⟨z11, hc11, b11⟩ := ct_190_56 (d := d + 2) (l := l) (D := D) (b0 := b0) (ad := ad) (Hb := Hb) (tau := tau) hx3 hG3 (show 0 ≤ x0 ∧ x0 ≤ 384 by omega) (show 0 ≤ w2_5 ∧ w2_5 ≤ 17 by omega)
          try rw [eq12] at b11
          refine Jcv hx3 (show mx_Sn _ _ 21 (mx_callv 190 3 12 24) from sn_196 21) a56 s56 hc11 rfl rfl rfl ?_
          have c74 : ∀ (w14_4 : Int) (u14_6 : Option Value) (Z15 : xZ) (h15 : mx_H), (-2147483648) ≤ w14_4 ∧ w14_4 ≤ 2147483647 → XH n s S Z15 h15 → GI n S Z15 → fr' [(62, (-1)), (64, (-1)), (65, (-1))] Z3 Z15 → mx_J (tB l D b0 ad Hb tau) mt_196 (d + 3) 74 [some (.ref 56), some (xI x0), some (xI x1), some (xI x2), some (xI w14_4), some (xI w2_5), u14_6] [] h15 Post := by
            intro w14_4 u14_6 Z15 h15 f14_0 hx15 hG15 hf15
            refine Jiinc (z := w2_5) (cz := 1) (ls2 := [some (.ref 56), some (xI x0), some (xI x1), some (xI x2), some (xI w14_4), some (xI (w2_5 + 1)), u14_6]) (show mx_Sn _ _ 74 (mx_iinc 5 1 77) from sn_196 74) rfl rfl rfl rfl ?_
            refine mx_J.step (sn_196 77) (fun _ _ => rfl) ?_
            exact ih2 w14_4 (w2_5 + 1) u14_6 Z15 h15 (by omega) (by omega) (by omega) hx15 hG15 (fr_tr (M := [(62, (-1)), (64, (-1)), (65, (-1))]) (fr_tr (M := [(62, (-1)), (64, (-1)), (65, (-1))]) fr_rf (hf3) (M1 := []) rfl rfl) (hf15) rfl rfl)
          refine Jif_ne (show mx_Sn _ _ 24 (mx_if_ne 30 27) from sn_196 24) (by omega) (fun q16 => ?_) (fun q16 => ?_)
          · skip
            refine mx_J.step (sn_196 30) (fun _ _ => rfl) ?_
            refine mx_J.step (sn_196 32) (fun _ _ => rfl) ?_
            have c48 : ∀ (k17_0 : Int) (Z18 : xZ) (h18 : mx_H), 0 ≤ k17_0 ∧ k17_0 ≤ 18 → XH n s S Z18 h18 → GI n S Z18 → fr' [(64, (-1)), (65, (-1))] Z3 Z18 → mx_J (tB l D b0 ad Hb tau) mt_196 (d + 3) 48 [some (.ref 56), some (xI x0), some (xI x1), some (xI x2), some (xI w2_4), some (xI w2_5), u2_6] [xI k17_0] h18 Post := by
              intro k17_0 Z18 h18 f17_0 hx18 hG18 hf18
              refine mx_J.step (ls2 := [some (.ref 56), some (xI x0), some (xI x1), some (xI x2), some (xI w2_4), some (xI w2_5), some (xI k17_0)]) (sn_196 48) (fun _ _ => rfl) ?_
              refine mx_J.step (sn_196 50) (fun _ _ => rfl) ?_
              refine JgetR (g := 16) (b := 62) hx18 (show mx_Sn _ _ 51 (mx_getf 12 16 54) from sn_196 51) a56 s56 rfl rfl (hG18.prr 56 16 rfl) ?_
              refine mx_J.step (sn_196 54) (fun _ _ => rfl) ?_
              refine mx_J.step (sn_196 56) (fun _ _ => rfl) ?_
              refine mx_J.step (sn_196 57) (fun _ _ => rfl) ?_
              refine mx_J.step (sn_196 58) (fun _ _ => rfl) ?_
              have eq21 : Z18 61 (18 * x0 + w2_5) = Z 61 (18 * x0 + w2_5) := ((hf18 61 (18 * x0 + w2_5) rfl).trans ((hf3 61 (18 * x0 + w2_5) rfl).trans (hf1 61 (18 * x0 + w2_5) rfl)))
              obtain ⟨z20, hc20, b20⟩ := ct_190_56 (d := d + 2) (l := l) (D := D) (b0 := b0) (ad := ad) (Hb := Hb) (tau := tau) hx18 hG18 (show 0 ≤ x0 ∧ x0 ≤ 384 by omega) (show 0 ≤ w2_5 ∧ w2_5 ≤ 17 by omega)
              try rw [eq21] at b20
              refine Jcv hx18 (show mx_Sn _ _ 60 (mx_callv 190 3 12 63) from sn_196 60) a56 s56 hc20 rfl rfl rfl ?_
              refine mx_J.step (sn_196 63) (fun _ _ => rfl) ?_
              refine Jisub (show mx_Sn _ _ 65 (mx_isub 66) from sn_196 65) ?_
              refine JiastI hx18 (show mx_Sn _ _ 66 (mx_iast 1 67) from sn_196 66) a62 s62 rfl (by omega) (fun Z22 h22 hx22 hE22 => ?_)
              have hG22 := GI_up hG18 hE22 (show (-2147483648) ≤ z20 - k17_0 ∧ z20 - k17_0 ≤ 2147483647 by omega) trivial rfl
              refine mx_J.step (sn_196 67) (fun _ _ => rfl) ?_
              refine mx_J.step (sn_196 69) (fun _ _ => rfl) ?_
              refine JiaddN (show mx_Sn _ _ 71 (mx_iadd 72) from sn_196 71) (fun y23 hy23 hq23 => ?_)
              refine mx_J.step (ls2 := [some (.ref 56), some (xI x0), some (xI x1), some (xI x2), some (xI y23), some (xI w2_5), some (xI k17_0)]) (sn_196 72) (fun _ _ => rfl) ?_
              exact c74 y23 (some (xI k17_0)) Z22 h22 (by omega) hx22 hG22 (fr_tr (M := [(62, (-1)), (64, (-1)), (65, (-1))]) (fr_tr (M := [(62, (-1)), (64, (-1)), (65, (-1))]) fr_rf (hf18) (M1 := []) rfl rfl) (fr_ua hE22) rfl rfl)
            refine Jicmp_ne (show mx_Sn _ _ 33 (mx_icmp_ne 40 36) from sn_196 33) (by omega) (by omega) (fun q24 => ?_) (fun q24 => ?_)
            · skip
              refine mx_J.step (sn_196 40) (fun _ _ => rfl) ?_
              refine mx_J.step (sn_196 41) (fun _ _ => rfl) ?_
              refine mx_J.step (sn_196 42) (fun _ _ => rfl) ?_
              refine mx_J.step (sn_196 44) (fun _ _ => rfl) ?_
              obtain ⟨z25, Z25, h25, hc25, hx25, hG25, hf25, b25⟩ := ct_195_56 (d := d + 0) (l := l) (D := D) (b0 := b0) (ad := ad) (Hb := Hb) (tau := tau) hx3 hG3 (show 0 ≤ x0 ∧ x0 ≤ 384 by omega) (show 0 ≤ w2_5 ∧ w2_5 ≤ 17 by omega) (show 0 ≤ x2 ∧ x2 ≤ 9 by omega)
              refine Jcv hx3 (show mx_Sn _ _ 45 (mx_callv 195 4 12 48) from sn_196 45) a56 s56 hc25 rfl rfl rfl ?_
              exact c48 z25 Z25 h25 (by omega) hx25 hG25 (fr_tr (M := [(64, (-1)), (65, (-1))]) fr_rf (hf25) (M1 := []) rfl rfl)
            · skip
              refine JcI (z := 0) (show mx_Sn _ _ 36 (mx_const (.int 0) 37) from sn_196 36) rfl ?_
              refine mx_J.step (sn_196 37) (fun _ _ => rfl) ?_
              exact c48 0 Z3 h3 (by omega) hx3 hG3 fr_rf
          · skip
            refine mx_J.step (sn_196 27) (fun _ _ => rfl) ?_
            exact c74 w2_4 u2_6 Z3 h3 (by omega) hx3 hG3 fr_rf
    exact c10 (Int.toNat (18 - 0) + 1) 0 0 none Z1 h1 (by omega) (by omega) (by omega) hx1 hG1 fr_rf
theorem ct_196_56 {l : Launch} {D : va_G} {b0 : Nat} {ad : Nat → Nat} {Hb : Heap} {tau : Nat → Int64} {d n s : Nat} {S : Nat → xS} {Z : xZ} {h : mx_H} (hx : XH n s S Z h) (hG : GI n S Z)  {x0 x1 x2 : Int} (p0 : 0 ≤ x0 ∧ x0 ≤ 384) (p1 : (-2147483648) ≤ x1 ∧ x1 ≤ 2147483647) (p2 : 0 ≤ x2 ∧ x2 ≤ 9) : ∃ (z : Int) (Z' : xZ) (h' : mx_H), mx_Ca (tB l D b0 ad Hb tau) (d + 4) 196 [.ref 56, xI x0, xI x1, xI x2] h (some (xI z), h') ∧ XH n s S Z' h' ∧ GI n S Z' ∧ fr' [(62, (-1)), (64, (-1)), (65, (-1))] Z Z' ∧ (0 ≤ z ∧ z ≤ 384 ∧ z < Z 56 18) := by
  obtain ⟨r, hca, z, Z', h', e, q⟩ := Jmt (B := tB l D b0 ad Hb tau) (M := mt_196) (mi := 196) (as := [.ref 56, xI x0, xI x1, xI x2]) (d := d + 3) (ls := [some (.ref 56), some (xI x0), some (xI x1), some (xI x2), none, none, none]) rfl rfl rfl rfl rfl rfl (cw_196_56 (l := l) (D := D) (b0 := b0) (ad := ad) (Hb := Hb) (tau := tau) (d := d) (Post := fun r => ∃ (z : Int) (Z' : xZ) (h' : mx_H), r = (some (xI z), h') ∧ XH n s S Z' h' ∧ GI n S Z' ∧ fr' [(62, (-1)), (64, (-1)), (65, (-1))] Z Z' ∧ (0 ≤ z ∧ z ≤ 384 ∧ z < Z 56 18)) hx hG p0 p1 p2 (fun z Z' h' q1 q2 q3 q4 => ⟨z, Z', h', rfl, q1, q2, q3, q4⟩))
  subst e; exact ⟨z, Z', h', hca, q⟩
set_option maxRecDepth 100000 in
theorem cw_198_56 {l : Launch} {D : va_G} {b0 : Nat} {ad : Nat → Nat} {Hb : Heap} {tau : Nat → Int64} {d n s : Nat} {S : Nat → xS} {Z : xZ} {h : mx_H} {Post : mx_R → Prop} (hx : XH n s S Z h) (hG : GI n S Z)  {x0 x1 x2 : Int} (p0 : 0 ≤ x0 ∧ x0 ≤ 384) (p1 : (-2147483648) ≤ x1 ∧ x1 ≤ 2147483647) (p2 : 0 ≤ x2 ∧ x2 ≤ 9) (hP : ∀ (z : Int) (Z' : xZ) (h' : mx_H), XH n s S Z' h' → GI n S Z' → fr' [(62, (-1)), (64, (-1)), (65, (-1))] Z Z' → 0 ≤ z ∧ z ≤ 384 ∧ z < Z 56 18 → Post (some (xI z), h')) : mx_J (tB l D b0 ad Hb tau) mt_198 (d + 4) 0 [some (.ref 56), some (xI x0), some (xI x1), some (xI x2)] [] h Post := by
    have a56 : 56 < n := lt83 (GI_n hG) rfl
    have s56 : S 56 = .inl (12, [0, 2, 2, 2, 2, 0, 0, 0, 0, 0, 0, 0, 0, 0, 0, 2, 2, 2, 0, 2, 2, 2, 0, 0, 2, 2, 2, 2, 2, 2, 0, 0, 2, 2, 2, 2, 2, 2, 2, 2, 2, 2]) := GI_s hG 56 rfl
    refine mx_J.step (sn_198 0) (fun _ _ => rfl) ?_
    refine mx_J.step (sn_198 1) (fun _ _ => rfl) ?_
    refine mx_J.step (sn_198 2) (fun _ _ => rfl) ?_
    have c16 : ∀ (k1_2 : Int), (-1) ≤ k1_2 ∧ k1_2 ≤ 17 → mx_J (tB l D b0 ad Hb tau) mt_198 (d + 4) 16 [some (.ref 56), some (xI x0), some (xI x1), some (xI x2)] [xI k1_2, xI x0, .ref 56] h Post := by
      intro k1_2 f1_0
      refine mx_J.step (sn_198 16) (fun _ _ => rfl) ?_
      have b3 : 0 ≤ Z 56 18 ∧ Z 56 18 ≤ 385 := hG.pr 56 18
      obtain ⟨z2, Z2, h2, hc2, hx2, hG2, hf2, b2⟩ := ct_196_56 (d := d + 0) (l := l) (D := D) (b0 := b0) (ad := ad) (Hb := Hb) (tau := tau) hx hG (show 0 ≤ x0 ∧ x0 ≤ 384 by omega) (show (-2147483648) ≤ k1_2 ∧ k1_2 ≤ 2147483647 by omega) (show 0 ≤ x2 ∧ x2 ≤ 9 by omega)
      refine Jcv hx (show mx_Sn _ _ 17 (mx_callv 196 4 12 20) from sn_198 17) a56 s56 hc2 rfl rfl rfl ?_
      have eq4 : Z2 56 18 = Z 56 18 := (hf2 56 18 rfl)
      exact mx_J.ret (sn_198 20) (fun _ _ => rfl) (hP z2 Z2 h2 hx2 hG2 (fr_tr (M := [(62, (-1)), (64, (-1)), (65, (-1))]) fr_rf (hf2) (M1 := []) rfl rfl) (by omega))
    refine Jif_ne (show mx_Sn _ _ 3 (mx_if_ne 10 6) from sn_198 3) (by omega) (fun q5 => ?_) (fun q5 => ?_)
    · skip
      refine mx_J.step (sn_198 10) (fun _ _ => rfl) ?_
      refine mx_J.step (sn_198 11) (fun _ _ => rfl) ?_
      refine mx_J.step (sn_198 12) (fun _ _ => rfl) ?_
      obtain ⟨z6, hc6, b6⟩ := ct_192_56 (d := d + 2) (l := l) (D := D) (b0 := b0) (ad := ad) (Hb := Hb) (tau := tau) hx hG (show 0 ≤ x0 ∧ x0 ≤ 384 by omega) (show (-2147483648) ≤ x1 ∧ x1 ≤ 2147483647 by omega)
      refine Jcv hx (show mx_Sn _ _ 13 (mx_callv 192 3 12 16) from sn_198 13) a56 s56 hc6 rfl rfl rfl ?_
      exact c16 z6 (by omega)
    · skip
      refine JcI (z := (-1)) (show mx_Sn _ _ 6 (mx_const (.int (-1)) 7) from sn_198 6) rfl ?_
      refine mx_J.step (sn_198 7) (fun _ _ => rfl) ?_
      exact c16 (-1) (by omega)
theorem ct_198_56 {l : Launch} {D : va_G} {b0 : Nat} {ad : Nat → Nat} {Hb : Heap} {tau : Nat → Int64} {d n s : Nat} {S : Nat → xS} {Z : xZ} {h : mx_H} (hx : XH n s S Z h) (hG : GI n S Z)  {x0 x1 x2 : Int} (p0 : 0 ≤ x0 ∧ x0 ≤ 384) (p1 : (-2147483648) ≤ x1 ∧ x1 ≤ 2147483647) (p2 : 0 ≤ x2 ∧ x2 ≤ 9) : ∃ (z : Int) (Z' : xZ) (h' : mx_H), mx_Ca (tB l D b0 ad Hb tau) (d + 5) 198 [.ref 56, xI x0, xI x1, xI x2] h (some (xI z), h') ∧ XH n s S Z' h' ∧ GI n S Z' ∧ fr' [(62, (-1)), (64, (-1)), (65, (-1))] Z Z' ∧ (0 ≤ z ∧ z ≤ 384 ∧ z < Z 56 18) := by
  obtain ⟨r, hca, z, Z', h', e, q⟩ := Jmt (B := tB l D b0 ad Hb tau) (M := mt_198) (mi := 198) (as := [.ref 56, xI x0, xI x1, xI x2]) (d := d + 4) (ls := [some (.ref 56), some (xI x0), some (xI x1), some (xI x2)]) rfl rfl rfl rfl rfl rfl (cw_198_56 (l := l) (D := D) (b0 := b0) (ad := ad) (Hb := Hb) (tau := tau) (d := d) (Post := fun r => ∃ (z : Int) (Z' : xZ) (h' : mx_H), r = (some (xI z), h') ∧ XH n s S Z' h' ∧ GI n S Z' ∧ fr' [(62, (-1)), (64, (-1)), (65, (-1))] Z Z' ∧ (0 ≤ z ∧ z ≤ 384 ∧ z < Z 56 18)) hx hG p0 p1 p2 (fun z Z' h' q1 q2 q3 q4 => ⟨z, Z', h', rfl, q1, q2, q3, q4⟩))
  subst e; exact ⟨z, Z', h', hca, q⟩
set_option maxRecDepth 100000 in
theorem cw_200_56 {l : Launch} {D : va_G} {b0 : Nat} {ad : Nat → Nat} {Hb : Heap} {tau : Nat → Int64} {d n s : Nat} {S : Nat → xS} {Z : xZ} {h : mx_H} {Post : mx_R → Prop} (hx : XH n s S Z h) (hG : GI n S Z)  {x0 : Int} (p0 : (-2147483648) ≤ x0 ∧ x0 ≤ 2147483647) (hP : ∀ (z : Int) (Z' : xZ) (h' : mx_H), XH n s S Z' h' → GI n S Z' → fr' [(56, 0), (64, (-1)), (65, (-1))] Z Z' → (-2) ≤ z ∧ z ≤ 18 → Post (some (xI z), h')) : mx_J (tB l D b0 ad Hb tau) mt_200 (d + 3) 0 [some (.ref 56), some (xI x0)] [] h Post := by
    have a56 : 56 < n := lt83 (GI_n hG) rfl
    have s56 : S 56 = .inl (12, [0, 2, 2, 2, 2, 0, 0, 0, 0, 0, 0, 0, 0, 0, 0, 2, 2, 2, 0, 2, 2, 2, 0, 0, 2, 2, 2, 2, 2, 2, 0, 0, 2, 2, 2, 2, 2, 2, 2, 2, 2, 2]) := GI_s hG 56 rfl
    have a57 : 57 < n := lt83 (GI_n hG) rfl
    have s57 : S 57 = .inr (.int, 2886, 0) := GI_s hG 57 rfl
    refine mx_J.step (sn_200 0) (fun _ _ => rfl) ?_
    refine JcI (z := 0) (show mx_Sn _ _ 1 (mx_const (.int 0) 2) from sn_200 1) rfl ?_
    refine JputI (g := 0) hx (show mx_Sn _ _ 2 (mx_putf 1 12 0 (.int) 5) from sn_200 2) a56 s56 rfl rfl rfl rfl (fun Z1 h1 hx1 hE1 => ?_)
    have hG1 := GI_up hG hE1 (show (-2147483648) ≤ 0 ∧ 0 ≤ 2147483647 by omega) trivial rfl
    refine mx_J.step (sn_200 5) (fun _ _ => rfl) ?_
    refine Ji2l (show mx_Sn _ _ 6 (mx_i2l 7) from sn_200 6) (by omega) ?_
    refine JcL (z := 0) (show mx_Sn _ _ 7 (mx_const (.long 0) 8) from sn_200 7) rfl ?_
    refine mx_J.step (sn_200 8) (fun _ _ => rfl) ?_
    refine mx_J.step (sn_200 9) (fun _ _ => rfl) ?_
    refine JgetR (g := 1) (b := 57) hx1 (show mx_Sn _ _ 10 (mx_getf 12 1 13) from sn_200 10) a56 s56 rfl rfl (hG1.prr 56 1 rfl) ?_
    refine JcI (z := 27) (show mx_Sn _ _ 13 (mx_const (.int 27) 15) from sn_200 13) rfl ?_
    have b3 := GI_st hG 27
    have b4 : 0 ≤ Z 56 18 ∧ Z 56 18 ≤ 385 := hG.pr 56 18
    have b5 : 0 ≤ Z 57 27 ∧ Z 57 27 ≤ 384 := by have hq := GI_ex hG 57 27; replace hq : f57 (27 % 962) (Z 57 27) := hq; unfold f57 at hq; omega
    have b6 : (-2147483648) ≤ Z 57 27 ∧ Z 57 27 ≤ 2147483647 := hG.pr 57 27
    refine JialdI (z := Z 57 27) hx1 (show mx_Sn _ _ 15 (mx_iald 16) from sn_200 15) a57 s57 (by omega) (up_nk hE1 rfl) ?_
    have eq8 : mn Z1 (Z 57 27) = mn Z (Z 57 27) := (mn_c (fun i => up_nk hE1 rfl))
    obtain ⟨z7, hc7, b7⟩ := ct_191_56 (d := d + 1) (l := l) (D := D) (b0 := b0) (ad := ad) (Hb := Hb) (tau := tau) hx1 hG1 (show 0 ≤ Z 57 27 ∧ Z 57 27 ≤ 384 by omega)
    refine Jcv hx1 (show mx_Sn _ _ 16 (mx_callv 191 2 12 19) from sn_200 16) a56 s56 hc7 rfl rfl rfl ?_
    refine JcI (z := 1) (show mx_Sn _ _ 19 (mx_const (.int 1) 20) from sn_200 19) rfl ?_
    refine Jisub (show mx_Sn _ _ 20 (mx_isub 21) from sn_200 20) ?_
    refine Ji2l (show mx_Sn _ _ 21 (mx_i2l 22) from sn_200 21) (by omega) ?_
    obtain ⟨z9, hc9, b9⟩ := ct_154_ (d := d + 2) (l := l) (D := D) (b0 := b0) (ad := ad) (Hb := Hb) (tau := tau) hx1 hG1 (show (-9223372036854775808) ≤ x0 ∧ x0 ≤ 9223372036854775807 by omega) (show (-9223372036854775808) ≤ 0 ∧ 0 ≤ 9223372036854775807 by omega) (show (-9223372036854775808) ≤ z7 - 1 ∧ z7 - 1 ≤ 9223372036854775807 by omega)
    refine Jcs (show mx_Sn _ _ 22 (mx_calls 154 3 25) from sn_200 22) hc9 rfl rfl rfl ?_
    have c52 : ∀ (k10_0 : Int) (Z11 : xZ) (h11 : mx_H), (-2) ≤ k10_0 ∧ k10_0 ≤ 18 → XH n s S Z11 h11 → GI n S Z11 → fr' [(64, (-1)), (65, (-1))] Z1 Z11 → mx_J (tB l D b0 ad Hb tau) mt_200 (d + 3) 52 [some (.ref 56), some (xI x0)] [xI k10_0] h11 Post := by
      intro k10_0 Z11 h11 f10_0 hx11 hG11 hf11
      exact mx_J.ret (sn_200 52) (fun _ _ => rfl) (hP k10_0 Z11 h11 hx11 hG11 (fr_tr (M := [(56, 0), (64, (-1)), (65, (-1))]) (fr_tr (M := [(56, 0), (64, (-1)), (65, (-1))]) fr_rf (fr_up hE1) (M1 := []) rfl rfl) (hf11) rfl rfl) (by omega))
    refine Jif_eq (show mx_Sn _ _ 25 (mx_if_eq 50 28) from sn_200 25) (by omega) (fun q12 => ?_) (fun q12 => ?_)
    · skip
      refine JcI (z := (-2)) (show mx_Sn _ _ 50 (mx_const (.int (-2)) 52) from sn_200 50) rfl ?_
      exact c52 (-2) Z1 h1 (by omega) hx1 hG1 fr_rf
    · skip
      refine mx_J.step (sn_200 28) (fun _ _ => rfl) ?_
      refine mx_J.step (sn_200 29) (fun _ _ => rfl) ?_
      refine JgetR (g := 1) (b := 57) hx1 (show mx_Sn _ _ 30 (mx_getf 12 1 33) from sn_200 30) a56 s56 rfl rfl (hG1.prr 56 1 rfl) ?_
      refine JcI (z := 27) (show mx_Sn _ _ 33 (mx_const (.int 27) 35) from sn_200 33) rfl ?_
      refine JialdI (z := Z 57 27) hx1 (show mx_Sn _ _ 35 (mx_iald 36) from sn_200 35) a57 s57 (by omega) (up_nk hE1 rfl) ?_
      refine mx_J.step (sn_200 36) (fun _ _ => rfl) ?_
      refine mx_J.step (sn_200 37) (fun _ _ => rfl) ?_
      refine JgetR (g := 1) (b := 57) hx1 (show mx_Sn _ _ 38 (mx_getf 12 1 41) from sn_200 38) a56 s56 rfl rfl (hG1.prr 56 1 rfl) ?_
      refine JcI (z := 28) (show mx_Sn _ _ 41 (mx_const (.int 28) 43) from sn_200 41) rfl ?_
      have b15 : 0 ≤ Z 57 28 ∧ Z 57 28 ≤ 9 := by have hq := GI_ex hG 57 28; replace hq : f57 (28 % 962) (Z 57 28) := hq; unfold f57 at hq; omega
      have b16 : (-2147483648) ≤ Z 57 28 ∧ Z 57 28 ≤ 2147483647 := hG.pr 57 28
      refine JialdI (z := Z 57 28) hx1 (show mx_Sn _ _ 43 (mx_iald 44) from sn_200 43) a57 s57 (by omega) (up_nk hE1 rfl) ?_
      obtain ⟨z17, Z17, h17, hc17, hx17, hG17, hf17, b17⟩ := ct_195_56 (d := d + 0) (l := l) (D := D) (b0 := b0) (ad := ad) (Hb := Hb) (tau := tau) hx1 hG1 (show 0 ≤ Z 57 27 ∧ Z 57 27 ≤ 384 by omega) (show 0 ≤ x0 ∧ x0 ≤ 17 by omega) (show 0 ≤ Z 57 28 ∧ Z 57 28 ≤ 9 by omega)
      refine Jcv hx1 (show mx_Sn _ _ 44 (mx_callv 195 4 12 47) from sn_200 44) a56 s56 hc17 rfl rfl rfl ?_
      refine mx_J.step (sn_200 47) (fun _ _ => rfl) ?_
      exact c52 z17 Z17 h17 (by omega) hx17 hG17 (fr_tr (M := [(64, (-1)), (65, (-1))]) fr_rf (hf17) (M1 := []) rfl rfl)
theorem ct_200_56 {l : Launch} {D : va_G} {b0 : Nat} {ad : Nat → Nat} {Hb : Heap} {tau : Nat → Int64} {d n s : Nat} {S : Nat → xS} {Z : xZ} {h : mx_H} (hx : XH n s S Z h) (hG : GI n S Z)  {x0 : Int} (p0 : (-2147483648) ≤ x0 ∧ x0 ≤ 2147483647) : ∃ (z : Int) (Z' : xZ) (h' : mx_H), mx_Ca (tB l D b0 ad Hb tau) (d + 4) 200 [.ref 56, xI x0] h (some (xI z), h') ∧ XH n s S Z' h' ∧ GI n S Z' ∧ fr' [(56, 0), (64, (-1)), (65, (-1))] Z Z' ∧ ((-2) ≤ z ∧ z ≤ 18) := by
  obtain ⟨r, hca, z, Z', h', e, q⟩ := Jmt (B := tB l D b0 ad Hb tau) (M := mt_200) (mi := 200) (as := [.ref 56, xI x0]) (d := d + 3) (ls := [some (.ref 56), some (xI x0)]) rfl rfl rfl rfl rfl rfl (cw_200_56 (l := l) (D := D) (b0 := b0) (ad := ad) (Hb := Hb) (tau := tau) (d := d) (Post := fun r => ∃ (z : Int) (Z' : xZ) (h' : mx_H), r = (some (xI z), h') ∧ XH n s S Z' h' ∧ GI n S Z' ∧ fr' [(56, 0), (64, (-1)), (65, (-1))] Z Z' ∧ ((-2) ≤ z ∧ z ≤ 18)) hx hG p0 (fun z Z' h' q1 q2 q3 q4 => ⟨z, Z', h', rfl, q1, q2, q3, q4⟩))
  subst e; exact ⟨z, Z', h', hca, q⟩
set_option maxRecDepth 100000 in
theorem cw_201_56 {l : Launch} {D : va_G} {b0 : Nat} {ad : Nat → Nat} {Hb : Heap} {tau : Nat → Int64} {d n s : Nat} {S : Nat → xS} {Z : xZ} {h : mx_H} {Post : mx_R → Prop} (hx : XH n s S Z h) (hG : GI n S Z)  {x0 x1 : Int} (p0 : (-2147483648) ≤ x0 ∧ x0 ≤ 2147483647) (p1 : (-2147483648) ≤ x1 ∧ x1 ≤ 2147483647) (hP : ∀ (z : Int) (Z' : xZ) (h' : mx_H), XH n s S Z' h' → GI n S Z' → fr' [(56, 0), (62, (-1)), (64, (-1)), (65, (-1))] Z Z' → (-5) ≤ z ∧ z ≤ 384 → Post (some (xI z), h')) : mx_J (tB l D b0 ad Hb tau) mt_201 (d + 5) 0 [some (.ref 56), some (xI x0), some (xI x1), none] [] h Post := by
    have a56 : 56 < n := lt83 (GI_n hG) rfl
    have s56 : S 56 = .inl (12, [0, 2, 2, 2, 2, 0, 0, 0, 0, 0, 0, 0, 0, 0, 0, 2, 2, 2, 0, 2, 2, 2, 0, 0, 2, 2, 2, 2, 2, 2, 0, 0, 2, 2, 2, 2, 2, 2, 2, 2, 2, 2]) := GI_s hG 56 rfl
    have a57 : 57 < n := lt83 (GI_n hG) rfl
    have s57 : S 57 = .inr (.int, 2886, 0) := GI_s hG 57 rfl
    refine mx_J.step (sn_201 0) (fun _ _ => rfl) ?_
    refine JcI (z := 0) (show mx_Sn _ _ 1 (mx_const (.int 0) 2) from sn_201 1) rfl ?_
    refine JputI (g := 0) hx (show mx_Sn _ _ 2 (mx_putf 1 12 0 (.int) 5) from sn_201 2) a56 s56 rfl rfl rfl rfl (fun Z1 h1 hx1 hE1 => ?_)
    have hG1 := GI_up hG hE1 (show (-2147483648) ≤ 0 ∧ 0 ≤ 2147483647 by omega) trivial rfl
    refine mx_J.step (sn_201 5) (fun _ _ => rfl) ?_
    refine Ji2l (show mx_Sn _ _ 6 (mx_i2l 7) from sn_201 6) (by omega) ?_
    refine JcL (z := 0) (show mx_Sn _ _ 7 (mx_const (.long 0) 8) from sn_201 7) rfl ?_
    refine JcL (z := 2) (show mx_Sn _ _ 8 (mx_const (.long 2) 11) from sn_201 8) rfl ?_
    obtain ⟨z2, hc2, b2⟩ := ct_154_ (d := d + 4) (l := l) (D := D) (b0 := b0) (ad := ad) (Hb := Hb) (tau := tau) hx1 hG1 (show (-9223372036854775808) ≤ x1 ∧ x1 ≤ 9223372036854775807 by omega) (show (-9223372036854775808) ≤ 0 ∧ 0 ≤ 9223372036854775807 by omega) (show (-9223372036854775808) ≤ 2 ∧ 2 ≤ 9223372036854775807 by omega)
    refine Jcs (show mx_Sn _ _ 11 (mx_calls 154 3 14) from sn_201 11) hc2 rfl rfl rfl ?_
    refine Jif_ne (show mx_Sn _ _ 14 (mx_if_ne 20 17) from sn_201 14) (by omega) (fun q3 => ?_) (fun q3 => ?_)
    · skip
      refine mx_J.step (sn_201 20) (fun _ _ => rfl) ?_
      refine mx_J.step (sn_201 21) (fun _ _ => rfl) ?_
      refine JgetR (g := 1) (b := 57) hx1 (show mx_Sn _ _ 22 (mx_getf 12 1 25) from sn_201 22) a56 s56 rfl rfl (hG1.prr 56 1 rfl) ?_
      refine JcI (z := 27) (show mx_Sn _ _ 25 (mx_const (.int 27) 27) from sn_201 25) rfl ?_
      have b5 := GI_st hG 27
      have b6 : 0 ≤ Z 56 18 ∧ Z 56 18 ≤ 385 := hG.pr 56 18
      have b7 : 0 ≤ Z 57 27 ∧ Z 57 27 ≤ 384 := by have hq := GI_ex hG 57 27; replace hq : f57 (27 % 962) (Z 57 27) := hq; unfold f57 at hq; omega
      have b8 : (-2147483648) ≤ Z 57 27 ∧ Z 57 27 ≤ 2147483647 := hG.pr 57 27
      refine JialdI (z := Z 57 27) hx1 (show mx_Sn _ _ 27 (mx_iald 28) from sn_201 27) a57 s57 (by omega) (up_nk hE1 rfl) ?_
      refine mx_J.step (sn_201 28) (fun _ _ => rfl) ?_
      have eq10 : hv Z1 (Z 57 27) x0 = hv Z (Z 57 27) x0 := (hv_c (fun i => up_nk hE1 rfl))
      obtain ⟨z9, hc9, b9⟩ := ct_197_56 (d := d + 2) (l := l) (D := D) (b0 := b0) (ad := ad) (Hb := Hb) (tau := tau) hx1 hG1 (show 0 ≤ Z 57 27 ∧ Z 57 27 ≤ 384 by omega) (show (-2147483648) ≤ x0 ∧ x0 ≤ 2147483647 by omega)
      refine Jcv hx1 (show mx_Sn _ _ 29 (mx_callv 197 3 12 32) from sn_201 29) a56 s56 hc9 rfl rfl rfl ?_
      refine Jif_ne (show mx_Sn _ _ 32 (mx_if_ne 38 35) from sn_201 32) (by omega) (fun q11 => ?_) (fun q11 => ?_)
      · skip
        refine mx_J.step (sn_201 38) (fun _ _ => rfl) ?_
        refine mx_J.step (sn_201 39) (fun _ _ => rfl) ?_
        refine JgetR (g := 1) (b := 57) hx1 (show mx_Sn _ _ 40 (mx_getf 12 1 43) from sn_201 40) a56 s56 rfl rfl (hG1.prr 56 1 rfl) ?_
        refine JcI (z := 27) (show mx_Sn _ _ 43 (mx_const (.int 27) 45) from sn_201 43) rfl ?_
        refine JialdI (z := Z 57 27) hx1 (show mx_Sn _ _ 45 (mx_iald 46) from sn_201 45) a57 s57 (by omega) (up_nk hE1 rfl) ?_
        refine mx_J.step (sn_201 46) (fun _ _ => rfl) ?_
        refine mx_J.step (sn_201 47) (fun _ _ => rfl) ?_
        refine JgetR (g := 1) (b := 57) hx1 (show mx_Sn _ _ 48 (mx_getf 12 1 51) from sn_201 48) a56 s56 rfl rfl (hG1.prr 56 1 rfl) ?_
        refine JcI (z := 28) (show mx_Sn _ _ 51 (mx_const (.int 28) 53) from sn_201 51) rfl ?_
        have b14 : 0 ≤ Z 57 28 ∧ Z 57 28 ≤ 9 := by have hq := GI_ex hG 57 28; replace hq : f57 (28 % 962) (Z 57 28) := hq; unfold f57 at hq; omega
        have b15 : (-2147483648) ≤ Z 57 28 ∧ Z 57 28 ≤ 2147483647 := hG.pr 57 28
        refine JialdI (z := Z 57 28) hx1 (show mx_Sn _ _ 53 (mx_iald 54) from sn_201 53) a57 s57 (by omega) (up_nk hE1 rfl) ?_
        have eq17 : Z1 56 18 = Z 56 18 := (up_ni hE1 (by decide))
        obtain ⟨z16, Z16, h16, hc16, hx16, hG16, hf16, b16⟩ := ct_198_56 (d := d + 0) (l := l) (D := D) (b0 := b0) (ad := ad) (Hb := Hb) (tau := tau) hx1 hG1 (show 0 ≤ Z 57 27 ∧ Z 57 27 ≤ 384 by omega) (show (-2147483648) ≤ x0 ∧ x0 ≤ 2147483647 by omega) (show 0 ≤ Z 57 28 ∧ Z 57 28 ≤ 9 by omega)
        try rw [eq17] at b16
        refine Jcv hx1 (show mx_Sn _ _ 54 (mx_callv 198 4 12 57) from sn_201 54) a56 s56 hc16 rfl rfl rfl ?_
        refine mx_J.step (ls2 := [some (.ref 56), some (xI x0), some (xI x1), some (xI z16)]) (sn_201 57) (fun _ _ => rfl) ?_
        refine mx_J.step (sn_201 58) (fun _ _ => rfl) ?_
        have c85 : ∀ (k18_0 : Int), 0 ≤ k18_0 ∧ k18_0 ≤ 384 → mx_J (tB l D b0 ad Hb tau) mt_201 (d + 5) 85 [some (.ref 56), some (xI x0), some (xI x1), some (xI z16)] [xI k18_0] h16 Post := by
          intro k18_0 f18_0
          exact mx_J.ret (sn_201 85) (fun _ _ => rfl) (hP k18_0 Z16 h16 hx16 hG16 (fr_tr (M := [(56, 0), (62, (-1)), (64, (-1)), (65, (-1))]) (fr_tr (M := [(56, 0), (62, (-1)), (64, (-1)), (65, (-1))]) fr_rf (fr_up hE1) (M1 := []) rfl rfl) (hf16) rfl rfl) (by omega))
        refine Jif_ne (show mx_Sn _ _ 59 (mx_if_ne 66 62) from sn_201 59) (by omega) (fun q19 => ?_) (fun q19 => ?_)
        · skip
          refine mx_J.step (sn_201 66) (fun _ _ => rfl) ?_
          refine JcI (z := 1) (show mx_Sn _ _ 67 (mx_const (.int 1) 68) from sn_201 67) rfl ?_
          refine Jicmp_ne (show mx_Sn _ _ 68 (mx_icmp_ne 79 71) from sn_201 68) (by omega) (by omega) (fun q20 => ?_) (fun q20 => ?_)
          · skip
            refine mx_J.step (sn_201 79) (fun _ _ => rfl) ?_
            refine mx_J.step (sn_201 80) (fun _ _ => rfl) ?_
            refine JcI (z := 0) (show mx_Sn _ _ 81 (mx_const (.int 0) 82) from sn_201 81) rfl ?_
            have eq22 : Z16 61 (18 * z16 + 0) = Z 61 (18 * z16 + 0) := ((hf16 61 (18 * z16 + 0) rfl).trans (up_nk hE1 rfl))
            have b23 : 0 ≤ Z 61 (18 * z16 + 0) ∧ Z 61 (18 * z16 + 0) ≤ 18 := hG.pr 61 (18 * z16 + 0)
            obtain ⟨z21, hc21, b21⟩ := ct_190_56 (d := d + 4) (l := l) (D := D) (b0 := b0) (ad := ad) (Hb := Hb) (tau := tau) hx16 hG16 (show 0 ≤ z16 ∧ z16 ≤ 384 by omega) (show 0 ≤ 0 ∧ 0 ≤ 17 by omega)
            try rw [eq22] at b21
            refine Jcv hx16 (show mx_Sn _ _ 82 (mx_callv 190 3 12 85) from sn_201 82) a56 s56 hc21 rfl rfl rfl ?_
            exact c85 z21 (by omega)
          · skip
            refine mx_J.step (sn_201 71) (fun _ _ => rfl) ?_
            refine mx_J.step (sn_201 72) (fun _ _ => rfl) ?_
            have eq25 : mn Z16 z16 = mn Z z16 := ((mn_c (fun i => hf16 61 i rfl)).trans (mn_c (fun i => up_nk hE1 rfl)))
            obtain ⟨z24, hc24, b24⟩ := ct_191_56 (d := d + 3) (l := l) (D := D) (b0 := b0) (ad := ad) (Hb := Hb) (tau := tau) hx16 hG16 (show 0 ≤ z16 ∧ z16 ≤ 384 by omega)
            refine Jcv hx16 (show mx_Sn _ _ 73 (mx_callv 191 2 12 76) from sn_201 73) a56 s56 hc24 rfl rfl rfl ?_
            refine mx_J.step (sn_201 76) (fun _ _ => rfl) ?_
            exact c85 z24 (by omega)
        · skip
          refine mx_J.step (sn_201 62) (fun _ _ => rfl) ?_
          refine mx_J.step (sn_201 63) (fun _ _ => rfl) ?_
          exact c85 z16 (by omega)
      · skip
        refine JcI (z := (-5)) (show mx_Sn _ _ 35 (mx_const (.int (-5)) 37) from sn_201 35) rfl ?_
        exact mx_J.ret (sn_201 37) (fun _ _ => rfl) (hP (-5) Z1 h1 hx1 hG1 (fr_tr (M := [(56, 0), (62, (-1)), (64, (-1)), (65, (-1))]) fr_rf (fr_up hE1) (M1 := []) rfl rfl) (by omega))
    · skip
      refine JcI (z := (-2)) (show mx_Sn _ _ 17 (mx_const (.int (-2)) 19) from sn_201 17) rfl ?_
      exact mx_J.ret (sn_201 19) (fun _ _ => rfl) (hP (-2) Z1 h1 hx1 hG1 (fr_tr (M := [(56, 0), (62, (-1)), (64, (-1)), (65, (-1))]) fr_rf (fr_up hE1) (M1 := []) rfl rfl) (by omega))
theorem ct_201_56 {l : Launch} {D : va_G} {b0 : Nat} {ad : Nat → Nat} {Hb : Heap} {tau : Nat → Int64} {d n s : Nat} {S : Nat → xS} {Z : xZ} {h : mx_H} (hx : XH n s S Z h) (hG : GI n S Z)  {x0 x1 : Int} (p0 : (-2147483648) ≤ x0 ∧ x0 ≤ 2147483647) (p1 : (-2147483648) ≤ x1 ∧ x1 ≤ 2147483647) : ∃ (z : Int) (Z' : xZ) (h' : mx_H), mx_Ca (tB l D b0 ad Hb tau) (d + 6) 201 [.ref 56, xI x0, xI x1] h (some (xI z), h') ∧ XH n s S Z' h' ∧ GI n S Z' ∧ fr' [(56, 0), (62, (-1)), (64, (-1)), (65, (-1))] Z Z' ∧ ((-5) ≤ z ∧ z ≤ 384) := by
  obtain ⟨r, hca, z, Z', h', e, q⟩ := Jmt (B := tB l D b0 ad Hb tau) (M := mt_201) (mi := 201) (as := [.ref 56, xI x0, xI x1]) (d := d + 5) (ls := [some (.ref 56), some (xI x0), some (xI x1), none]) rfl rfl rfl rfl rfl rfl (cw_201_56 (l := l) (D := D) (b0 := b0) (ad := ad) (Hb := Hb) (tau := tau) (d := d) (Post := fun r => ∃ (z : Int) (Z' : xZ) (h' : mx_H), r = (some (xI z), h') ∧ XH n s S Z' h' ∧ GI n S Z' ∧ fr' [(56, 0), (62, (-1)), (64, (-1)), (65, (-1))] Z Z' ∧ ((-5) ≤ z ∧ z ≤ 384)) hx hG p0 p1 (fun z Z' h' q1 q2 q3 q4 => ⟨z, Z', h', rfl, q1, q2, q3, q4⟩))
  subst e; exact ⟨z, Z', h', hca, q⟩
set_option maxRecDepth 100000 in
theorem cw_202_56 {l : Launch} {D : va_G} {b0 : Nat} {ad : Nat → Nat} {Hb : Heap} {tau : Nat → Int64} {d n s : Nat} {S : Nat → xS} {Z : xZ} {h : mx_H} {Post : mx_R → Prop} (hx : XH n s S Z h) (hG : GI n S Z)   (hP : ∀ (Z' : xZ) (h' : mx_H), XH n s S Z' h' → GI n S Z' → fr' [(66, (-1))] Z Z' → (Z' 66 0 = Z 57 27) → Post (none, h')) : mx_J (tB l D b0 ad Hb tau) mt_202 (d + 0) 0 [some (.ref 56), none] [] h Post := by
    have a56 : 56 < n := lt83 (GI_n hG) rfl
    have s56 : S 56 = .inl (12, [0, 2, 2, 2, 2, 0, 0, 0, 0, 0, 0, 0, 0, 0, 0, 2, 2, 2, 0, 2, 2, 2, 0, 0, 2, 2, 2, 2, 2, 2, 0, 0, 2, 2, 2, 2, 2, 2, 2, 2, 2, 2]) := GI_s hG 56 rfl
    have a57 : 57 < n := lt83 (GI_n hG) rfl
    have s57 : S 57 = .inr (.int, 2886, 0) := GI_s hG 57 rfl
    have a66 : 66 < n := lt83 (GI_n hG) rfl
    have s66 : S 66 = .inr (.int, 3, 0) := GI_s hG 66 rfl
    refine JcI (z := 0) (show mx_Sn _ _ 0 (mx_const (.int 0) 1) from sn_202 0) rfl ?_
    refine mx_J.step (ls2 := [some (.ref 56), some (xI 0)]) (sn_202 1) (fun _ _ => rfl) ?_
    refine mx_J.step (sn_202 2) (fun _ _ => rfl) ?_
    refine JcI (z := 3) (show mx_Sn _ _ 3 (mx_const (.int 3) 4) from sn_202 3) rfl ?_
    refine Jicmp_ge (show mx_Sn _ _ 4 (mx_icmp_ge 28 7) from sn_202 4) (by omega) (by omega) (fun q1 => absurd q1 (by omega)) (fun q1 => ?_)
    refine mx_J.step (sn_202 7) (fun _ _ => rfl) ?_
    refine JgetR (g := 21) (b := 66) hx (show mx_Sn _ _ 8 (mx_getf 12 21 11) from sn_202 8) a56 s56 rfl rfl (hG.prr 56 21 rfl) ?_
    refine mx_J.step (sn_202 11) (fun _ _ => rfl) ?_
    refine mx_J.step (sn_202 12) (fun _ _ => rfl) ?_
    refine JgetR (g := 1) (b := 57) hx (show mx_Sn _ _ 13 (mx_getf 12 1 16) from sn_202 13) a56 s56 rfl rfl (hG.prr 56 1 rfl) ?_
    refine JcI (z := 27) (show mx_Sn _ _ 16 (mx_const (.int 27) 18) from sn_202 16) rfl ?_
    refine mx_J.step (sn_202 18) (fun _ _ => rfl) ?_
    refine JiaddE (r := 27) (show mx_Sn _ _ 19 (mx_iadd 20) from sn_202 19) (by decide) ?_
    have b4 := GI_st hG 27
    have b5 : 0 ≤ Z 56 18 ∧ Z 56 18 ≤ 385 := hG.pr 56 18
    have b6 : 0 ≤ Z 57 27 ∧ Z 57 27 ≤ 384 := by have hq := GI_ex hG 57 27; replace hq : f57 (27 % 962) (Z 57 27) := hq; unfold f57 at hq; omega
    have b7 : (-2147483648) ≤ Z 57 27 ∧ Z 57 27 ≤ 2147483647 := hG.pr 57 27
    refine JialdI (z := Z 57 27) hx (show mx_Sn _ _ 20 (mx_iald 21) from sn_202 20) a57 s57 (by omega) rfl ?_
    refine JiastI hx (show mx_Sn _ _ 21 (mx_iast 1 22) from sn_202 21) a66 s66 rfl (by omega) (fun Z8 h8 hx8 hE8 => ?_)
    have hG8 := GI_up hG hE8 (show (-2147483648) ≤ Z 57 27 ∧ Z 57 27 ≤ 2147483647 by omega) (show (((0 : Int) = 0 → 0 ≤ (Z 57 27) ∧ (Z 57 27) ≤ 384) ∧ ((0 : Int) = 1 → 0 ≤ (Z 57 27) ∧ (Z 57 27) ≤ 9)) by first | omega | (unfold f57 at *; omega)) rfl
    refine Jiinc (z := 0) (cz := 1) (ls2 := [some (.ref 56), some (xI 1)]) (show mx_Sn _ _ 22 (mx_iinc 1 1 25) from sn_202 22) rfl rfl rfl rfl ?_
    refine mx_J.step (sn_202 25) (fun _ _ => rfl) ?_
    refine mx_J.step (sn_202 2) (fun _ _ => rfl) ?_
    refine JcI (z := 3) (show mx_Sn _ _ 3 (mx_const (.int 3) 4) from sn_202 3) rfl ?_
    refine Jicmp_ge (show mx_Sn _ _ 4 (mx_icmp_ge 28 7) from sn_202 4) (by omega) (by omega) (fun q9 => absurd q9 (by omega)) (fun q9 => ?_)
    refine mx_J.step (sn_202 7) (fun _ _ => rfl) ?_
    refine JgetR (g := 21) (b := 66) hx8 (show mx_Sn _ _ 8 (mx_getf 12 21 11) from sn_202 8) a56 s56 rfl rfl (hG8.prr 56 21 rfl) ?_
    refine mx_J.step (sn_202 11) (fun _ _ => rfl) ?_
    refine mx_J.step (sn_202 12) (fun _ _ => rfl) ?_
    refine JgetR (g := 1) (b := 57) hx8 (show mx_Sn _ _ 13 (mx_getf 12 1 16) from sn_202 13) a56 s56 rfl rfl (hG8.prr 56 1 rfl) ?_
    refine JcI (z := 27) (show mx_Sn _ _ 16 (mx_const (.int 27) 18) from sn_202 16) rfl ?_
    refine mx_J.step (sn_202 18) (fun _ _ => rfl) ?_
    refine JiaddE (r := 28) (show mx_Sn _ _ 19 (mx_iadd 20) from sn_202 19) (by decide) ?_
    have b12 : 0 ≤ Z 57 28 ∧ Z 57 28 ≤ 9 := by have hq := GI_ex hG 57 28; replace hq : f57 (28 % 962) (Z 57 28) := hq; unfold f57 at hq; omega
    have b13 : (-2147483648) ≤ Z 57 28 ∧ Z 57 28 ≤ 2147483647 := hG.pr 57 28
    refine JialdI (z := Z 57 28) hx8 (show mx_Sn _ _ 20 (mx_iald 21) from sn_202 20) a57 s57 (by omega) (up_nk hE8 rfl) ?_
    refine JiastI hx8 (show mx_Sn _ _ 21 (mx_iast 1 22) from sn_202 21) a66 s66 rfl (by omega) (fun Z14 h14 hx14 hE14 => ?_)
    have hG14 := GI_up hG8 hE14 (show (-2147483648) ≤ Z 57 28 ∧ Z 57 28 ≤ 2147483647 by omega) (show (((1 : Int) = 0 → 0 ≤ (Z 57 28) ∧ (Z 57 28) ≤ 384) ∧ ((1 : Int) = 1 → 0 ≤ (Z 57 28) ∧ (Z 57 28) ≤ 9)) by first | omega | (unfold f57 at *; omega)) rfl
    refine Jiinc (z := 1) (cz := 1) (ls2 := [some (.ref 56), some (xI 2)]) (show mx_Sn _ _ 22 (mx_iinc 1 1 25) from sn_202 22) rfl rfl rfl rfl ?_
    refine mx_J.step (sn_202 25) (fun _ _ => rfl) ?_
    refine mx_J.step (sn_202 2) (fun _ _ => rfl) ?_
    refine JcI (z := 3) (show mx_Sn _ _ 3 (mx_const (.int 3) 4) from sn_202 3) rfl ?_
    refine Jicmp_ge (show mx_Sn _ _ 4 (mx_icmp_ge 28 7) from sn_202 4) (by omega) (by omega) (fun q15 => absurd q15 (by omega)) (fun q15 => ?_)
    refine mx_J.step (sn_202 7) (fun _ _ => rfl) ?_
    refine JgetR (g := 21) (b := 66) hx14 (show mx_Sn _ _ 8 (mx_getf 12 21 11) from sn_202 8) a56 s56 rfl rfl (hG14.prr 56 21 rfl) ?_
    refine mx_J.step (sn_202 11) (fun _ _ => rfl) ?_
    refine mx_J.step (sn_202 12) (fun _ _ => rfl) ?_
    refine JgetR (g := 1) (b := 57) hx14 (show mx_Sn _ _ 13 (mx_getf 12 1 16) from sn_202 13) a56 s56 rfl rfl (hG14.prr 56 1 rfl) ?_
    refine JcI (z := 27) (show mx_Sn _ _ 16 (mx_const (.int 27) 18) from sn_202 16) rfl ?_
    refine mx_J.step (sn_202 18) (fun _ _ => rfl) ?_
    refine JiaddE (r := 29) (show mx_Sn _ _ 19 (mx_iadd 20) from sn_202 19) (by decide) ?_
    have b18 : (-2147483648) ≤ Z 57 29 ∧ Z 57 29 ≤ 2147483647 := hG.pr 57 29
    refine JialdI (z := Z 57 29) hx14 (show mx_Sn _ _ 20 (mx_iald 21) from sn_202 20) a57 s57 (by omega) ((up_nk hE14 rfl).trans (up_nk hE8 rfl)) ?_
    refine JiastI hx14 (show mx_Sn _ _ 21 (mx_iast 1 22) from sn_202 21) a66 s66 rfl (by omega) (fun Z19 h19 hx19 hE19 => ?_)
    have hG19 := GI_up hG14 hE19 (show (-2147483648) ≤ Z 57 29 ∧ Z 57 29 ≤ 2147483647 by omega) (show (((2 : Int) = 0 → 0 ≤ (Z 57 29) ∧ (Z 57 29) ≤ 384) ∧ ((2 : Int) = 1 → 0 ≤ (Z 57 29) ∧ (Z 57 29) ≤ 9)) by first | omega | (unfold f57 at *; omega)) rfl
    refine Jiinc (z := 2) (cz := 1) (ls2 := [some (.ref 56), some (xI 3)]) (show mx_Sn _ _ 22 (mx_iinc 1 1 25) from sn_202 22) rfl rfl rfl rfl ?_
    refine mx_J.step (sn_202 25) (fun _ _ => rfl) ?_
    refine mx_J.step (sn_202 2) (fun _ _ => rfl) ?_
    refine JcI (z := 3) (show mx_Sn _ _ 3 (mx_const (.int 3) 4) from sn_202 3) rfl ?_
    refine Jicmp_ge (show mx_Sn _ _ 4 (mx_icmp_ge 28 7) from sn_202 4) (by omega) (by omega) (fun q20 => ?_) (fun q20 => absurd q20 (by omega))
    have eq21 : Z19 66 0 = Z 57 27 := ((up_ni hE19 (by decide)).trans ((up_ni hE14 (by decide)).trans (up_at hE8)))
    have eq22 : Z19 57 27 = Z 57 27 := ((up_nk hE19 rfl).trans ((up_nk hE14 rfl).trans (up_nk hE8 rfl)))
    exact mx_J.ret (sn_202 28) (fun _ _ => rfl) (hP Z19 h19 hx19 hG19 (fr_tr (M := [(66, (-1))]) (fr_tr (M := [(66, (-1))]) (fr_tr (M := [(66, (-1))]) fr_rf (fr_ua hE8) (M1 := []) rfl rfl) (fr_ua hE14) rfl rfl) (fr_ua hE19) rfl rfl) (by omega))
theorem ct_202_56 {l : Launch} {D : va_G} {b0 : Nat} {ad : Nat → Nat} {Hb : Heap} {tau : Nat → Int64} {d n s : Nat} {S : Nat → xS} {Z : xZ} {h : mx_H} (hx : XH n s S Z h) (hG : GI n S Z)   : ∃ (Z' : xZ) (h' : mx_H), mx_Ca (tB l D b0 ad Hb tau) (d + 1) 202 [.ref 56] h (none, h') ∧ XH n s S Z' h' ∧ GI n S Z' ∧ fr' [(66, (-1))] Z Z' ∧ ((Z' 66 0 = Z 57 27)) := by
  obtain ⟨r, hca, Z', h', e, q⟩ := Jmt (B := tB l D b0 ad Hb tau) (M := mt_202) (mi := 202) (as := [.ref 56]) (d := d + 0) (ls := [some (.ref 56), none]) rfl rfl rfl rfl rfl rfl (cw_202_56 (l := l) (D := D) (b0 := b0) (ad := ad) (Hb := Hb) (tau := tau) (d := d) (Post := fun r => ∃ (Z' : xZ) (h' : mx_H), r = (none, h') ∧ XH n s S Z' h' ∧ GI n S Z' ∧ fr' [(66, (-1))] Z Z' ∧ ((Z' 66 0 = Z 57 27))) hx hG  (fun Z' h' q1 q2 q3 q4 => ⟨Z', h', rfl, q1, q2, q3, q4⟩))
  subst e; exact ⟨Z', h', hca, q⟩
set_option maxRecDepth 100000 in
theorem cw_203_56 {l : Launch} {D : va_G} {b0 : Nat} {ad : Nat → Nat} {Hb : Heap} {tau : Nat → Int64} {d n s : Nat} {S : Nat → xS} {Z : xZ} {h : mx_H} {Post : mx_R → Prop} (hx : XH n s S Z h) (hG : GI n S Z)   (k0 : Z 66 0 < Z 56 18) (hP : ∀ (Z' : xZ) (h' : mx_H), XH n s S Z' h' → GI n S Z' → fr' [(57, (-1))] Z Z' → Post (none, h')) : mx_J (tB l D b0 ad Hb tau) mt_203 (d + 0) 0 [some (.ref 56), none] [] h Post := by
    have a56 : 56 < n := lt83 (GI_n hG) rfl
    have s56 : S 56 = .inl (12, [0, 2, 2, 2, 2, 0, 0, 0, 0, 0, 0, 0, 0, 0, 0, 2, 2, 2, 0, 2, 2, 2, 0, 0, 2, 2, 2, 2, 2, 2, 0, 0, 2, 2, 2, 2, 2, 2, 2, 2, 2, 2]) := GI_s hG 56 rfl
    have a57 : 57 < n := lt83 (GI_n hG) rfl
    have s57 : S 57 = .inr (.int, 2886, 0) := GI_s hG 57 rfl
    have a66 : 66 < n := lt83 (GI_n hG) rfl
    have s66 : S 66 = .inr (.int, 3, 0) := GI_s hG 66 rfl
    refine JcI (z := 0) (show mx_Sn _ _ 0 (mx_const (.int 0) 1) from sn_203 0) rfl ?_
    refine mx_J.step (ls2 := [some (.ref 56), some (xI 0)]) (sn_203 1) (fun _ _ => rfl) ?_
    refine mx_J.step (sn_203 2) (fun _ _ => rfl) ?_
    refine JcI (z := 3) (show mx_Sn _ _ 3 (mx_const (.int 3) 4) from sn_203 3) rfl ?_
    refine Jicmp_ge (show mx_Sn _ _ 4 (mx_icmp_ge 28 7) from sn_203 4) (by omega) (by omega) (fun q1 => absurd q1 (by omega)) (fun q1 => ?_)
    refine mx_J.step (sn_203 7) (fun _ _ => rfl) ?_
    refine JgetR (g := 1) (b := 57) hx (show mx_Sn _ _ 8 (mx_getf 12 1 11) from sn_203 8) a56 s56 rfl rfl (hG.prr 56 1 rfl) ?_
    refine JcI (z := 27) (show mx_Sn _ _ 11 (mx_const (.int 27) 13) from sn_203 11) rfl ?_
    refine mx_J.step (sn_203 13) (fun _ _ => rfl) ?_
    refine JiaddE (r := 27) (show mx_Sn _ _ 14 (mx_iadd 15) from sn_203 14) (by decide) ?_
    refine mx_J.step (sn_203 15) (fun _ _ => rfl) ?_
    refine JgetR (g := 21) (b := 66) hx (show mx_Sn _ _ 16 (mx_getf 12 21 19) from sn_203 16) a56 s56 rfl rfl (hG.prr 56 21 rfl) ?_
    refine mx_J.step (sn_203 19) (fun _ _ => rfl) ?_
    have b4 : (-2147483648) ≤ Z 66 0 ∧ Z 66 0 ≤ 2147483647 := hG.pr 66 0
    have b5 : (((0 : Int) = 0 → 0 ≤ (Z 66 0) ∧ (Z 66 0) ≤ 384) ∧ ((0 : Int) = 1 → 0 ≤ (Z 66 0) ∧ (Z 66 0) ≤ 9)) := GI_ex hG 66 0
    refine JialdI (z := Z 66 0) hx (show mx_Sn _ _ 20 (mx_iald 21) from sn_203 20) a66 s66 (by omega) rfl ?_
    refine JiastI hx (show mx_Sn _ _ 21 (mx_iast 1 22) from sn_203 21) a57 s57 rfl (by omega) (fun Z6 h6 hx6 hE6 => ?_)
    have b7 : 0 ≤ Z 56 18 ∧ Z 56 18 ≤ 385 := hG.pr 56 18
    have hG6 := GI_up57 hG hE6 (show (-2147483648) ≤ Z 66 0 ∧ Z 66 0 ≤ 2147483647 by omega) (show f57 ((27) % 962) (Z 66 0) by first | assumption | (unfold f57; omega) | (unfold f57 at *; omega)) (by omega) (by omega)
    refine Jiinc (z := 0) (cz := 1) (ls2 := [some (.ref 56), some (xI 1)]) (show mx_Sn _ _ 22 (mx_iinc 1 1 25) from sn_203 22) rfl rfl rfl rfl ?_
    refine mx_J.step (sn_203 25) (fun _ _ => rfl) ?_
    refine mx_J.step (sn_203 2) (fun _ _ => rfl) ?_
    refine JcI (z := 3) (show mx_Sn _ _ 3 (mx_const (.int 3) 4) from sn_203 3) rfl ?_
    refine Jicmp_ge (show mx_Sn _ _ 4 (mx_icmp_ge 28 7) from sn_203 4) (by omega) (by omega) (fun q8 => absurd q8 (by omega)) (fun q8 => ?_)
    refine mx_J.step (sn_203 7) (fun _ _ => rfl) ?_
    refine JgetR (g := 1) (b := 57) hx6 (show mx_Sn _ _ 8 (mx_getf 12 1 11) from sn_203 8) a56 s56 rfl rfl (hG6.prr 56 1 rfl) ?_
    refine JcI (z := 27) (show mx_Sn _ _ 11 (mx_const (.int 27) 13) from sn_203 11) rfl ?_
    refine mx_J.step (sn_203 13) (fun _ _ => rfl) ?_
    refine JiaddE (r := 28) (show mx_Sn _ _ 14 (mx_iadd 15) from sn_203 14) (by decide) ?_
    refine mx_J.step (sn_203 15) (fun _ _ => rfl) ?_
    refine JgetR (g := 21) (b := 66) hx6 (show mx_Sn _ _ 16 (mx_getf 12 21 19) from sn_203 16) a56 s56 rfl rfl (hG6.prr 56 21 rfl) ?_
    refine mx_J.step (sn_203 19) (fun _ _ => rfl) ?_
    have b11 : (-2147483648) ≤ Z 66 1 ∧ Z 66 1 ≤ 2147483647 := hG.pr 66 1
    have b12 : (((1 : Int) = 0 → 0 ≤ (Z 66 1) ∧ (Z 66 1) ≤ 384) ∧ ((1 : Int) = 1 → 0 ≤ (Z 66 1) ∧ (Z 66 1) ≤ 9)) := GI_ex hG 66 1
    refine JialdI (z := Z 66 1) hx6 (show mx_Sn _ _ 20 (mx_iald 21) from sn_203 20) a66 s66 (by omega) (up_nk hE6 rfl) ?_
    refine JiastI hx6 (show mx_Sn _ _ 21 (mx_iast 1 22) from sn_203 21) a57 s57 rfl (by omega) (fun Z13 h13 hx13 hE13 => ?_)
    have eq14 : Z6 56 18 = Z 56 18 := (up_nk hE6 rfl)
    have hG13 := GI_up57 hG6 hE13 (show (-2147483648) ≤ Z 66 1 ∧ Z 66 1 ≤ 2147483647 by omega) (show f57 ((28) % 962) (Z 66 1) by first | assumption | (unfold f57; omega) | (unfold f57 at *; omega)) (by omega) (by omega)
    refine Jiinc (z := 1) (cz := 1) (ls2 := [some (.ref 56), some (xI 2)]) (show mx_Sn _ _ 22 (mx_iinc 1 1 25) from sn_203 22) rfl rfl rfl rfl ?_
    refine mx_J.step (sn_203 25) (fun _ _ => rfl) ?_
    refine mx_J.step (sn_203 2) (fun _ _ => rfl) ?_
    refine JcI (z := 3) (show mx_Sn _ _ 3 (mx_const (.int 3) 4) from sn_203 3) rfl ?_
    refine Jicmp_ge (show mx_Sn _ _ 4 (mx_icmp_ge 28 7) from sn_203 4) (by omega) (by omega) (fun q15 => absurd q15 (by omega)) (fun q15 => ?_)
    refine mx_J.step (sn_203 7) (fun _ _ => rfl) ?_
    refine JgetR (g := 1) (b := 57) hx13 (show mx_Sn _ _ 8 (mx_getf 12 1 11) from sn_203 8) a56 s56 rfl rfl (hG13.prr 56 1 rfl) ?_
    refine JcI (z := 27) (show mx_Sn _ _ 11 (mx_const (.int 27) 13) from sn_203 11) rfl ?_
    refine mx_J.step (sn_203 13) (fun _ _ => rfl) ?_
    refine JiaddE (r := 29) (show mx_Sn _ _ 14 (mx_iadd 15) from sn_203 14) (by decide) ?_
    refine mx_J.step (sn_203 15) (fun _ _ => rfl) ?_
    refine JgetR (g := 21) (b := 66) hx13 (show mx_Sn _ _ 16 (mx_getf 12 21 19) from sn_203 16) a56 s56 rfl rfl (hG13.prr 56 21 rfl) ?_
    refine mx_J.step (sn_203 19) (fun _ _ => rfl) ?_
    have b18 : (-2147483648) ≤ Z 66 2 ∧ Z 66 2 ≤ 2147483647 := hG.pr 66 2
    have b19 : (((2 : Int) = 0 → 0 ≤ (Z 66 2) ∧ (Z 66 2) ≤ 384) ∧ ((2 : Int) = 1 → 0 ≤ (Z 66 2) ∧ (Z 66 2) ≤ 9)) := GI_ex hG 66 2
    refine JialdI (z := Z 66 2) hx13 (show mx_Sn _ _ 20 (mx_iald 21) from sn_203 20) a66 s66 (by omega) ((up_nk hE13 rfl).trans (up_nk hE6 rfl)) ?_
    refine JiastI hx13 (show mx_Sn _ _ 21 (mx_iast 1 22) from sn_203 21) a57 s57 rfl (by omega) (fun Z20 h20 hx20 hE20 => ?_)
    have eq21 : Z13 56 18 = Z 56 18 := ((up_nk hE13 rfl).trans (up_nk hE6 rfl))
    have hG20 := GI_up57 hG13 hE20 (show (-2147483648) ≤ Z 66 2 ∧ Z 66 2 ≤ 2147483647 by omega) (show f57 ((29) % 962) (Z 66 2) by first | assumption | (unfold f57; omega) | (unfold f57 at *; omega)) (by omega) (by omega)
    refine Jiinc (z := 2) (cz := 1) (ls2 := [some (.ref 56), some (xI 3)]) (show mx_Sn _ _ 22 (mx_iinc 1 1 25) from sn_203 22) rfl rfl rfl rfl ?_
    refine mx_J.step (sn_203 25) (fun _ _ => rfl) ?_
    refine mx_J.step (sn_203 2) (fun _ _ => rfl) ?_
    refine JcI (z := 3) (show mx_Sn _ _ 3 (mx_const (.int 3) 4) from sn_203 3) rfl ?_
    refine Jicmp_ge (show mx_Sn _ _ 4 (mx_icmp_ge 28 7) from sn_203 4) (by omega) (by omega) (fun q22 => ?_) (fun q22 => absurd q22 (by omega))
    have eq23 : Z20 66 0 = Z 66 0 := ((up_nk hE20 rfl).trans ((up_nk hE13 rfl).trans (up_nk hE6 rfl)))
    have eq24 : Z20 56 18 = Z 56 18 := ((up_nk hE20 rfl).trans ((up_nk hE13 rfl).trans (up_nk hE6 rfl)))
    exact mx_J.ret (sn_203 28) (fun _ _ => rfl) (hP Z20 h20 hx20 hG20 (fr_tr (M := [(57, (-1))]) (fr_tr (M := [(57, (-1))]) (fr_tr (M := [(57, (-1))]) fr_rf (fr_ua hE6) (M1 := []) rfl rfl) (fr_ua hE13) rfl rfl) (fr_ua hE20) rfl rfl))
theorem ct_203_56 {l : Launch} {D : va_G} {b0 : Nat} {ad : Nat → Nat} {Hb : Heap} {tau : Nat → Int64} {d n s : Nat} {S : Nat → xS} {Z : xZ} {h : mx_H} (hx : XH n s S Z h) (hG : GI n S Z)   (k0 : Z 66 0 < Z 56 18) : ∃ (Z' : xZ) (h' : mx_H), mx_Ca (tB l D b0 ad Hb tau) (d + 1) 203 [.ref 56] h (none, h') ∧ XH n s S Z' h' ∧ GI n S Z' ∧ fr' [(57, (-1))] Z Z' := by
  obtain ⟨r, hca, Z', h', e, q⟩ := Jmt (B := tB l D b0 ad Hb tau) (M := mt_203) (mi := 203) (as := [.ref 56]) (d := d + 0) (ls := [some (.ref 56), none]) rfl rfl rfl rfl rfl rfl (cw_203_56 (l := l) (D := D) (b0 := b0) (ad := ad) (Hb := Hb) (tau := tau) (d := d) (Post := fun r => ∃ (Z' : xZ) (h' : mx_H), r = (none, h') ∧ XH n s S Z' h' ∧ GI n S Z' ∧ fr' [(57, (-1))] Z Z') hx hG k0 (fun Z' h' q1 q2 q3 => ⟨Z', h', rfl, q1, q2, q3⟩))
  subst e; exact ⟨Z', h', hca, q⟩
set_option maxRecDepth 100000 in
theorem cw_204_56 {l : Launch} {D : va_G} {b0 : Nat} {ad : Nat → Nat} {Hb : Heap} {tau : Nat → Int64} {d n s : Nat} {S : Nat → xS} {Z : xZ} {h : mx_H} {Post : mx_R → Prop} (hx : XH n s S Z h) (hG : GI n S Z)   (k0 : Z 66 0 < Z 56 18) (hP : ∀ (Z' : xZ) (h' : mx_H), XH n s S Z' h' → GI n S Z' → fr' [(57, (-1))] Z Z' → Post (none, h')) : mx_J (tB l D b0 ad Hb tau) mt_204 (d + 0) 0 [some (.ref 56), none] [] h Post := by
    have a56 : 56 < n := lt83 (GI_n hG) rfl
    have s56 : S 56 = .inl (12, [0, 2, 2, 2, 2, 0, 0, 0, 0, 0, 0, 0, 0, 0, 0, 2, 2, 2, 0, 2, 2, 2, 0, 0, 2, 2, 2, 2, 2, 2, 0, 0, 2, 2, 2, 2, 2, 2, 2, 2, 2, 2]) := GI_s hG 56 rfl
    have a57 : 57 < n := lt83 (GI_n hG) rfl
    have s57 : S 57 = .inr (.int, 2886, 0) := GI_s hG 57 rfl
    have a66 : 66 < n := lt83 (GI_n hG) rfl
    have s66 : S 66 = .inr (.int, 3, 0) := GI_s hG 66 rfl
    refine mx_J.step (sn_204 0) (fun _ _ => rfl) ?_
    refine JgetR (g := 1) (b := 57) hx (show mx_Sn _ _ 1 (mx_getf 12 1 4) from sn_204 1) a56 s56 rfl rfl (hG.prr 56 1 rfl) ?_
    refine JcI (z := 30) (show mx_Sn _ _ 4 (mx_const (.int 30) 6) from sn_204 4) rfl ?_
    have b2 : 0 ≤ Z 57 30 ∧ Z 57 30 ≤ 10 := by have hq := GI_ex hG 57 30; replace hq : f57 (30 % 962) (Z 57 30) := hq; unfold f57 at hq; omega
    have b3 : (-2147483648) ≤ Z 57 30 ∧ Z 57 30 ≤ 2147483647 := hG.pr 57 30
    refine JialdI (z := Z 57 30) hx (show mx_Sn _ _ 6 (mx_iald 7) from sn_204 6) a57 s57 (by omega) rfl ?_
    refine JcI (z := 10) (show mx_Sn _ _ 7 (mx_const (.int 10) 9) from sn_204 7) rfl ?_
    have c55 : ∀ (u4_1 : Option Value) (Z5 : xZ) (h5 : mx_H), (Z5 57 30 ≤ 9) → XH n s S Z5 h5 → GI n S Z5 → fr' [(57, (-1))] Z Z5 → mx_J (tB l D b0 ad Hb tau) mt_204 (d + 0) 55 [some (.ref 56), u4_1] [] h5 Post := by
      intro u4_1 Z5 h5 f4_0 hx5 hG5 hf5
      have b6 : 0 ≤ Z5 57 30 ∧ Z5 57 30 ≤ 10 := by have hq := GI_ex hG5 57 30; replace hq : f57 (30 % 962) (Z5 57 30) := hq; unfold f57 at hq; omega
      have b7 : (-2147483648) ≤ Z5 57 30 ∧ Z5 57 30 ≤ 2147483647 := hG5.pr 57 30
      refine JcI (z := 0) (show mx_Sn _ _ 55 (mx_const (.int 0) 56) from sn_204 55) rfl ?_
      refine mx_J.step (ls2 := [some (.ref 56), some (xI 0)]) (sn_204 56) (fun _ _ => rfl) ?_
      refine mx_J.step (sn_204 57) (fun _ _ => rfl) ?_
      refine JcI (z := 3) (show mx_Sn _ _ 58 (mx_const (.int 3) 59) from sn_204 58) rfl ?_
      refine Jicmp_ge (show mx_Sn _ _ 59 (mx_icmp_ge 93 62) from sn_204 59) (by omega) (by omega) (fun q8 => absurd q8 (by omega)) (fun q8 => ?_)
      refine mx_J.step (sn_204 62) (fun _ _ => rfl) ?_
      refine JgetR (g := 1) (b := 57) hx5 (show mx_Sn _ _ 63 (mx_getf 12 1 66) from sn_204 63) a56 s56 rfl rfl (hG5.prr 56 1 rfl) ?_
      refine JcI (z := 31) (show mx_Sn _ _ 66 (mx_const (.int 31) 68) from sn_204 66) rfl ?_
      refine JcI (z := 3) (show mx_Sn _ _ 68 (mx_const (.int 3) 69) from sn_204 68) rfl ?_
      refine mx_J.step (sn_204 69) (fun _ _ => rfl) ?_
      refine JgetR (g := 1) (b := 57) hx5 (show mx_Sn _ _ 70 (mx_getf 12 1 73) from sn_204 70) a56 s56 rfl rfl (hG5.prr 56 1 rfl) ?_
      refine JcI (z := 30) (show mx_Sn _ _ 73 (mx_const (.int 30) 75) from sn_204 73) rfl ?_
      refine JialdI (z := Z5 57 30) hx5 (show mx_Sn _ _ 75 (mx_iald 76) from sn_204 75) a57 s57 (by omega) rfl ?_
      refine Jimul (show mx_Sn _ _ 76 (mx_imul 77) from sn_204 76) ?_
      refine Jiadd (show mx_Sn _ _ 77 (mx_iadd 78) from sn_204 77) ?_
      refine mx_J.step (sn_204 78) (fun _ _ => rfl) ?_
      refine Jiadd (show mx_Sn _ _ 79 (mx_iadd 80) from sn_204 79) ?_
      refine mx_J.step (sn_204 80) (fun _ _ => rfl) ?_
      refine JgetR (g := 21) (b := 66) hx5 (show mx_Sn _ _ 81 (mx_getf 12 21 84) from sn_204 81) a56 s56 rfl rfl (hG5.prr 56 21 rfl) ?_
      refine mx_J.step (sn_204 84) (fun _ _ => rfl) ?_
      have b12 : (-2147483648) ≤ Z 66 0 ∧ Z 66 0 ≤ 2147483647 := hG.pr 66 0
      have b13 : (((0 : Int) = 0 → 0 ≤ (Z 66 0) ∧ (Z 66 0) ≤ 384) ∧ ((0 : Int) = 1 → 0 ≤ (Z 66 0) ∧ (Z 66 0) ≤ 9)) := GI_ex hG 66 0
      refine JialdI (z := Z 66 0) hx5 (show mx_Sn _ _ 85 (mx_iald 86) from sn_204 85) a66 s66 (by omega) (hf5 66 0 rfl) ?_
      refine JiastI hx5 (show mx_Sn _ _ 86 (mx_iast 1 87) from sn_204 86) a57 s57 rfl (by omega) (fun Z14 h14 hx14 hE14 => ?_)
      have eq15 : Z5 56 18 = Z 56 18 := (hf5 56 18 rfl)
      have b16 : 0 ≤ Z 56 18 ∧ Z 56 18 ≤ 385 := hG.pr 56 18
      have hG14 := GI_up57 hG5 hE14 (show (-2147483648) ≤ Z 66 0 ∧ Z 66 0 ≤ 2147483647 by omega) (show f57 (((31 + (3 * (Z5 57 30))) + 0) % 962) (Z 66 0) by first | (rw [Int.emod_eq_of_lt (by omega) (by omega)]; unfold f57; omega) | assumption | (unfold f57; omega) | (unfold f57 at *; omega)) (by omega) (by omega)
      refine Jiinc (z := 0) (cz := 1) (ls2 := [some (.ref 56), some (xI 1)]) (show mx_Sn _ _ 87 (mx_iinc 1 1 90) from sn_204 87) rfl rfl rfl rfl ?_
      refine mx_J.step (sn_204 90) (fun _ _ => rfl) ?_
      refine mx_J.step (sn_204 57) (fun _ _ => rfl) ?_
      refine JcI (z := 3) (show mx_Sn _ _ 58 (mx_const (.int 3) 59) from sn_204 58) rfl ?_
      refine Jicmp_ge (show mx_Sn _ _ 59 (mx_icmp_ge 93 62) from sn_204 59) (by omega) (by omega) (fun q17 => absurd q17 (by omega)) (fun q17 => ?_)
      refine mx_J.step (sn_204 62) (fun _ _ => rfl) ?_
      refine JgetR (g := 1) (b := 57) hx14 (show mx_Sn _ _ 63 (mx_getf 12 1 66) from sn_204 63) a56 s56 rfl rfl (hG14.prr 56 1 rfl) ?_
      refine JcI (z := 31) (show mx_Sn _ _ 66 (mx_const (.int 31) 68) from sn_204 66) rfl ?_
      refine JcI (z := 3) (show mx_Sn _ _ 68 (mx_const (.int 3) 69) from sn_204 68) rfl ?_
      refine mx_J.step (sn_204 69) (fun _ _ => rfl) ?_
      refine JgetR (g := 1) (b := 57) hx14 (show mx_Sn _ _ 70 (mx_getf 12 1 73) from sn_204 70) a56 s56 rfl rfl (hG14.prr 56 1 rfl) ?_
      refine JcI (z := 30) (show mx_Sn _ _ 73 (mx_const (.int 30) 75) from sn_204 73) rfl ?_
      refine JialdI (z := Z5 57 30) hx14 (show mx_Sn _ _ 75 (mx_iald 76) from sn_204 75) a57 s57 (by omega) (up_ni hE14 (by omega)) ?_
      refine Jimul (show mx_Sn _ _ 76 (mx_imul 77) from sn_204 76) ?_
      refine Jiadd (show mx_Sn _ _ 77 (mx_iadd 78) from sn_204 77) ?_
      refine mx_J.step (sn_204 78) (fun _ _ => rfl) ?_
      refine Jiadd (show mx_Sn _ _ 79 (mx_iadd 80) from sn_204 79) ?_
      refine mx_J.step (sn_204 80) (fun _ _ => rfl) ?_
      refine JgetR (g := 21) (b := 66) hx14 (show mx_Sn _ _ 81 (mx_getf 12 21 84) from sn_204 81) a56 s56 rfl rfl (hG14.prr 56 21 rfl) ?_
      refine mx_J.step (sn_204 84) (fun _ _ => rfl) ?_
      have b21 : (-2147483648) ≤ Z 66 1 ∧ Z 66 1 ≤ 2147483647 := hG.pr 66 1
      have b22 : (((1 : Int) = 0 → 0 ≤ (Z 66 1) ∧ (Z 66 1) ≤ 384) ∧ ((1 : Int) = 1 → 0 ≤ (Z 66 1) ∧ (Z 66 1) ≤ 9)) := GI_ex hG 66 1
      refine JialdI (z := Z 66 1) hx14 (show mx_Sn _ _ 85 (mx_iald 86) from sn_204 85) a66 s66 (by omega) ((up_nk hE14 rfl).trans (hf5 66 1 rfl)) ?_
      refine JiastI hx14 (show mx_Sn _ _ 86 (mx_iast 1 87) from sn_204 86) a57 s57 rfl (by omega) (fun Z23 h23 hx23 hE23 => ?_)
      have eq24 : Z14 56 18 = Z 56 18 := ((up_nk hE14 rfl).trans (hf5 56 18 rfl))
      have hG23 := GI_up57 hG14 hE23 (show (-2147483648) ≤ Z 66 1 ∧ Z 66 1 ≤ 2147483647 by omega) (show f57 (((31 + (3 * (Z5 57 30))) + 1) % 962) (Z 66 1) by first | (rw [Int.emod_eq_of_lt (by omega) (by omega)]; unfold f57; omega) | assumption | (unfold f57; omega) | (unfold f57 at *; omega)) (by omega) (by omega)
      refine Jiinc (z := 1) (cz := 1) (ls2 := [some (.ref 56), some (xI 2)]) (show mx_Sn _ _ 87 (mx_iinc 1 1 90) from sn_204 87) rfl rfl rfl rfl ?_
      refine mx_J.step (sn_204 90) (fun _ _ => rfl) ?_
      refine mx_J.step (sn_204 57) (fun _ _ => rfl) ?_
      refine JcI (z := 3) (show mx_Sn _ _ 58 (mx_const (.int 3) 59) from sn_204 58) rfl ?_
      refine Jicmp_ge (show mx_Sn _ _ 59 (mx_icmp_ge 93 62) from sn_204 59) (by omega) (by omega) (fun q25 => absurd q25 (by omega)) (fun q25 => ?_)
      refine mx_J.step (sn_204 62) (fun _ _ => rfl) ?_
      refine JgetR (g := 1) (b := 57) hx23 (show mx_Sn _ _ 63 (mx_getf 12 1 66) from sn_204 63) a56 s56 rfl rfl (hG23.prr 56 1 rfl) ?_
      refine JcI (z := 31) (show mx_Sn _ _ 66 (mx_const (.int 31) 68) from sn_204 66) rfl ?_
      refine JcI (z := 3) (show mx_Sn _ _ 68 (mx_const (.int 3) 69) from sn_204 68) rfl ?_
      refine mx_J.step (sn_204 69) (fun _ _ => rfl) ?_
      refine JgetR (g := 1) (b := 57) hx23 (show mx_Sn _ _ 70 (mx_getf 12 1 73) from sn_204 70) a56 s56 rfl rfl (hG23.prr 56 1 rfl) ?_
      refine JcI (z := 30) (show mx_Sn _ _ 73 (mx_const (.int 30) 75) from sn_204 73) rfl ?_
      refine JialdI (z := Z5 57 30) hx23 (show mx_Sn _ _ 75 (mx_iald 76) from sn_204 75) a57 s57 (by omega) ((up_ni hE23 (by omega)).trans (up_ni hE14 (by omega))) ?_
      refine Jimul (show mx_Sn _ _ 76 (mx_imul 77) from sn_204 76) ?_
      refine Jiadd (show mx_Sn _ _ 77 (mx_iadd 78) from sn_204 77) ?_
      refine mx_J.step (sn_204 78) (fun _ _ => rfl) ?_
      refine Jiadd (show mx_Sn _ _ 79 (mx_iadd 80) from sn_204 79) ?_
      refine mx_J.step (sn_204 80) (fun _ _ => rfl) ?_
      refine JgetR (g := 21) (b := 66) hx23 (show mx_Sn _ _ 81 (mx_getf 12 21 84) from sn_204 81) a56 s56 rfl rfl (hG23.prr 56 21 rfl) ?_
      refine mx_J.step (sn_204 84) (fun _ _ => rfl) ?_
      have b29 : (-2147483648) ≤ Z 66 2 ∧ Z 66 2 ≤ 2147483647 := hG.pr 66 2
      have b30 : (((2 : Int) = 0 → 0 ≤ (Z 66 2) ∧ (Z 66 2) ≤ 384) ∧ ((2 : Int) = 1 → 0 ≤ (Z 66 2) ∧ (Z 66 2) ≤ 9)) := GI_ex hG 66 2
      refine JialdI (z := Z 66 2) hx23 (show mx_Sn _ _ 85 (mx_iald 86) from sn_204 85) a66 s66 (by omega) ((up_nk hE23 rfl).trans ((up_nk hE14 rfl).trans (hf5 66 2 rfl))) ?_
      refine JiastI hx23 (show mx_Sn _ _ 86 (mx_iast 1 87) from sn_204 86) a57 s57 rfl (by omega) (fun Z31 h31 hx31 hE31 => ?_)
      have eq32 : Z23 56 18 = Z 56 18 := ((up_nk hE23 rfl).trans ((up_nk hE14 rfl).trans (hf5 56 18 rfl)))
      have hG31 := GI_up57 hG23 hE31 (show (-2147483648) ≤ Z 66 2 ∧ Z 66 2 ≤ 2147483647 by omega) (show f57 (((31 + (3 * (Z5 57 30))) + 2) % 962) (Z 66 2) by first | (rw [Int.emod_eq_of_lt (by omega) (by omega)]; unfold f57; omega) | assumption | (unfold f57; omega) | (unfold f57 at *; omega)) (by omega) (by omega)
      refine Jiinc (z := 2) (cz := 1) (ls2 := [some (.ref 56), some (xI 3)]) (show mx_Sn _ _ 87 (mx_iinc 1 1 90) from sn_204 87) rfl rfl rfl rfl ?_
      refine mx_J.step (sn_204 90) (fun _ _ => rfl) ?_
      refine mx_J.step (sn_204 57) (fun _ _ => rfl) ?_
      refine JcI (z := 3) (show mx_Sn _ _ 58 (mx_const (.int 3) 59) from sn_204 58) rfl ?_
      refine Jicmp_ge (show mx_Sn _ _ 59 (mx_icmp_ge 93 62) from sn_204 59) (by omega) (by omega) (fun q33 => ?_) (fun q33 => absurd q33 (by omega))
      refine mx_J.step (sn_204 93) (fun _ _ => rfl) ?_
      refine JgetR (g := 1) (b := 57) hx31 (show mx_Sn _ _ 94 (mx_getf 12 1 97) from sn_204 94) a56 s56 rfl rfl (hG31.prr 56 1 rfl) ?_
      refine JcI (z := 30) (show mx_Sn _ _ 97 (mx_const (.int 30) 99) from sn_204 97) rfl ?_
      refine mx_J.step (sn_204 99) (fun _ _ => rfl) ?_
      refine JialdI (z := Z5 57 30) hx31 (show mx_Sn _ _ 100 (mx_iald 101) from sn_204 100) a57 s57 (by omega) ((up_ni hE31 (by omega)).trans ((up_ni hE23 (by omega)).trans (up_ni hE14 (by omega)))) ?_
      refine JcI (z := 1) (show mx_Sn _ _ 101 (mx_const (.int 1) 102) from sn_204 101) rfl ?_
      refine Jiadd (show mx_Sn _ _ 102 (mx_iadd 103) from sn_204 102) ?_
      refine JiastI hx31 (show mx_Sn _ _ 103 (mx_iast 1 104) from sn_204 103) a57 s57 rfl (by omega) (fun Z35 h35 hx35 hE35 => ?_)
      have eq36 : Z31 56 18 = Z 56 18 := ((up_nk hE31 rfl).trans ((up_nk hE23 rfl).trans ((up_nk hE14 rfl).trans (hf5 56 18 rfl))))
      have hG35 := GI_up57 hG31 hE35 (show (-2147483648) ≤ (Z5 57 30) + 1 ∧ (Z5 57 30) + 1 ≤ 2147483647 by omega) (show f57 ((30) % 962) ((Z5 57 30) + 1) by first | assumption | (unfold f57; omega) | (unfold f57 at *; omega)) (by omega) (by omega)
      have eq37 : Z35 66 0 = Z 66 0 := ((up_nk hE35 rfl).trans ((up_nk hE31 rfl).trans ((up_nk hE23 rfl).trans ((up_nk hE14 rfl).trans (hf5 66 0 rfl)))))
      have eq38 : Z35 56 18 = Z 56 18 := ((up_nk hE35 rfl).trans ((up_nk hE31 rfl).trans ((up_nk hE23 rfl).trans ((up_nk hE14 rfl).trans (hf5 56 18 rfl)))))
      exact mx_J.ret (sn_204 104) (fun _ _ => rfl) (hP Z35 h35 hx35 hG35 (fr_tr (M := [(57, (-1))]) (fr_tr (M := [(57, (-1))]) (fr_tr (M := [(57, (-1))]) (fr_tr (M := [(57, (-1))]) (fr_tr (M := [(57, (-1))]) fr_rf (hf5) (M1 := []) rfl rfl) (fr_ua hE14) rfl rfl) (fr_ua hE23) rfl rfl) (fr_ua hE31) rfl rfl) (fr_ua hE35) rfl rfl))
    refine Jicmp_ne (show mx_Sn _ _ 9 (mx_icmp_ne 55 12) from sn_204 9) (by omega) (by omega) (fun q39 => ?_) (fun q39 => ?_)
    · skip
      exact c55 none Z h (by omega) hx hG fr_rf
    · skip
      refine JcI (z := 0) (show mx_Sn _ _ 12 (mx_const (.int 0) 13) from sn_204 12) rfl ?_
      refine mx_J.step (ls2 := [some (.ref 56), some (xI 0)]) (sn_204 13) (fun _ _ => rfl) ?_
      have c14 : ∀ (m40 : Nat) (w40_1 : Int) (Z41 : xZ) (h41 : mx_H), 27 - w40_1 < (m40 : Int) → 0 ≤ w40_1 ∧ w40_1 ≤ 27 → (Z41 57 30 = 10) → XH n s S Z41 h41 → GI n S Z41 → fr' [(57, (-1))] Z Z41 → mx_J (tB l D b0 ad Hb tau) mt_204 (d + 0) 14 [some (.ref 56), some (xI w40_1)] [] h41 Post := by
        intro m40
        induction m40 with
        | zero => intro w40_1 Z41 h41 q40 f40_0 f40_1 hx41 hG41 hf41; exact absurd q40 (by omega)
        | succ m40 ih40 =>
          intro w40_1 Z41 h41 q40 f40_0 f40_1 hx41 hG41 hf41
          have b42 : 0 ≤ Z41 57 30 ∧ Z41 57 30 ≤ 10 := by have hq := GI_ex hG41 57 30; replace hq : f57 (30 % 962) (Z41 57 30) := hq; unfold f57 at hq; omega
          have b43 : (-2147483648) ≤ Z41 57 30 ∧ Z41 57 30 ≤ 2147483647 := hG41.pr 57 30
          refine mx_J.step (sn_204 14) (fun _ _ => rfl) ?_
          refine JcI (z := 27) (show mx_Sn _ _ 15 (mx_const (.int 27) 17) from sn_204 15) rfl ?_
          refine Jicmp_ge (show mx_Sn _ _ 17 (mx_icmp_ge 44 20) from sn_204 17) (by omega) (by omega) (fun q44 => ?_) (fun q44 => ?_)
          · skip
            refine mx_J.step (sn_204 44) (fun _ _ => rfl) ?_
            refine JgetR (g := 1) (b := 57) hx41 (show mx_Sn _ _ 45 (mx_getf 12 1 48) from sn_204 45) a56 s56 rfl rfl (hG41.prr 56 1 rfl) ?_
            refine JcI (z := 30) (show mx_Sn _ _ 48 (mx_const (.int 30) 50) from sn_204 48) rfl ?_
            refine mx_J.step (sn_204 50) (fun _ _ => rfl) ?_
            refine JialdI (z := Z41 57 30) hx41 (show mx_Sn _ _ 51 (mx_iald 52) from sn_204 51) a57 s57 (by omega) rfl ?_
            refine JcI (z := 1) (show mx_Sn _ _ 52 (mx_const (.int 1) 53) from sn_204 52) rfl ?_
            refine Jisub (show mx_Sn _ _ 53 (mx_isub 54) from sn_204 53) ?_
            refine JiastI hx41 (show mx_Sn _ _ 54 (mx_iast 1 55) from sn_204 54) a57 s57 rfl (by omega) (fun Z46 h46 hx46 hE46 => ?_)
            have eq47 : Z41 56 18 = Z 56 18 := (hf41 56 18 rfl)
            have b48 : 0 ≤ Z 56 18 ∧ Z 56 18 ≤ 385 := hG.pr 56 18
            have hG46 := GI_up57 hG41 hE46 (show (-2147483648) ≤ (Z41 57 30) - 1 ∧ (Z41 57 30) - 1 ≤ 2147483647 by omega) (show f57 ((30) % 962) ((Z41 57 30) - 1) by first | assumption | (unfold f57; omega) | (unfold f57 at *; omega)) (by omega) (by omega)
            have eq49 : Z46 57 30 = (Z41 57 30) - 1 := (up_at hE46)
            exact c55 (some (xI w40_1)) Z46 h46 (by omega) hx46 hG46 (fr_tr (M := [(57, (-1))]) (fr_tr (M := [(57, (-1))]) fr_rf (hf41) (M1 := []) rfl rfl) (fr_ua hE46) rfl rfl)
          · skip
            refine mx_J.step (sn_204 20) (fun _ _ => rfl) ?_
            refine JgetR (g := 1) (b := 57) hx41 (show mx_Sn _ _ 21 (mx_getf 12 1 24) from sn_204 21) a56 s56 rfl rfl (hG41.prr 56 1 rfl) ?_
            refine JcI (z := 31) (show mx_Sn _ _ 24 (mx_const (.int 31) 26) from sn_204 24) rfl ?_
            refine mx_J.step (sn_204 26) (fun _ _ => rfl) ?_
            refine Jiadd (show mx_Sn _ _ 27 (mx_iadd 28) from sn_204 27) ?_
            refine mx_J.step (sn_204 28) (fun _ _ => rfl) ?_
            refine JgetR (g := 1) (b := 57) hx41 (show mx_Sn _ _ 29 (mx_getf 12 1 32) from sn_204 29) a56 s56 rfl rfl (hG41.prr 56 1 rfl) ?_
            refine JcI (z := 34) (show mx_Sn _ _ 32 (mx_const (.int 34) 34) from sn_204 32) rfl ?_
            refine mx_J.step (sn_204 34) (fun _ _ => rfl) ?_
            refine Jiadd (show mx_Sn _ _ 35 (mx_iadd 36) from sn_204 35) ?_
            have b52 := GI_st hG41 (34 + w40_1)
            have eq53 : Z41 56 18 = Z 56 18 := (hf41 56 18 rfl)
            have b54 : 0 ≤ Z 56 18 ∧ Z 56 18 ≤ 385 := hG.pr 56 18
            have b55 : f57 ((34 + w40_1) % 962) (Z41 57 (34 + w40_1)) := GI_ex hG41 57 (34 + w40_1)
            have b56 : (-2147483648) ≤ Z41 57 (34 + w40_1) ∧ Z41 57 (34 + w40_1) ≤ 2147483647 := hG41.pr 57 (34 + w40_1)
            refine JialdI (z := Z41 57 (34 + w40_1)) hx41 (show mx_Sn _ _ 36 (mx_iald 37) from sn_204 36) a57 s57 (by omega) rfl ?_
            refine JiastI hx41 (show mx_Sn _ _ 37 (mx_iast 1 38) from sn_204 37) a57 s57 rfl (by omega) (fun Z57 h57 hx57 hE57 => ?_)
            have eq58 : Z41 56 18 = Z 56 18 := (hf41 56 18 rfl)
            have hG57 := GI_up57 hG41 hE57 (show (-2147483648) ≤ Z41 57 (34 + w40_1) ∧ Z41 57 (34 + w40_1) ≤ 2147483647 by omega) (show f57 ((31 + w40_1) % 962) (Z41 57 (34 + w40_1)) by first | (have hq := GI_ex hG41 57 (34 + w40_1); replace hq : f57 ((34 + w40_1) % 962) (Z41 57 (34 + w40_1)) := hq; rw [Int.emod_eq_of_lt (a := (34 + w40_1)) (by omega) (by omega)] at hq; rw [Int.emod_eq_of_lt (a := 31 + w40_1) (by omega) (by omega)]; unfold f57 at hq; unfold f57; omega) | (rw [Int.emod_eq_of_lt (by omega) (by omega)]; unfold f57; omega) | assumption | (unfold f57; omega) | (unfold f57 at *; omega)) (by omega) (by omega)
            refine Jiinc (z := w40_1) (cz := 1) (ls2 := [some (.ref 56), some (xI (w40_1 + 1))]) (show mx_Sn _ _ 38 (mx_iinc 1 1 41) from sn_204 38) rfl rfl rfl rfl ?_
            refine mx_J.step (sn_204 41) (fun _ _ => rfl) ?_
            have eq59 : Z57 57 30 = Z41 57 30 := (up_ni hE57 (by omega))
            exact ih40 (w40_1 + 1) Z57 h57 (by omega) (by omega) (by omega) hx57 hG57 (fr_tr (M := [(57, (-1))]) (fr_tr (M := [(57, (-1))]) fr_rf (hf41) (M1 := []) rfl rfl) (fr_ua hE57) rfl rfl)
      exact c14 (Int.toNat (27 - 0) + 1) 0 Z h (by omega) (by omega) (by omega) hx hG fr_rf
theorem ct_204_56 {l : Launch} {D : va_G} {b0 : Nat} {ad : Nat → Nat} {Hb : Heap} {tau : Nat → Int64} {d n s : Nat} {S : Nat → xS} {Z : xZ} {h : mx_H} (hx : XH n s S Z h) (hG : GI n S Z)   (k0 : Z 66 0 < Z 56 18) : ∃ (Z' : xZ) (h' : mx_H), mx_Ca (tB l D b0 ad Hb tau) (d + 1) 204 [.ref 56] h (none, h') ∧ XH n s S Z' h' ∧ GI n S Z' ∧ fr' [(57, (-1))] Z Z' := by
  obtain ⟨r, hca, Z', h', e, q⟩ := Jmt (B := tB l D b0 ad Hb tau) (M := mt_204) (mi := 204) (as := [.ref 56]) (d := d + 0) (ls := [some (.ref 56), none]) rfl rfl rfl rfl rfl rfl (cw_204_56 (l := l) (D := D) (b0 := b0) (ad := ad) (Hb := Hb) (tau := tau) (d := d) (Post := fun r => ∃ (Z' : xZ) (h' : mx_H), r = (none, h') ∧ XH n s S Z' h' ∧ GI n S Z' ∧ fr' [(57, (-1))] Z Z') hx hG k0 (fun Z' h' q1 q2 q3 => ⟨Z', h', rfl, q1, q2, q3⟩))
  subst e; exact ⟨Z', h', hca, q⟩
set_option maxRecDepth 100000 in
theorem cw_205_56 {l : Launch} {D : va_G} {b0 : Nat} {ad : Nat → Nat} {Hb : Heap} {tau : Nat → Int64} {d n s : Nat} {S : Nat → xS} {Z : xZ} {h : mx_H} {Post : mx_R → Prop} (hx : XH n s S Z h) (hG : GI n S Z)  {x0 : Int} (p0 : (-2147483648) ≤ x0 ∧ x0 ≤ 2147483647) (hP : ∀ (Z' : xZ) (h' : mx_H), XH n s S Z' h' → GI n S Z' → fr' [(57, (-1)), (62, (-1)), (64, (-1)), (65, (-1))] Z Z' → Post (none, h')) : mx_J (tB l D b0 ad Hb tau) mt_205 (d + 5) 0 [some (.ref 56), some (xI x0)] [] h Post := by
    have a56 : 56 < n := lt83 (GI_n hG) rfl
    have s56 : S 56 = .inl (12, [0, 2, 2, 2, 2, 0, 0, 0, 0, 0, 0, 0, 0, 0, 0, 2, 2, 2, 0, 2, 2, 2, 0, 0, 2, 2, 2, 2, 2, 2, 0, 0, 2, 2, 2, 2, 2, 2, 2, 2, 2, 2]) := GI_s hG 56 rfl
    have a57 : 57 < n := lt83 (GI_n hG) rfl
    have s57 : S 57 = .inr (.int, 2886, 0) := GI_s hG 57 rfl
    refine mx_J.step (sn_205 0) (fun _ _ => rfl) ?_
    refine JgetR (g := 1) (b := 57) hx (show mx_Sn _ _ 1 (mx_getf 12 1 4) from sn_205 1) a56 s56 rfl rfl (hG.prr 56 1 rfl) ?_
    refine JcI (z := 27) (show mx_Sn _ _ 4 (mx_const (.int 27) 6) from sn_205 4) rfl ?_
    refine mx_J.step (sn_205 6) (fun _ _ => rfl) ?_
    refine mx_J.step (sn_205 7) (fun _ _ => rfl) ?_
    refine JgetR (g := 1) (b := 57) hx (show mx_Sn _ _ 8 (mx_getf 12 1 11) from sn_205 8) a56 s56 rfl rfl (hG.prr 56 1 rfl) ?_
    refine JcI (z := 27) (show mx_Sn _ _ 11 (mx_const (.int 27) 13) from sn_205 11) rfl ?_
    have b3 := GI_st hG 27
    have b4 : 0 ≤ Z 56 18 ∧ Z 56 18 ≤ 385 := hG.pr 56 18
    have b5 : 0 ≤ Z 57 27 ∧ Z 57 27 ≤ 384 := by have hq := GI_ex hG 57 27; replace hq : f57 (27 % 962) (Z 57 27) := hq; unfold f57 at hq; omega
    have b6 : (-2147483648) ≤ Z 57 27 ∧ Z 57 27 ≤ 2147483647 := hG.pr 57 27
    refine JialdI (z := Z 57 27) hx (show mx_Sn _ _ 13 (mx_iald 14) from sn_205 13) a57 s57 (by omega) rfl ?_
    refine mx_J.step (sn_205 14) (fun _ _ => rfl) ?_
    refine mx_J.step (sn_205 15) (fun _ _ => rfl) ?_
    refine JgetR (g := 1) (b := 57) hx (show mx_Sn _ _ 16 (mx_getf 12 1 19) from sn_205 16) a56 s56 rfl rfl (hG.prr 56 1 rfl) ?_
    refine JcI (z := 28) (show mx_Sn _ _ 19 (mx_const (.int 28) 21) from sn_205 19) rfl ?_
    have b8 : 0 ≤ Z 57 28 ∧ Z 57 28 ≤ 9 := by have hq := GI_ex hG 57 28; replace hq : f57 (28 % 962) (Z 57 28) := hq; unfold f57 at hq; omega
    have b9 : (-2147483648) ≤ Z 57 28 ∧ Z 57 28 ≤ 2147483647 := hG.pr 57 28
    refine JialdI (z := Z 57 28) hx (show mx_Sn _ _ 21 (mx_iald 22) from sn_205 21) a57 s57 (by omega) rfl ?_
    obtain ⟨z10, Z10, h10, hc10, hx10, hG10, hf10, b10⟩ := ct_198_56 (d := d + 0) (l := l) (D := D) (b0 := b0) (ad := ad) (Hb := Hb) (tau := tau) hx hG (show 0 ≤ Z 57 27 ∧ Z 57 27 ≤ 384 by omega) (show (-2147483648) ≤ x0 ∧ x0 ≤ 2147483647 by omega) (show 0 ≤ Z 57 28 ∧ Z 57 28 ≤ 9 by omega)
    refine Jcv hx (show mx_Sn _ _ 22 (mx_callv 198 4 12 25) from sn_205 22) a56 s56 hc10 rfl rfl rfl ?_
    refine JiastI hx10 (show mx_Sn _ _ 25 (mx_iast 1 26) from sn_205 25) a57 s57 rfl (by omega) (fun Z11 h11 hx11 hE11 => ?_)
    have eq12 : Z10 56 18 = Z 56 18 := (hf10 56 18 rfl)
    have hG11 := GI_up57 hG10 hE11 (show (-2147483648) ≤ z10 ∧ z10 ≤ 2147483647 by omega) (show f57 ((27) % 962) (z10) by first | assumption | (unfold f57; omega) | (unfold f57 at *; omega)) (by omega) (by omega)
    refine mx_J.step (sn_205 26) (fun _ _ => rfl) ?_
    refine JgetR (g := 1) (b := 57) hx11 (show mx_Sn _ _ 27 (mx_getf 12 1 30) from sn_205 27) a56 s56 rfl rfl (hG11.prr 56 1 rfl) ?_
    refine JcI (z := 29) (show mx_Sn _ _ 30 (mx_const (.int 29) 32) from sn_205 30) rfl ?_
    refine mx_J.step (sn_205 32) (fun _ _ => rfl) ?_
    have b14 : (-2147483648) ≤ Z 57 29 ∧ Z 57 29 ≤ 2147483647 := hG.pr 57 29
    refine JialdI (z := Z 57 29) hx11 (show mx_Sn _ _ 33 (mx_iald 34) from sn_205 33) a57 s57 (by omega) ((up_ni hE11 (by decide)).trans (hf10 57 29 rfl)) ?_
    refine JcI (z := 1) (show mx_Sn _ _ 34 (mx_const (.int 1) 35) from sn_205 34) rfl ?_
    refine JiaddN (show mx_Sn _ _ 35 (mx_iadd 36) from sn_205 35) (fun y15 hy15 hq15 => ?_)
    refine JiastI hx11 (show mx_Sn _ _ 36 (mx_iast 1 37) from sn_205 36) a57 s57 rfl (by omega) (fun Z16 h16 hx16 hE16 => ?_)
    have eq17 : Z11 56 18 = Z 56 18 := ((up_nk hE11 rfl).trans (hf10 56 18 rfl))
    have hG16 := GI_up57 hG11 hE16 (show (-2147483648) ≤ y15 ∧ y15 ≤ 2147483647 by omega) (show f57 ((29) % 962) (y15) by first | assumption | (unfold f57; omega) | (unfold f57 at *; omega)) (by omega) (by omega)
    exact mx_J.ret (sn_205 37) (fun _ _ => rfl) (hP Z16 h16 hx16 hG16 (fr_tr (M := [(57, (-1)), (62, (-1)), (64, (-1)), (65, (-1))]) (fr_tr (M := [(57, (-1)), (62, (-1)), (64, (-1)), (65, (-1))]) (fr_tr (M := [(57, (-1)), (62, (-1)), (64, (-1)), (65, (-1))]) fr_rf (hf10) (M1 := []) rfl rfl) (fr_ua hE11) rfl rfl) (fr_ua hE16) rfl rfl))
theorem ct_205_56 {l : Launch} {D : va_G} {b0 : Nat} {ad : Nat → Nat} {Hb : Heap} {tau : Nat → Int64} {d n s : Nat} {S : Nat → xS} {Z : xZ} {h : mx_H} (hx : XH n s S Z h) (hG : GI n S Z)  {x0 : Int} (p0 : (-2147483648) ≤ x0 ∧ x0 ≤ 2147483647) : ∃ (Z' : xZ) (h' : mx_H), mx_Ca (tB l D b0 ad Hb tau) (d + 6) 205 [.ref 56, xI x0] h (none, h') ∧ XH n s S Z' h' ∧ GI n S Z' ∧ fr' [(57, (-1)), (62, (-1)), (64, (-1)), (65, (-1))] Z Z' := by
  obtain ⟨r, hca, Z', h', e, q⟩ := Jmt (B := tB l D b0 ad Hb tau) (M := mt_205) (mi := 205) (as := [.ref 56, xI x0]) (d := d + 5) (ls := [some (.ref 56), some (xI x0)]) rfl rfl rfl rfl rfl rfl (cw_205_56 (l := l) (D := D) (b0 := b0) (ad := ad) (Hb := Hb) (tau := tau) (d := d) (Post := fun r => ∃ (Z' : xZ) (h' : mx_H), r = (none, h') ∧ XH n s S Z' h' ∧ GI n S Z' ∧ fr' [(57, (-1)), (62, (-1)), (64, (-1)), (65, (-1))] Z Z') hx hG p0 (fun Z' h' q1 q2 q3 => ⟨Z', h', rfl, q1, q2, q3⟩))
  subst e; exact ⟨Z', h', hca, q⟩
set_option maxRecDepth 100000 in
theorem cw_206_56 {l : Launch} {D : va_G} {b0 : Nat} {ad : Nat → Nat} {Hb : Heap} {tau : Nat → Int64} {d n s : Nat} {S : Nat → xS} {Z : xZ} {h : mx_H} {Post : mx_R → Prop} (hx : XH n s S Z h) (hG : GI n S Z)  {x0 : Int} (p0 : (-2147483648) ≤ x0 ∧ x0 ≤ 2147483647) (hP : ∀ (z : Int) (Z' : xZ) (h' : mx_H), XH n s S Z' h' → GI n S Z' → fr' [(56, 0), (57, (-1)), (62, (-1)), (64, (-1)), (65, (-1)), (66, (-1))] Z Z' → (-12) ≤ z ∧ z ≤ 18 → Post (some (xI z), h')) : mx_J (tB l D b0 ad Hb tau) mt_206 (d + 6) 0 [some (.ref 56), some (xI x0)] [] h Post := by
    have a56 : 56 < n := lt83 (GI_n hG) rfl
    have s56 : S 56 = .inl (12, [0, 2, 2, 2, 2, 0, 0, 0, 0, 0, 0, 0, 0, 0, 0, 2, 2, 2, 0, 2, 2, 2, 0, 0, 2, 2, 2, 2, 2, 2, 0, 0, 2, 2, 2, 2, 2, 2, 2, 2, 2, 2]) := GI_s hG 56 rfl
    have a57 : 57 < n := lt83 (GI_n hG) rfl
    have s57 : S 57 = .inr (.int, 2886, 0) := GI_s hG 57 rfl
    refine mx_J.step (sn_206 0) (fun _ _ => rfl) ?_
    refine JcI (z := 0) (show mx_Sn _ _ 1 (mx_const (.int 0) 2) from sn_206 1) rfl ?_
    refine JputI (g := 0) hx (show mx_Sn _ _ 2 (mx_putf 1 12 0 (.int) 5) from sn_206 2) a56 s56 rfl rfl rfl rfl (fun Z1 h1 hx1 hE1 => ?_)
    have hG1 := GI_up hG hE1 (show (-2147483648) ≤ 0 ∧ 0 ≤ 2147483647 by omega) trivial rfl
    refine mx_J.step (sn_206 5) (fun _ _ => rfl) ?_
    refine Ji2l (show mx_Sn _ _ 6 (mx_i2l 7) from sn_206 6) (by omega) ?_
    refine JcL (z := 0) (show mx_Sn _ _ 7 (mx_const (.long 0) 8) from sn_206 7) rfl ?_
    refine JcL (z := 18) (show mx_Sn _ _ 8 (mx_const (.long 18) 11) from sn_206 8) rfl ?_
    obtain ⟨z2, hc2, b2⟩ := ct_154_ (d := d + 5) (l := l) (D := D) (b0 := b0) (ad := ad) (Hb := Hb) (tau := tau) hx1 hG1 (show (-9223372036854775808) ≤ x0 ∧ x0 ≤ 9223372036854775807 by omega) (show (-9223372036854775808) ≤ 0 ∧ 0 ≤ 9223372036854775807 by omega) (show (-9223372036854775808) ≤ 18 ∧ 18 ≤ 9223372036854775807 by omega)
    refine Jcs (show mx_Sn _ _ 11 (mx_calls 154 3 14) from sn_206 11) hc2 rfl rfl rfl ?_
    refine Jif_ne (show mx_Sn _ _ 14 (mx_if_ne 20 17) from sn_206 14) (by omega) (fun q3 => ?_) (fun q3 => ?_)
    · skip
      refine mx_J.step (sn_206 20) (fun _ _ => rfl) ?_
      refine mx_J.step (sn_206 21) (fun _ _ => rfl) ?_
      refine JgetR (g := 1) (b := 57) hx1 (show mx_Sn _ _ 22 (mx_getf 12 1 25) from sn_206 22) a56 s56 rfl rfl (hG1.prr 56 1 rfl) ?_
      refine JcI (z := 27) (show mx_Sn _ _ 25 (mx_const (.int 27) 27) from sn_206 25) rfl ?_
      have b5 := GI_st hG 27
      have b6 : 0 ≤ Z 56 18 ∧ Z 56 18 ≤ 385 := hG.pr 56 18
      have b7 : 0 ≤ Z 57 27 ∧ Z 57 27 ≤ 384 := by have hq := GI_ex hG 57 27; replace hq : f57 (27 % 962) (Z 57 27) := hq; unfold f57 at hq; omega
      have b8 : (-2147483648) ≤ Z 57 27 ∧ Z 57 27 ≤ 2147483647 := hG.pr 57 27
      refine JialdI (z := Z 57 27) hx1 (show mx_Sn _ _ 27 (mx_iald 28) from sn_206 27) a57 s57 (by omega) (up_nk hE1 rfl) ?_
      refine mx_J.step (sn_206 28) (fun _ _ => rfl) ?_
      have eq10 : hv Z1 (Z 57 27) x0 = hv Z (Z 57 27) x0 := (hv_c (fun i => up_nk hE1 rfl))
      obtain ⟨z9, hc9, b9⟩ := ct_197_56 (d := d + 3) (l := l) (D := D) (b0 := b0) (ad := ad) (Hb := Hb) (tau := tau) hx1 hG1 (show 0 ≤ Z 57 27 ∧ Z 57 27 ≤ 384 by omega) (show (-2147483648) ≤ x0 ∧ x0 ≤ 2147483647 by omega)
      refine Jcv hx1 (show mx_Sn _ _ 29 (mx_callv 197 3 12 32) from sn_206 29) a56 s56 hc9 rfl rfl rfl ?_
      refine Jif_ne (show mx_Sn _ _ 32 (mx_if_ne 38 35) from sn_206 32) (by omega) (fun q11 => ?_) (fun q11 => ?_)
      · skip
        refine mx_J.step (sn_206 38) (fun _ _ => rfl) ?_
        have eq13 : Z1 57 27 = Z 57 27 := (up_nk hE1 rfl)
        obtain ⟨Z12, h12, hc12, hx12, hG12, hf12, b12⟩ := ct_202_56 (d := d + 5) (l := l) (D := D) (b0 := b0) (ad := ad) (Hb := Hb) (tau := tau) hx1 hG1 
        try rw [eq13] at b12
        have b14 : (-2147483648) ≤ Z12 66 0 ∧ Z12 66 0 ≤ 2147483647 := hG12.pr 66 0
        have b15 : (((0 : Int) = 0 → 0 ≤ (Z12 66 0) ∧ (Z12 66 0) ≤ 384) ∧ ((0 : Int) = 1 → 0 ≤ (Z12 66 0) ∧ (Z12 66 0) ≤ 9)) := GI_ex hG12 66 0
        refine Jcv0 hx1 (show mx_Sn _ _ 39 (mx_callv 202 1 12 42) from sn_206 39) a56 s56 hc12 rfl rfl rfl ?_
        refine mx_J.step (sn_206 42) (fun _ _ => rfl) ?_
        refine mx_J.step (sn_206 43) (fun _ _ => rfl) ?_
        obtain ⟨Z16, h16, hc16, hx16, hG16, hf16⟩ := ct_205_56 (d := d + 0) (l := l) (D := D) (b0 := b0) (ad := ad) (Hb := Hb) (tau := tau) hx12 hG12 (show (-2147483648) ≤ x0 ∧ x0 ≤ 2147483647 by omega)
        refine Jcv0 hx12 (show mx_Sn _ _ 44 (mx_callv 205 2 12 47) from sn_206 44) a56 s56 hc16 rfl rfl rfl ?_
        refine mx_J.step (sn_206 47) (fun _ _ => rfl) ?_
        have eq18 : Z16 66 0 = Z12 66 0 := (hf16 66 0 rfl)
        have eq19 : Z16 56 18 = Z 56 18 := ((hf16 56 18 rfl).trans ((hf12 56 18 rfl).trans (up_ni hE1 (by decide))))
        obtain ⟨Z17, h17, hc17, hx17, hG17, hf17⟩ := ct_204_56 (d := d + 5) (l := l) (D := D) (b0 := b0) (ad := ad) (Hb := Hb) (tau := tau) hx16 hG16  (show Z16 66 0 < Z16 56 18 by first | omega | (simp only [eq18, eq19]; omega))
        refine Jcv0 hx16 (show mx_Sn _ _ 48 (mx_callv 204 1 12 51) from sn_206 48) a56 s56 hc17 rfl rfl rfl ?_
        refine mx_J.step (sn_206 51) (fun _ _ => rfl) ?_
        refine mx_J.step (sn_206 52) (fun _ _ => rfl) ?_
        refine JgetR (g := 1) (b := 57) hx17 (show mx_Sn _ _ 53 (mx_getf 12 1 56) from sn_206 53) a56 s56 rfl rfl (hG17.prr 56 1 rfl) ?_
        refine JcI (z := 27) (show mx_Sn _ _ 56 (mx_const (.int 27) 58) from sn_206 56) rfl ?_
        have b21 := GI_st hG17 27
        have eq22 : Z17 56 18 = Z 56 18 := ((hf17 56 18 rfl).trans ((hf16 56 18 rfl).trans ((hf12 56 18 rfl).trans (up_ni hE1 (by decide)))))
        have b23 : 0 ≤ Z17 57 27 ∧ Z17 57 27 ≤ 384 := by have hq := GI_ex hG17 57 27; replace hq : f57 (27 % 962) (Z17 57 27) := hq; unfold f57 at hq; omega
        have b24 : (-2147483648) ≤ Z17 57 27 ∧ Z17 57 27 ≤ 2147483647 := hG17.pr 57 27
        refine JialdI (z := Z17 57 27) hx17 (show mx_Sn _ _ 58 (mx_iald 59) from sn_206 58) a57 s57 (by omega) rfl ?_
        have eq26 : mn Z17 (Z17 57 27) = mn Z (Z17 57 27) := ((mn_c (fun i => hf17 61 i rfl)).trans ((mn_c (fun i => hf16 61 i rfl)).trans ((mn_c (fun i => hf12 61 i rfl)).trans (mn_c (fun i => up_nk hE1 rfl)))))
        obtain ⟨z25, hc25, b25⟩ := ct_191_56 (d := d + 4) (l := l) (D := D) (b0 := b0) (ad := ad) (Hb := Hb) (tau := tau) hx17 hG17 (show 0 ≤ Z17 57 27 ∧ Z17 57 27 ≤ 384 by omega)
        refine Jcv hx17 (show mx_Sn _ _ 59 (mx_callv 191 2 12 62) from sn_206 59) a56 s56 hc25 rfl rfl rfl ?_
        exact mx_J.ret (sn_206 62) (fun _ _ => rfl) (hP z25 Z17 h17 hx17 hG17 (fr_tr (M := [(56, 0), (57, (-1)), (62, (-1)), (64, (-1)), (65, (-1)), (66, (-1))]) (fr_tr (M := [(56, 0), (57, (-1)), (62, (-1)), (64, (-1)), (65, (-1)), (66, (-1))]) (fr_tr (M := [(56, 0), (57, (-1)), (62, (-1)), (64, (-1)), (65, (-1)), (66, (-1))]) (fr_tr (M := [(56, 0), (57, (-1)), (62, (-1)), (64, (-1)), (65, (-1)), (66, (-1))]) fr_rf (fr_up hE1) (M1 := []) rfl rfl) (hf12) rfl rfl) (hf16) rfl rfl) (hf17) rfl rfl) (by omega))
      · skip
        refine JcI (z := (-12)) (show mx_Sn _ _ 35 (mx_const (.int (-12)) 37) from sn_206 35) rfl ?_
        exact mx_J.ret (sn_206 37) (fun _ _ => rfl) (hP (-12) Z1 h1 hx1 hG1 (fr_tr (M := [(56, 0), (57, (-1)), (62, (-1)), (64, (-1)), (65, (-1)), (66, (-1))]) fr_rf (fr_up hE1) (M1 := []) rfl rfl) (by omega))
    · skip
      refine JcI (z := (-11)) (show mx_Sn _ _ 17 (mx_const (.int (-11)) 19) from sn_206 17) rfl ?_
      exact mx_J.ret (sn_206 19) (fun _ _ => rfl) (hP (-11) Z1 h1 hx1 hG1 (fr_tr (M := [(56, 0), (57, (-1)), (62, (-1)), (64, (-1)), (65, (-1)), (66, (-1))]) fr_rf (fr_up hE1) (M1 := []) rfl rfl) (by omega))
theorem ct_206_56 {l : Launch} {D : va_G} {b0 : Nat} {ad : Nat → Nat} {Hb : Heap} {tau : Nat → Int64} {d n s : Nat} {S : Nat → xS} {Z : xZ} {h : mx_H} (hx : XH n s S Z h) (hG : GI n S Z)  {x0 : Int} (p0 : (-2147483648) ≤ x0 ∧ x0 ≤ 2147483647) : ∃ (z : Int) (Z' : xZ) (h' : mx_H), mx_Ca (tB l D b0 ad Hb tau) (d + 7) 206 [.ref 56, xI x0] h (some (xI z), h') ∧ XH n s S Z' h' ∧ GI n S Z' ∧ fr' [(56, 0), (57, (-1)), (62, (-1)), (64, (-1)), (65, (-1)), (66, (-1))] Z Z' ∧ ((-12) ≤ z ∧ z ≤ 18) := by
  obtain ⟨r, hca, z, Z', h', e, q⟩ := Jmt (B := tB l D b0 ad Hb tau) (M := mt_206) (mi := 206) (as := [.ref 56, xI x0]) (d := d + 6) (ls := [some (.ref 56), some (xI x0)]) rfl rfl rfl rfl rfl rfl (cw_206_56 (l := l) (D := D) (b0 := b0) (ad := ad) (Hb := Hb) (tau := tau) (d := d) (Post := fun r => ∃ (z : Int) (Z' : xZ) (h' : mx_H), r = (some (xI z), h') ∧ XH n s S Z' h' ∧ GI n S Z' ∧ fr' [(56, 0), (57, (-1)), (62, (-1)), (64, (-1)), (65, (-1)), (66, (-1))] Z Z' ∧ ((-12) ≤ z ∧ z ≤ 18)) hx hG p0 (fun z Z' h' q1 q2 q3 q4 => ⟨z, Z', h', rfl, q1, q2, q3, q4⟩))
  subst e; exact ⟨z, Z', h', hca, q⟩
set_option maxRecDepth 100000 in
theorem cw_207_56 {l : Launch} {D : va_G} {b0 : Nat} {ad : Nat → Nat} {Hb : Heap} {tau : Nat → Int64} {d n s : Nat} {S : Nat → xS} {Z : xZ} {h : mx_H} {Post : mx_R → Prop} (hx : XH n s S Z h) (hG : GI n S Z)  {x0 : Int} (p0 : (-2147483648) ≤ x0 ∧ x0 ≤ 2147483647) (hP : ∀ (z : Int) (Z' : xZ) (h' : mx_H), XH n s S Z' h' → GI n S Z' → fr' [(56, 0), (57, (-1)), (62, (-1)), (64, (-1)), (65, (-1)), (66, (-1))] Z Z' → (-3) ≤ z ∧ z ≤ 18 → Post (some (xI z), h')) : mx_J (tB l D b0 ad Hb tau) mt_207 (d + 6) 0 [some (.ref 56), some (xI x0), none] [] h Post := by
    have a56 : 56 < n := lt83 (GI_n hG) rfl
    have s56 : S 56 = .inl (12, [0, 2, 2, 2, 2, 0, 0, 0, 0, 0, 0, 0, 0, 0, 0, 2, 2, 2, 0, 2, 2, 2, 0, 0, 2, 2, 2, 2, 2, 2, 0, 0, 2, 2, 2, 2, 2, 2, 2, 2, 2, 2]) := GI_s hG 56 rfl
    have a57 : 57 < n := lt83 (GI_n hG) rfl
    have s57 : S 57 = .inr (.int, 2886, 0) := GI_s hG 57 rfl
    refine mx_J.step (sn_207 0) (fun _ _ => rfl) ?_
    refine JcI (z := 0) (show mx_Sn _ _ 1 (mx_const (.int 0) 2) from sn_207 1) rfl ?_
    refine JputI (g := 0) hx (show mx_Sn _ _ 2 (mx_putf 1 12 0 (.int) 5) from sn_207 2) a56 s56 rfl rfl rfl rfl (fun Z1 h1 hx1 hE1 => ?_)
    have hG1 := GI_up hG hE1 (show (-2147483648) ≤ 0 ∧ 0 ≤ 2147483647 by omega) trivial rfl
    refine mx_J.step (sn_207 5) (fun _ _ => rfl) ?_
    refine Ji2l (show mx_Sn _ _ 6 (mx_i2l 7) from sn_207 6) (by omega) ?_
    refine JcL (z := 1) (show mx_Sn _ _ 7 (mx_const (.long 1) 8) from sn_207 7) rfl ?_
    refine JcL (z := 99) (show mx_Sn _ _ 8 (mx_const (.long 99) 11) from sn_207 8) rfl ?_
    obtain ⟨z2, hc2, b2⟩ := ct_154_ (d := d + 5) (l := l) (D := D) (b0 := b0) (ad := ad) (Hb := Hb) (tau := tau) hx1 hG1 (show (-9223372036854775808) ≤ x0 ∧ x0 ≤ 9223372036854775807 by omega) (show (-9223372036854775808) ≤ 1 ∧ 1 ≤ 9223372036854775807 by omega) (show (-9223372036854775808) ≤ 99 ∧ 99 ≤ 9223372036854775807 by omega)
    refine Jcs (show mx_Sn _ _ 11 (mx_calls 154 3 14) from sn_207 11) hc2 rfl rfl rfl ?_
    refine Jif_ne (show mx_Sn _ _ 14 (mx_if_ne 20 17) from sn_207 14) (by omega) (fun q3 => ?_) (fun q3 => ?_)
    · skip
      refine mx_J.step (sn_207 20) (fun _ _ => rfl) ?_
      have eq5 : Z1 57 27 = Z 57 27 := (up_nk hE1 rfl)
      have b6 := GI_st hG 27
      have b7 : 0 ≤ Z 56 18 ∧ Z 56 18 ≤ 385 := hG.pr 56 18
      have b8 : 0 ≤ Z 57 27 ∧ Z 57 27 ≤ 384 := by have hq := GI_ex hG 57 27; replace hq : f57 (27 % 962) (Z 57 27) := hq; unfold f57 at hq; omega
      have b9 : (-2147483648) ≤ Z 57 27 ∧ Z 57 27 ≤ 2147483647 := hG.pr 57 27
      obtain ⟨Z4, h4, hc4, hx4, hG4, hf4, b4⟩ := ct_202_56 (d := d + 5) (l := l) (D := D) (b0 := b0) (ad := ad) (Hb := Hb) (tau := tau) hx1 hG1 
      try rw [eq5] at b4
      have b10 : (-2147483648) ≤ Z4 66 0 ∧ Z4 66 0 ≤ 2147483647 := hG4.pr 66 0
      have b11 : (((0 : Int) = 0 → 0 ≤ (Z4 66 0) ∧ (Z4 66 0) ≤ 384) ∧ ((0 : Int) = 1 → 0 ≤ (Z4 66 0) ∧ (Z4 66 0) ≤ 9)) := GI_ex hG4 66 0
      refine Jcv0 hx1 (show mx_Sn _ _ 21 (mx_callv 202 1 12 24) from sn_207 21) a56 s56 hc4 rfl rfl rfl ?_
      refine JcI (z := 0) (show mx_Sn _ _ 24 (mx_const (.int 0) 25) from sn_207 24) rfl ?_
      refine mx_J.step (ls2 := [some (.ref 56), some (xI x0), some (xI 0)]) (sn_207 25) (fun _ _ => rfl) ?_
      have c26 : ∀ (m12 : Nat) (w12_2 : Int) (Z13 : xZ) (h13 : mx_H), 99 - w12_2 < (m12 : Int) → 0 ≤ w12_2 ∧ w12_2 ≤ 99 → XH n s S Z13 h13 → GI n S Z13 → fr' [(57, (-1)), (62, (-1)), (64, (-1)), (65, (-1))] Z4 Z13 → mx_J (tB l D b0 ad Hb tau) mt_207 (d + 6) 26 [some (.ref 56), some (xI x0), some (xI w12_2)] [] h13 Post := by
        intro m12
        induction m12 with
        | zero => intro w12_2 Z13 h13 q12 f12_0 hx13 hG13 hf13; exact absurd q12 (by omega)
        | succ m12 ih12 =>
          intro w12_2 Z13 h13 q12 f12_0 hx13 hG13 hf13
          refine mx_J.step (sn_207 26) (fun _ _ => rfl) ?_
          refine mx_J.step (sn_207 27) (fun _ _ => rfl) ?_
          refine Jicmp_ge (show mx_Sn _ _ 28 (mx_icmp_ge 42 31) from sn_207 28) (by omega) (by omega) (fun q14 => ?_) (fun q14 => ?_)
          · skip
            refine mx_J.step (sn_207 42) (fun _ _ => rfl) ?_
            have eq16 : Z13 66 0 = Z4 66 0 := (hf13 66 0 rfl)
            have eq17 : Z13 56 18 = Z 56 18 := ((hf13 56 18 rfl).trans ((hf4 56 18 rfl).trans (up_ni hE1 (by decide))))
            obtain ⟨Z15, h15, hc15, hx15, hG15, hf15⟩ := ct_204_56 (d := d + 5) (l := l) (D := D) (b0 := b0) (ad := ad) (Hb := Hb) (tau := tau) hx13 hG13  (show Z13 66 0 < Z13 56 18 by first | omega | (simp only [eq16, eq17]; omega))
            refine Jcv0 hx13 (show mx_Sn _ _ 43 (mx_callv 204 1 12 46) from sn_207 43) a56 s56 hc15 rfl rfl rfl ?_
            refine mx_J.step (sn_207 46) (fun _ _ => rfl) ?_
            refine mx_J.step (sn_207 47) (fun _ _ => rfl) ?_
            refine JgetR (g := 1) (b := 57) hx15 (show mx_Sn _ _ 48 (mx_getf 12 1 51) from sn_207 48) a56 s56 rfl rfl (hG15.prr 56 1 rfl) ?_
            refine JcI (z := 27) (show mx_Sn _ _ 51 (mx_const (.int 27) 53) from sn_207 51) rfl ?_
            have b19 := GI_st hG15 27
            have eq20 : Z15 56 18 = Z 56 18 := ((hf15 56 18 rfl).trans ((hf13 56 18 rfl).trans ((hf4 56 18 rfl).trans (up_ni hE1 (by decide)))))
            have b21 : 0 ≤ Z15 57 27 ∧ Z15 57 27 ≤ 384 := by have hq := GI_ex hG15 57 27; replace hq : f57 (27 % 962) (Z15 57 27) := hq; unfold f57 at hq; omega
            have b22 : (-2147483648) ≤ Z15 57 27 ∧ Z15 57 27 ≤ 2147483647 := hG15.pr 57 27
            refine JialdI (z := Z15 57 27) hx15 (show mx_Sn _ _ 53 (mx_iald 54) from sn_207 53) a57 s57 (by omega) rfl ?_
            have eq24 : mn Z15 (Z15 57 27) = mn Z (Z15 57 27) := ((mn_c (fun i => hf15 61 i rfl)).trans ((mn_c (fun i => hf13 61 i rfl)).trans ((mn_c (fun i => hf4 61 i rfl)).trans (mn_c (fun i => up_nk hE1 rfl)))))
            obtain ⟨z23, hc23, b23⟩ := ct_191_56 (d := d + 4) (l := l) (D := D) (b0 := b0) (ad := ad) (Hb := Hb) (tau := tau) hx15 hG15 (show 0 ≤ Z15 57 27 ∧ Z15 57 27 ≤ 384 by omega)
            refine Jcv hx15 (show mx_Sn _ _ 54 (mx_callv 191 2 12 57) from sn_207 54) a56 s56 hc23 rfl rfl rfl ?_
            exact mx_J.ret (sn_207 57) (fun _ _ => rfl) (hP z23 Z15 h15 hx15 hG15 (fr_tr (M := [(56, 0), (57, (-1)), (62, (-1)), (64, (-1)), (65, (-1)), (66, (-1))]) (fr_tr (M := [(56, 0), (57, (-1)), (62, (-1)), (64, (-1)), (65, (-1)), (66, (-1))]) (fr_tr (M := [(56, 0), (57, (-1)), (62, (-1)), (64, (-1)), (65, (-1)), (66, (-1))]) (fr_tr (M := [(56, 0), (57, (-1)), (62, (-1)), (64, (-1)), (65, (-1)), (66, (-1))]) fr_rf (fr_up hE1) (M1 := []) rfl rfl) (hf4) rfl rfl) (hf13) rfl rfl) (hf15) rfl rfl) (by omega))
          · skip
            refine mx_J.step (sn_207 31) (fun _ _ => rfl) ?_
            refine JcI (z := 0) (show mx_Sn _ _ 32 (mx_const (.int 0) 33) from sn_207 32) rfl ?_
            obtain ⟨Z25, h25, hc25, hx25, hG25, hf25⟩ := ct_205_56 (d := d + 0) (l := l) (D := D) (b0 := b0) (ad := ad) (Hb := Hb) (tau := tau) hx13 hG13 (show (-2147483648) ≤ 0 ∧ 0 ≤ 2147483647 by omega)
            refine Jcv0 hx13 (show mx_Sn _ _ 33 (mx_callv 205 2 12 36) from sn_207 33) a56 s56 hc25 rfl rfl rfl ?_
            refine Jiinc (z := w12_2) (cz := 1) (ls2 := [some (.ref 56), some (xI x0), some (xI (w12_2 + 1))]) (show mx_Sn _ _ 36 (mx_iinc 2 1 39) from sn_207 36) rfl rfl rfl rfl ?_
            refine mx_J.step (sn_207 39) (fun _ _ => rfl) ?_
            exact ih12 (w12_2 + 1) Z25 h25 (by omega) (by omega) hx25 hG25 (fr_tr (M := [(57, (-1)), (62, (-1)), (64, (-1)), (65, (-1))]) (fr_tr (M := [(57, (-1)), (62, (-1)), (64, (-1)), (65, (-1))]) fr_rf (hf13) (M1 := []) rfl rfl) (hf25) rfl rfl)
      exact c26 (Int.toNat (99 - 0) + 1) 0 Z4 h4 (by omega) (by omega) hx4 hG4 fr_rf
    · skip
      refine JcI (z := (-3)) (show mx_Sn _ _ 17 (mx_const (.int (-3)) 19) from sn_207 17) rfl ?_
      exact mx_J.ret (sn_207 19) (fun _ _ => rfl) (hP (-3) Z1 h1 hx1 hG1 (fr_tr (M := [(56, 0), (57, (-1)), (62, (-1)), (64, (-1)), (65, (-1)), (66, (-1))]) fr_rf (fr_up hE1) (M1 := []) rfl rfl) (by omega))
theorem ct_207_56 {l : Launch} {D : va_G} {b0 : Nat} {ad : Nat → Nat} {Hb : Heap} {tau : Nat → Int64} {d n s : Nat} {S : Nat → xS} {Z : xZ} {h : mx_H} (hx : XH n s S Z h) (hG : GI n S Z)  {x0 : Int} (p0 : (-2147483648) ≤ x0 ∧ x0 ≤ 2147483647) : ∃ (z : Int) (Z' : xZ) (h' : mx_H), mx_Ca (tB l D b0 ad Hb tau) (d + 7) 207 [.ref 56, xI x0] h (some (xI z), h') ∧ XH n s S Z' h' ∧ GI n S Z' ∧ fr' [(56, 0), (57, (-1)), (62, (-1)), (64, (-1)), (65, (-1)), (66, (-1))] Z Z' ∧ ((-3) ≤ z ∧ z ≤ 18) := by
  obtain ⟨r, hca, z, Z', h', e, q⟩ := Jmt (B := tB l D b0 ad Hb tau) (M := mt_207) (mi := 207) (as := [.ref 56, xI x0]) (d := d + 6) (ls := [some (.ref 56), some (xI x0), none]) rfl rfl rfl rfl rfl rfl (cw_207_56 (l := l) (D := D) (b0 := b0) (ad := ad) (Hb := Hb) (tau := tau) (d := d) (Post := fun r => ∃ (z : Int) (Z' : xZ) (h' : mx_H), r = (some (xI z), h') ∧ XH n s S Z' h' ∧ GI n S Z' ∧ fr' [(56, 0), (57, (-1)), (62, (-1)), (64, (-1)), (65, (-1)), (66, (-1))] Z Z' ∧ ((-3) ≤ z ∧ z ≤ 18)) hx hG p0 (fun z Z' h' q1 q2 q3 q4 => ⟨z, Z', h', rfl, q1, q2, q3, q4⟩))
  subst e; exact ⟨z, Z', h', hca, q⟩
set_option maxRecDepth 100000 in
theorem cw_209_56 {l : Launch} {D : va_G} {b0 : Nat} {ad : Nat → Nat} {Hb : Heap} {tau : Nat → Int64} {d n s : Nat} {S : Nat → xS} {Z : xZ} {h : mx_H} {Post : mx_R → Prop} (hx : XH n s S Z h) (hG : GI n S Z)  {x0 x1 : Int} (p0 : (-2147483648) ≤ x0 ∧ x0 ≤ 2147483647) (p1 : (-2147483648) ≤ x1 ∧ x1 ≤ 2147483647) (hP : ∀ z : Int, 0 ≤ z ∧ z ≤ 2 ∧ (z = 0 → (1 ≤ x0 ∧ x0 ≤ 18 ∧ 1 ≤ x1 ∧ x1 ≤ x0 - 1 ∧ hv Z (Z 57 27) x0 = 1)) → Post (some (xI z), h)) : mx_J (tB l D b0 ad Hb tau) mt_209 (d + 2) 0 [some (.ref 56), some (xI x0), some (xI x1)] [] h Post := by
    have a56 : 56 < n := lt83 (GI_n hG) rfl
    have s56 : S 56 = .inl (12, [0, 2, 2, 2, 2, 0, 0, 0, 0, 0, 0, 0, 0, 0, 0, 2, 2, 2, 0, 2, 2, 2, 0, 0, 2, 2, 2, 2, 2, 2, 0, 0, 2, 2, 2, 2, 2, 2, 2, 2, 2, 2]) := GI_s hG 56 rfl
    have a57 : 57 < n := lt83 (GI_n hG) rfl
    have s57 : S 57 = .inr (.int, 2886, 0) := GI_s hG 57 rfl
    refine mx_J.step (sn_209 0) (fun _ _ => rfl) ?_
    refine Ji2l (show mx_Sn _ _ 1 (mx_i2l 2) from sn_209 1) (by omega) ?_
    obtain ⟨z1, hc1, b1⟩ := ct_208_ (d := d + 0) (l := l) (D := D) (b0 := b0) (ad := ad) (Hb := Hb) (tau := tau) hx hG (show (-9223372036854775808) ≤ x0 ∧ x0 ≤ 9223372036854775807 by omega)
    refine Jcs (show mx_Sn _ _ 2 (mx_calls 208 1 5) from sn_209 2) hc1 rfl rfl rfl ?_
    have c21 : mx_J (tB l D b0 ad Hb tau) mt_209 (d + 2) 21 [some (.ref 56), some (xI x0), some (xI x1)] [] h Post := by
      refine JcI (z := 1) (show mx_Sn _ _ 21 (mx_const (.int 1) 22) from sn_209 21) rfl ?_
      have b3 := GI_st hG 27
      have b4 : 0 ≤ Z 56 18 ∧ Z 56 18 ≤ 385 := hG.pr 56 18
      have b5 : 0 ≤ Z 57 27 ∧ Z 57 27 ≤ 384 := by have hq := GI_ex hG 57 27; replace hq : f57 (27 % 962) (Z 57 27) := hq; unfold f57 at hq; omega
      have b6 : (-2147483648) ≤ Z 57 27 ∧ Z 57 27 ≤ 2147483647 := hG.pr 57 27
      exact mx_J.ret (sn_209 22) (fun _ _ => rfl) (hP 1 (by omega))
    refine Jif_eq (show mx_Sn _ _ 5 (mx_if_eq 21 8) from sn_209 5) (by omega) (fun q7 => ?_) (fun q7 => ?_)
    · skip
      exact c21 
    · skip
      refine mx_J.step (sn_209 8) (fun _ _ => rfl) ?_
      refine Ji2l (show mx_Sn _ _ 9 (mx_i2l 10) from sn_209 9) (by omega) ?_
      refine JcL (z := 1) (show mx_Sn _ _ 10 (mx_const (.long 1) 11) from sn_209 10) rfl ?_
      refine mx_J.step (sn_209 11) (fun _ _ => rfl) ?_
      refine Ji2l (show mx_Sn _ _ 12 (mx_i2l 13) from sn_209 12) (by omega) ?_
      refine JcL (z := 1) (show mx_Sn _ _ 13 (mx_const (.long 1) 14) from sn_209 13) rfl ?_
      refine Jlsub (show mx_Sn _ _ 14 (mx_lsub 15) from sn_209 14) ?_
      obtain ⟨z8, hc8, b8⟩ := ct_154_ (d := d + 1) (l := l) (D := D) (b0 := b0) (ad := ad) (Hb := Hb) (tau := tau) hx hG (show (-9223372036854775808) ≤ x1 ∧ x1 ≤ 9223372036854775807 by omega) (show (-9223372036854775808) ≤ 1 ∧ 1 ≤ 9223372036854775807 by omega) (show (-9223372036854775808) ≤ x0 - 1 ∧ x0 - 1 ≤ 9223372036854775807 by omega)
      refine Jcs (show mx_Sn _ _ 15 (mx_calls 154 3 18) from sn_209 15) hc8 rfl rfl rfl ?_
      refine Jif_ne (show mx_Sn _ _ 18 (mx_if_ne 23 21) from sn_209 18) (by omega) (fun q9 => ?_) (fun q9 => ?_)
      · skip
        refine mx_J.step (sn_209 23) (fun _ _ => rfl) ?_
        refine mx_J.step (sn_209 24) (fun _ _ => rfl) ?_
        refine JgetR (g := 1) (b := 57) hx (show mx_Sn _ _ 25 (mx_getf 12 1 28) from sn_209 25) a56 s56 rfl rfl (hG.prr 56 1 rfl) ?_
        refine JcI (z := 27) (show mx_Sn _ _ 28 (mx_const (.int 27) 30) from sn_209 28) rfl ?_
        have b11 := GI_st hG 27
        have b12 : 0 ≤ Z 56 18 ∧ Z 56 18 ≤ 385 := hG.pr 56 18
        have b13 : 0 ≤ Z 57 27 ∧ Z 57 27 ≤ 384 := by have hq := GI_ex hG 57 27; replace hq : f57 (27 % 962) (Z 57 27) := hq; unfold f57 at hq; omega
        have b14 : (-2147483648) ≤ Z 57 27 ∧ Z 57 27 ≤ 2147483647 := hG.pr 57 27
        refine JialdI (z := Z 57 27) hx (show mx_Sn _ _ 30 (mx_iald 31) from sn_209 30) a57 s57 (by omega) rfl ?_
        refine mx_J.step (sn_209 31) (fun _ _ => rfl) ?_
        obtain ⟨z15, hc15, b15⟩ := ct_192_56 (d := d + 0) (l := l) (D := D) (b0 := b0) (ad := ad) (Hb := Hb) (tau := tau) hx hG (show 0 ≤ Z 57 27 ∧ Z 57 27 ≤ 384 by omega) (show (-2147483648) ≤ x0 ∧ x0 ≤ 2147483647 by omega)
        refine Jcv hx (show mx_Sn _ _ 32 (mx_callv 192 3 12 35) from sn_209 32) a56 s56 hc15 rfl rfl rfl ?_
        refine JcI (z := (-1)) (show mx_Sn _ _ 35 (mx_const (.int (-1)) 36) from sn_209 35) rfl ?_
        have c44 : ∀ (k16_0 : Int), 0 ≤ k16_0 ∧ k16_0 ≤ 2 → (k16_0 = 0 → hv Z (Z 57 27) x0 = 1) → mx_J (tB l D b0 ad Hb tau) mt_209 (d + 2) 44 [some (.ref 56), some (xI x0), some (xI x1)] [xI k16_0] h Post := by
          intro k16_0 f16_0 f16_1
          exact mx_J.ret (sn_209 44) (fun _ _ => rfl) (hP k16_0 (by omega))
        refine Jicmp_ne (show mx_Sn _ _ 36 (mx_icmp_ne 43 39) from sn_209 36) (by omega) (by omega) (fun q17 => ?_) (fun q17 => ?_)
        · skip
          refine JcI (z := 0) (show mx_Sn _ _ 43 (mx_const (.int 0) 44) from sn_209 43) rfl ?_
          exact c44 0 (by omega) (by omega)
        · skip
          refine JcI (z := 2) (show mx_Sn _ _ 39 (mx_const (.int 2) 40) from sn_209 39) rfl ?_
          refine mx_J.step (sn_209 40) (fun _ _ => rfl) ?_
          exact c44 2 (by omega) (by omega)
      · skip
        exact c21 
theorem ct_209_56 {l : Launch} {D : va_G} {b0 : Nat} {ad : Nat → Nat} {Hb : Heap} {tau : Nat → Int64} {d n s : Nat} {S : Nat → xS} {Z : xZ} {h : mx_H} (hx : XH n s S Z h) (hG : GI n S Z)  {x0 x1 : Int} (p0 : (-2147483648) ≤ x0 ∧ x0 ≤ 2147483647) (p1 : (-2147483648) ≤ x1 ∧ x1 ≤ 2147483647) : ∃ z : Int, mx_Ca (tB l D b0 ad Hb tau) (d + 3) 209 [.ref 56, xI x0, xI x1] h (some (xI z), h) ∧ (0 ≤ z ∧ z ≤ 2 ∧ (z = 0 → (1 ≤ x0 ∧ x0 ≤ 18 ∧ 1 ≤ x1 ∧ x1 ≤ x0 - 1 ∧ hv Z (Z 57 27) x0 = 1))) := by
  obtain ⟨r, hca, z, e, hp⟩ := Jmt (B := tB l D b0 ad Hb tau) (M := mt_209) (mi := 209) (as := [.ref 56, xI x0, xI x1]) (d := d + 2) (ls := [some (.ref 56), some (xI x0), some (xI x1)]) rfl rfl rfl rfl rfl rfl (cw_209_56 (l := l) (D := D) (b0 := b0) (ad := ad) (Hb := Hb) (tau := tau) (d := d) (Post := fun r => ∃ z : Int, r = (some (xI z), h) ∧ (0 ≤ z ∧ z ≤ 2 ∧ (z = 0 → (1 ≤ x0 ∧ x0 ≤ 18 ∧ 1 ≤ x1 ∧ x1 ≤ x0 - 1 ∧ hv Z (Z 57 27) x0 = 1)))) hx hG p0 p1 (fun z hz => ⟨z, rfl, hz⟩))
  subst e; exact ⟨z, hca, hp⟩
set_option maxRecDepth 100000 in
theorem cw_210_56 {l : Launch} {D : va_G} {b0 : Nat} {ad : Nat → Nat} {Hb : Heap} {tau : Nat → Int64} {d n s : Nat} {S : Nat → xS} {Z : xZ} {h : mx_H} {Post : mx_R → Prop} (hx : XH n s S Z h) (hG : GI n S Z)  {x0 x1 : Int} (p0 : 1 ≤ x0 ∧ x0 ≤ 18) (p1 : 1 ≤ x1 ∧ x1 ≤ 17) (k0 : hv Z (Z 57 27) x0 = 1) (hP : ∀ (Z' : xZ) (h' : mx_H), XH n s S Z' h' → GI n S Z' → fr' [(57, (-1)), (62, (-1))] Z Z' → Post (none, h')) : mx_J (tB l D b0 ad Hb tau) mt_210 (d + 2) 0 [some (.ref 56), some (xI x0), some (xI x1)] [] h Post := by
    have a56 : 56 < n := lt83 (GI_n hG) rfl
    have s56 : S 56 = .inl (12, [0, 2, 2, 2, 2, 0, 0, 0, 0, 0, 0, 0, 0, 0, 0, 2, 2, 2, 0, 2, 2, 2, 0, 0, 2, 2, 2, 2, 2, 2, 0, 0, 2, 2, 2, 2, 2, 2, 2, 2, 2, 2]) := GI_s hG 56 rfl
    have a57 : 57 < n := lt83 (GI_n hG) rfl
    have s57 : S 57 = .inr (.int, 2886, 0) := GI_s hG 57 rfl
    have a62 : 62 < n := lt83 (GI_n hG) rfl
    have s62 : S 62 = .inr (.int, 20, 0) := GI_s hG 62 rfl
    refine mx_J.step (sn_210 0) (fun _ _ => rfl) ?_
    refine mx_J.step (sn_210 1) (fun _ _ => rfl) ?_
    refine JgetR (g := 1) (b := 57) hx (show mx_Sn _ _ 2 (mx_getf 12 1 5) from sn_210 2) a56 s56 rfl rfl (hG.prr 56 1 rfl) ?_
    refine JcI (z := 27) (show mx_Sn _ _ 5 (mx_const (.int 27) 7) from sn_210 5) rfl ?_
    have b2 := GI_st hG 27
    have b3 : 0 ≤ Z 56 18 ∧ Z 56 18 ≤ 385 := hG.pr 56 18
    have b4 : 0 ≤ Z 57 27 ∧ Z 57 27 ≤ 384 := by have hq := GI_ex hG 57 27; replace hq : f57 (27 % 962) (Z 57 27) := hq; unfold f57 at hq; omega
    have b5 : (-2147483648) ≤ Z 57 27 ∧ Z 57 27 ≤ 2147483647 := hG.pr 57 27
    refine JialdI (z := Z 57 27) hx (show mx_Sn _ _ 7 (mx_iald 8) from sn_210 7) a57 s57 (by omega) rfl ?_
    obtain ⟨Z6, h6, hc6, hx6, hG6, hf6⟩ := ct_187_56 (d := d + 0) (l := l) (D := D) (b0 := b0) (ad := ad) (Hb := Hb) (tau := tau) hx hG (show 0 ≤ Z 57 27 ∧ Z 57 27 ≤ 384 by omega)
    refine Jcv0 hx (show mx_Sn _ _ 8 (mx_callv 187 2 12 11) from sn_210 8) a56 s56 hc6 rfl rfl rfl ?_
    refine mx_J.step (sn_210 11) (fun _ _ => rfl) ?_
    refine JgetR (g := 16) (b := 62) hx6 (show mx_Sn _ _ 12 (mx_getf 12 16 15) from sn_210 12) a56 s56 rfl rfl (hG6.prr 56 16 rfl) ?_
    refine mx_J.step (sn_210 15) (fun _ _ => rfl) ?_
    refine mx_J.step (sn_210 16) (fun _ _ => rfl) ?_
    refine JgetR (g := 1) (b := 57) hx6 (show mx_Sn _ _ 17 (mx_getf 12 1 20) from sn_210 17) a56 s56 rfl rfl (hG6.prr 56 1 rfl) ?_
    refine JcI (z := 27) (show mx_Sn _ _ 20 (mx_const (.int 27) 22) from sn_210 20) rfl ?_
    refine JialdI (z := Z 57 27) hx6 (show mx_Sn _ _ 22 (mx_iald 23) from sn_210 22) a57 s57 (by omega) (hf6 57 27 rfl) ?_
    refine mx_J.step (sn_210 23) (fun _ _ => rfl) ?_
    have eq10 : hv Z6 (Z 57 27) x0 = hv Z (Z 57 27) x0 := (hv_c (fun i => hf6 61 i rfl))
    obtain ⟨z9, hc9, b9⟩ := ct_192_56 (d := d + 0) (l := l) (D := D) (b0 := b0) (ad := ad) (Hb := Hb) (tau := tau) hx6 hG6 (show 0 ≤ Z 57 27 ∧ Z 57 27 ≤ 384 by omega) (show (-2147483648) ≤ x0 ∧ x0 ≤ 2147483647 by omega)
    refine Jcv hx6 (show mx_Sn _ _ 24 (mx_callv 192 3 12 27) from sn_210 24) a56 s56 hc9 rfl rfl rfl ?_
    refine mx_J.step (sn_210 27) (fun _ _ => rfl) ?_
    refine mx_J.step (sn_210 28) (fun _ _ => rfl) ?_
    refine Jisub (show mx_Sn _ _ 29 (mx_isub 30) from sn_210 29) ?_
    refine JiastI hx6 (show mx_Sn _ _ 30 (mx_iast 1 31) from sn_210 30) a62 s62 rfl (by omega) (fun Z11 h11 hx11 hE11 => ?_)
    have hG11 := GI_up hG6 hE11 (show (-2147483648) ≤ x0 - x1 ∧ x0 - x1 ≤ 2147483647 by omega) trivial rfl
    refine mx_J.step (sn_210 31) (fun _ _ => rfl) ?_
    refine JgetR (g := 16) (b := 62) hx11 (show mx_Sn _ _ 32 (mx_getf 12 16 35) from sn_210 32) a56 s56 rfl rfl (hG11.prr 56 16 rfl) ?_
    refine JcI (z := 18) (show mx_Sn _ _ 35 (mx_const (.int 18) 37) from sn_210 35) rfl ?_
    refine mx_J.step (sn_210 37) (fun _ _ => rfl) ?_
    refine JiastI hx11 (show mx_Sn _ _ 38 (mx_iast 1 39) from sn_210 38) a62 s62 rfl (by omega) (fun Z13 h13 hx13 hE13 => ?_)
    have hG13 := GI_up hG11 hE13 (show (-2147483648) ≤ x1 ∧ x1 ≤ 2147483647 by omega) trivial rfl
    refine mx_J.step (sn_210 39) (fun _ _ => rfl) ?_
    refine JgetR (g := 1) (b := 57) hx13 (show mx_Sn _ _ 40 (mx_getf 12 1 43) from sn_210 40) a56 s56 rfl rfl (hG13.prr 56 1 rfl) ?_
    refine JcI (z := 27) (show mx_Sn _ _ 43 (mx_const (.int 27) 45) from sn_210 43) rfl ?_
    refine mx_J.step (sn_210 45) (fun _ _ => rfl) ?_
    have eq16 : Z13 56 18 = Z 56 18 := ((up_nk hE13 rfl).trans ((up_nk hE11 rfl).trans (hf6 56 18 rfl)))
    obtain ⟨z15, Z15, h15, hc15, hx15, hG15, hf15, b15⟩ := ct_188_56 (d := d + 0) (l := l) (D := D) (b0 := b0) (ad := ad) (Hb := Hb) (tau := tau) hx13 hG13 
    try rw [eq16] at b15
    refine Jcv hx13 (show mx_Sn _ _ 46 (mx_callv 188 1 12 49) from sn_210 46) a56 s56 hc15 rfl rfl rfl ?_
    refine JiastI hx15 (show mx_Sn _ _ 49 (mx_iast 1 50) from sn_210 49) a57 s57 rfl (by omega) (fun Z17 h17 hx17 hE17 => ?_)
    have eq18 : Z15 56 18 = Z 56 18 := ((hf15 56 18 rfl).trans ((up_nk hE13 rfl).trans ((up_nk hE11 rfl).trans (hf6 56 18 rfl))))
    have hG17 := GI_up57 hG15 hE17 (show (-2147483648) ≤ z15 ∧ z15 ≤ 2147483647 by omega) (show f57 ((27) % 962) (z15) by first | assumption | (unfold f57; omega) | (unfold f57 at *; omega)) (by omega) (by omega)
    have eq19 : Z17 57 27 = z15 := (up_at hE17)
    have eq20 : hv Z17 (Z17 57 27) x0 = hv Z z15 x0 := by rw [(show Z17 57 27 = z15 from (up_at hE17))]; exact ((hv_c (fun i => up_nk hE17 rfl)).trans ((hv_c (fun i => hf15 61 i rfl)).trans ((hv_c (fun i => up_nk hE13 rfl)).trans ((hv_c (fun i => up_nk hE11 rfl)).trans (hv_c (fun i => hf6 61 i rfl))))))
    have eq21 : hv Z17 z15 x0 = hv Z z15 x0 := ((hv_c (fun i => up_nk hE17 rfl)).trans ((hv_c (fun i => hf15 61 i rfl)).trans ((hv_c (fun i => up_nk hE13 rfl)).trans ((hv_c (fun i => up_nk hE11 rfl)).trans (hv_c (fun i => hf6 61 i rfl))))))
    exact mx_J.ret (sn_210 50) (fun _ _ => rfl) (hP Z17 h17 hx17 hG17 (fr_tr (M := [(57, (-1)), (62, (-1))]) (fr_tr (M := [(57, (-1)), (62, (-1))]) (fr_tr (M := [(57, (-1)), (62, (-1))]) (fr_tr (M := [(57, (-1)), (62, (-1))]) (fr_tr (M := [(57, (-1)), (62, (-1))]) fr_rf (hf6) (M1 := []) rfl rfl) (fr_ua hE11) rfl rfl) (fr_ua hE13) rfl rfl) (hf15) rfl rfl) (fr_ua hE17) rfl rfl))
theorem ct_210_56 {l : Launch} {D : va_G} {b0 : Nat} {ad : Nat → Nat} {Hb : Heap} {tau : Nat → Int64} {d n s : Nat} {S : Nat → xS} {Z : xZ} {h : mx_H} (hx : XH n s S Z h) (hG : GI n S Z)  {x0 x1 : Int} (p0 : 1 ≤ x0 ∧ x0 ≤ 18) (p1 : 1 ≤ x1 ∧ x1 ≤ 17) (k0 : hv Z (Z 57 27) x0 = 1) : ∃ (Z' : xZ) (h' : mx_H), mx_Ca (tB l D b0 ad Hb tau) (d + 3) 210 [.ref 56, xI x0, xI x1] h (none, h') ∧ XH n s S Z' h' ∧ GI n S Z' ∧ fr' [(57, (-1)), (62, (-1))] Z Z' := by
  obtain ⟨r, hca, Z', h', e, q⟩ := Jmt (B := tB l D b0 ad Hb tau) (M := mt_210) (mi := 210) (as := [.ref 56, xI x0, xI x1]) (d := d + 2) (ls := [some (.ref 56), some (xI x0), some (xI x1)]) rfl rfl rfl rfl rfl rfl (cw_210_56 (l := l) (D := D) (b0 := b0) (ad := ad) (Hb := Hb) (tau := tau) (d := d) (Post := fun r => ∃ (Z' : xZ) (h' : mx_H), r = (none, h') ∧ XH n s S Z' h' ∧ GI n S Z' ∧ fr' [(57, (-1)), (62, (-1))] Z Z') hx hG p0 p1 k0 (fun Z' h' q1 q2 q3 => ⟨Z', h', rfl, q1, q2, q3⟩))
  subst e; exact ⟨Z', h', hca, q⟩
set_option maxRecDepth 100000 in
theorem cw_211_56 {l : Launch} {D : va_G} {b0 : Nat} {ad : Nat → Nat} {Hb : Heap} {tau : Nat → Int64} {d n s : Nat} {S : Nat → xS} {Z : xZ} {h : mx_H} {Post : mx_R → Prop} (hx : XH n s S Z h) (hG : GI n S Z)  {x0 x1 : Int} (p0 : (-2147483648) ≤ x0 ∧ x0 ≤ 2147483647) (p1 : (-2147483648) ≤ x1 ∧ x1 ≤ 2147483647) (hP : ∀ (z : Int) (Z' : xZ) (h' : mx_H), XH n s S Z' h' → GI n S Z' → fr' [(56, 0), (57, (-1)), (62, (-1)), (66, (-1))] Z Z' → (-12) ≤ z ∧ z ≤ 18 → Post (some (xI z), h')) : mx_J (tB l D b0 ad Hb tau) mt_211 (d + 3) 0 [some (.ref 56), some (xI x0), some (xI x1), none] [] h Post := by
    have a56 : 56 < n := lt83 (GI_n hG) rfl
    have s56 : S 56 = .inl (12, [0, 2, 2, 2, 2, 0, 0, 0, 0, 0, 0, 0, 0, 0, 0, 2, 2, 2, 0, 2, 2, 2, 0, 0, 2, 2, 2, 2, 2, 2, 0, 0, 2, 2, 2, 2, 2, 2, 2, 2, 2, 2]) := GI_s hG 56 rfl
    have a57 : 57 < n := lt83 (GI_n hG) rfl
    have s57 : S 57 = .inr (.int, 2886, 0) := GI_s hG 57 rfl
    refine mx_J.step (sn_211 0) (fun _ _ => rfl) ?_
    refine JcI (z := 0) (show mx_Sn _ _ 1 (mx_const (.int 0) 2) from sn_211 1) rfl ?_
    refine JputI (g := 0) hx (show mx_Sn _ _ 2 (mx_putf 1 12 0 (.int) 5) from sn_211 2) a56 s56 rfl rfl rfl rfl (fun Z1 h1 hx1 hE1 => ?_)
    have hG1 := GI_up hG hE1 (show (-2147483648) ≤ 0 ∧ 0 ≤ 2147483647 by omega) trivial rfl
    refine mx_J.step (sn_211 5) (fun _ _ => rfl) ?_
    refine mx_J.step (sn_211 6) (fun _ _ => rfl) ?_
    refine mx_J.step (sn_211 7) (fun _ _ => rfl) ?_
    have eq3 : Z1 57 27 = Z 57 27 := (up_nk hE1 rfl)
    have b4 := GI_st hG 27
    have b5 : 0 ≤ Z 56 18 ∧ Z 56 18 ≤ 385 := hG.pr 56 18
    have b6 : 0 ≤ Z 57 27 ∧ Z 57 27 ≤ 384 := by have hq := GI_ex hG 57 27; replace hq : f57 (27 % 962) (Z 57 27) := hq; unfold f57 at hq; omega
    have b7 : (-2147483648) ≤ Z 57 27 ∧ Z 57 27 ≤ 2147483647 := hG.pr 57 27
    have eq8 : hv Z1 (Z1 57 27) x0 = hv Z (Z 57 27) x0 := by rw [(show Z1 57 27 = Z 57 27 from (up_nk hE1 rfl))]; exact (hv_c (fun i => up_nk hE1 rfl))
    have eq9 : hv Z1 (Z 57 27) x0 = hv Z (Z 57 27) x0 := (hv_c (fun i => up_nk hE1 rfl))
    obtain ⟨z2, hc2, b2⟩ := ct_209_56 (d := d + 0) (l := l) (D := D) (b0 := b0) (ad := ad) (Hb := Hb) (tau := tau) hx1 hG1 (show (-2147483648) ≤ x0 ∧ x0 ≤ 2147483647 by omega) (show (-2147483648) ≤ x1 ∧ x1 ≤ 2147483647 by omega)
    try rw [eq3] at b2
    refine Jcv hx1 (show mx_Sn _ _ 8 (mx_callv 209 3 12 11) from sn_211 8) a56 s56 hc2 rfl rfl rfl ?_
    refine mx_J.step (ls2 := [some (.ref 56), some (xI x0), some (xI x1), some (xI z2)]) (sn_211 11) (fun _ _ => rfl) ?_
    refine mx_J.step (sn_211 12) (fun _ _ => rfl) ?_
    refine Jif_eq (show mx_Sn _ _ 13 (mx_if_eq 21 16) from sn_211 13) (by omega) (fun q10 => ?_) (fun q10 => ?_)
    · skip
      refine mx_J.step (sn_211 21) (fun _ _ => rfl) ?_
      have eq12 : Z1 57 27 = Z 57 27 := (up_nk hE1 rfl)
      obtain ⟨Z11, h11, hc11, hx11, hG11, hf11, b11⟩ := ct_202_56 (d := d + 2) (l := l) (D := D) (b0 := b0) (ad := ad) (Hb := Hb) (tau := tau) hx1 hG1 
      try rw [eq12] at b11
      have b13 : (-2147483648) ≤ Z11 66 0 ∧ Z11 66 0 ≤ 2147483647 := hG11.pr 66 0
      have b14 : (((0 : Int) = 0 → 0 ≤ (Z11 66 0) ∧ (Z11 66 0) ≤ 384) ∧ ((0 : Int) = 1 → 0 ≤ (Z11 66 0) ∧ (Z11 66 0) ≤ 9)) := GI_ex hG11 66 0
      refine Jcv0 hx1 (show mx_Sn _ _ 22 (mx_callv 202 1 12 25) from sn_211 22) a56 s56 hc11 rfl rfl rfl ?_
      refine mx_J.step (sn_211 25) (fun _ _ => rfl) ?_
      refine mx_J.step (sn_211 26) (fun _ _ => rfl) ?_
      refine mx_J.step (sn_211 27) (fun _ _ => rfl) ?_
      have eq16 : Z11 57 27 = Z 57 27 := ((hf11 57 27 rfl).trans (up_nk hE1 rfl))
      have eq17 : hv Z11 (Z11 57 27) x0 = hv Z (Z 57 27) x0 := by rw [(show Z11 57 27 = Z 57 27 from ((hf11 57 27 rfl).trans (up_nk hE1 rfl)))]; exact ((hv_c (fun i => hf11 61 i rfl)).trans (hv_c (fun i => up_nk hE1 rfl)))
      have eq18 : hv Z11 (Z 57 27) x0 = hv Z (Z 57 27) x0 := ((hv_c (fun i => hf11 61 i rfl)).trans (hv_c (fun i => up_nk hE1 rfl)))
      obtain ⟨Z15, h15, hc15, hx15, hG15, hf15⟩ := ct_210_56 (d := d + 0) (l := l) (D := D) (b0 := b0) (ad := ad) (Hb := Hb) (tau := tau) hx11 hG11 (show 1 ≤ x0 ∧ x0 ≤ 18 by omega) (show 1 ≤ x1 ∧ x1 ≤ 17 by omega) (show hv Z11 (Z11 57 27) x0 = 1 by first | omega | (simp only [eq16]; omega))
      refine Jcv0 hx11 (show mx_Sn _ _ 28 (mx_callv 210 3 12 31) from sn_211 28) a56 s56 hc15 rfl rfl rfl ?_
      refine mx_J.step (sn_211 31) (fun _ _ => rfl) ?_
      have eq20 : Z15 66 0 = Z11 66 0 := (hf15 66 0 rfl)
      have eq21 : Z15 56 18 = Z 56 18 := ((hf15 56 18 rfl).trans ((hf11 56 18 rfl).trans (up_ni hE1 (by decide))))
      obtain ⟨Z19, h19, hc19, hx19, hG19, hf19⟩ := ct_204_56 (d := d + 2) (l := l) (D := D) (b0 := b0) (ad := ad) (Hb := Hb) (tau := tau) hx15 hG15  (show Z15 66 0 < Z15 56 18 by first | omega | (simp only [eq20, eq21]; omega))
      refine Jcv0 hx15 (show mx_Sn _ _ 32 (mx_callv 204 1 12 35) from sn_211 32) a56 s56 hc19 rfl rfl rfl ?_
      refine mx_J.step (sn_211 35) (fun _ _ => rfl) ?_
      refine mx_J.step (sn_211 36) (fun _ _ => rfl) ?_
      refine JgetR (g := 1) (b := 57) hx19 (show mx_Sn _ _ 37 (mx_getf 12 1 40) from sn_211 37) a56 s56 rfl rfl (hG19.prr 56 1 rfl) ?_
      refine JcI (z := 27) (show mx_Sn _ _ 40 (mx_const (.int 27) 42) from sn_211 40) rfl ?_
      have b23 := GI_st hG19 27
      have eq24 : Z19 56 18 = Z 56 18 := ((hf19 56 18 rfl).trans ((hf15 56 18 rfl).trans ((hf11 56 18 rfl).trans (up_ni hE1 (by decide)))))
      have b25 : 0 ≤ Z19 57 27 ∧ Z19 57 27 ≤ 384 := by have hq := GI_ex hG19 57 27; replace hq : f57 (27 % 962) (Z19 57 27) := hq; unfold f57 at hq; omega
      have b26 : (-2147483648) ≤ Z19 57 27 ∧ Z19 57 27 ≤ 2147483647 := hG19.pr 57 27
      refine JialdI (z := Z19 57 27) hx19 (show mx_Sn _ _ 42 (mx_iald 43) from sn_211 42) a57 s57 (by omega) rfl ?_
      have eq28 : mn Z19 (Z19 57 27) = mn Z (Z19 57 27) := ((mn_c (fun i => hf19 61 i rfl)).trans ((mn_c (fun i => hf15 61 i rfl)).trans ((mn_c (fun i => hf11 61 i rfl)).trans (mn_c (fun i => up_nk hE1 rfl)))))
      obtain ⟨z27, hc27, b27⟩ := ct_191_56 (d := d + 1) (l := l) (D := D) (b0 := b0) (ad := ad) (Hb := Hb) (tau := tau) hx19 hG19 (show 0 ≤ Z19 57 27 ∧ Z19 57 27 ≤ 384 by omega)
      refine Jcv hx19 (show mx_Sn _ _ 43 (mx_callv 191 2 12 46) from sn_211 43) a56 s56 hc27 rfl rfl rfl ?_
      exact mx_J.ret (sn_211 46) (fun _ _ => rfl) (hP z27 Z19 h19 hx19 hG19 (fr_tr (M := [(56, 0), (57, (-1)), (62, (-1)), (66, (-1))]) (fr_tr (M := [(56, 0), (57, (-1)), (62, (-1)), (66, (-1))]) (fr_tr (M := [(56, 0), (57, (-1)), (62, (-1)), (66, (-1))]) (fr_tr (M := [(56, 0), (57, (-1)), (62, (-1)), (66, (-1))]) fr_rf (fr_up hE1) (M1 := []) rfl rfl) (hf11) rfl rfl) (hf15) rfl rfl) (hf19) rfl rfl) (by omega))
    · skip
      refine JcI (z := (-10)) (show mx_Sn _ _ 16 (mx_const (.int (-10)) 18) from sn_211 16) rfl ?_
      refine mx_J.step (sn_211 18) (fun _ _ => rfl) ?_
      refine Jisub (show mx_Sn _ _ 19 (mx_isub 20) from sn_211 19) ?_
      exact mx_J.ret (sn_211 20) (fun _ _ => rfl) (hP ((-10) - z2) Z1 h1 hx1 hG1 (fr_tr (M := [(56, 0), (57, (-1)), (62, (-1)), (66, (-1))]) fr_rf (fr_up hE1) (M1 := []) rfl rfl) (by omega))
theorem ct_211_56 {l : Launch} {D : va_G} {b0 : Nat} {ad : Nat → Nat} {Hb : Heap} {tau : Nat → Int64} {d n s : Nat} {S : Nat → xS} {Z : xZ} {h : mx_H} (hx : XH n s S Z h) (hG : GI n S Z)  {x0 x1 : Int} (p0 : (-2147483648) ≤ x0 ∧ x0 ≤ 2147483647) (p1 : (-2147483648) ≤ x1 ∧ x1 ≤ 2147483647) : ∃ (z : Int) (Z' : xZ) (h' : mx_H), mx_Ca (tB l D b0 ad Hb tau) (d + 4) 211 [.ref 56, xI x0, xI x1] h (some (xI z), h') ∧ XH n s S Z' h' ∧ GI n S Z' ∧ fr' [(56, 0), (57, (-1)), (62, (-1)), (66, (-1))] Z Z' ∧ ((-12) ≤ z ∧ z ≤ 18) := by
  obtain ⟨r, hca, z, Z', h', e, q⟩ := Jmt (B := tB l D b0 ad Hb tau) (M := mt_211) (mi := 211) (as := [.ref 56, xI x0, xI x1]) (d := d + 3) (ls := [some (.ref 56), some (xI x0), some (xI x1), none]) rfl rfl rfl rfl rfl rfl (cw_211_56 (l := l) (D := D) (b0 := b0) (ad := ad) (Hb := Hb) (tau := tau) (d := d) (Post := fun r => ∃ (z : Int) (Z' : xZ) (h' : mx_H), r = (some (xI z), h') ∧ XH n s S Z' h' ∧ GI n S Z' ∧ fr' [(56, 0), (57, (-1)), (62, (-1)), (66, (-1))] Z Z' ∧ ((-12) ≤ z ∧ z ≤ 18)) hx hG p0 p1 (fun z Z' h' q1 q2 q3 q4 => ⟨z, Z', h', rfl, q1, q2, q3, q4⟩))
  subst e; exact ⟨z, Z', h', hca, q⟩
set_option maxRecDepth 100000 in
theorem cw_212_56 {l : Launch} {D : va_G} {b0 : Nat} {ad : Nat → Nat} {Hb : Heap} {tau : Nat → Int64} {d n s : Nat} {S : Nat → xS} {Z : xZ} {h : mx_H} {Post : mx_R → Prop} (hx : XH n s S Z h) (hG : GI n S Z)  {x0 x1 : Int} (p0 : (-2147483648) ≤ x0 ∧ x0 ≤ 2147483647) (p1 : (-2147483648) ≤ x1 ∧ x1 ≤ 2147483647) (hP : ∀ z : Int, 0 ≤ z ∧ z ≤ 2 ∧ (z = 0 → (1 ≤ x0 ∧ x0 ≤ 18 ∧ 1 ≤ x1 ∧ x1 ≤ 18 ∧ hv Z (Z 57 27) x0 = 1 ∧ hv Z (Z 57 27) x1 = 1)) → Post (some (xI z), h)) : mx_J (tB l D b0 ad Hb tau) mt_212 (d + 2) 0 [some (.ref 56), some (xI x0), some (xI x1), none] [] h Post := by
    have a56 : 56 < n := lt83 (GI_n hG) rfl
    have s56 : S 56 = .inl (12, [0, 2, 2, 2, 2, 0, 0, 0, 0, 0, 0, 0, 0, 0, 0, 2, 2, 2, 0, 2, 2, 2, 0, 0, 2, 2, 2, 2, 2, 2, 0, 0, 2, 2, 2, 2, 2, 2, 2, 2, 2, 2]) := GI_s hG 56 rfl
    have a57 : 57 < n := lt83 (GI_n hG) rfl
    have s57 : S 57 = .inr (.int, 2886, 0) := GI_s hG 57 rfl
    refine mx_J.step (sn_212 0) (fun _ _ => rfl) ?_
    refine Ji2l (show mx_Sn _ _ 1 (mx_i2l 2) from sn_212 1) (by omega) ?_
    obtain ⟨z1, hc1, b1⟩ := ct_208_ (d := d + 0) (l := l) (D := D) (b0 := b0) (ad := ad) (Hb := Hb) (tau := tau) hx hG (show (-9223372036854775808) ≤ x0 ∧ x0 ≤ 9223372036854775807 by omega)
    refine Jcs (show mx_Sn _ _ 2 (mx_calls 208 1 5) from sn_212 2) hc1 rfl rfl rfl ?_
    have c16 : mx_J (tB l D b0 ad Hb tau) mt_212 (d + 2) 16 [some (.ref 56), some (xI x0), some (xI x1), none] [] h Post := by
      refine JcI (z := 1) (show mx_Sn _ _ 16 (mx_const (.int 1) 17) from sn_212 16) rfl ?_
      have b3 := GI_st hG 27
      have b4 : 0 ≤ Z 56 18 ∧ Z 56 18 ≤ 385 := hG.pr 56 18
      have b5 : 0 ≤ Z 57 27 ∧ Z 57 27 ≤ 384 := by have hq := GI_ex hG 57 27; replace hq : f57 (27 % 962) (Z 57 27) := hq; unfold f57 at hq; omega
      have b6 : (-2147483648) ≤ Z 57 27 ∧ Z 57 27 ≤ 2147483647 := hG.pr 57 27
      exact mx_J.ret (sn_212 17) (fun _ _ => rfl) (hP 1 (by omega))
    refine Jif_eq (show mx_Sn _ _ 5 (mx_if_eq 16 8) from sn_212 5) (by omega) (fun q7 => ?_) (fun q7 => ?_)
    · skip
      exact c16 
    · skip
      refine mx_J.step (sn_212 8) (fun _ _ => rfl) ?_
      refine Ji2l (show mx_Sn _ _ 9 (mx_i2l 10) from sn_212 9) (by omega) ?_
      obtain ⟨z8, hc8, b8⟩ := ct_208_ (d := d + 0) (l := l) (D := D) (b0 := b0) (ad := ad) (Hb := Hb) (tau := tau) hx hG (show (-9223372036854775808) ≤ x1 ∧ x1 ≤ 9223372036854775807 by omega)
      refine Jcs (show mx_Sn _ _ 10 (mx_calls 208 1 13) from sn_212 10) hc8 rfl rfl rfl ?_
      refine Jif_ne (show mx_Sn _ _ 13 (mx_if_ne 18 16) from sn_212 13) (by omega) (fun q9 => ?_) (fun q9 => ?_)
      · skip
        refine mx_J.step (sn_212 18) (fun _ _ => rfl) ?_
        refine mx_J.step (sn_212 19) (fun _ _ => rfl) ?_
        refine JgetR (g := 1) (b := 57) hx (show mx_Sn _ _ 20 (mx_getf 12 1 23) from sn_212 20) a56 s56 rfl rfl (hG.prr 56 1 rfl) ?_
        refine JcI (z := 27) (show mx_Sn _ _ 23 (mx_const (.int 27) 25) from sn_212 23) rfl ?_
        have b11 := GI_st hG 27
        have b12 : 0 ≤ Z 56 18 ∧ Z 56 18 ≤ 385 := hG.pr 56 18
        have b13 : 0 ≤ Z 57 27 ∧ Z 57 27 ≤ 384 := by have hq := GI_ex hG 57 27; replace hq : f57 (27 % 962) (Z 57 27) := hq; unfold f57 at hq; omega
        have b14 : (-2147483648) ≤ Z 57 27 ∧ Z 57 27 ≤ 2147483647 := hG.pr 57 27
        refine JialdI (z := Z 57 27) hx (show mx_Sn _ _ 25 (mx_iald 26) from sn_212 25) a57 s57 (by omega) rfl ?_
        refine mx_J.step (sn_212 26) (fun _ _ => rfl) ?_
        obtain ⟨z15, hc15, b15⟩ := ct_192_56 (d := d + 0) (l := l) (D := D) (b0 := b0) (ad := ad) (Hb := Hb) (tau := tau) hx hG (show 0 ≤ Z 57 27 ∧ Z 57 27 ≤ 384 by omega) (show (-2147483648) ≤ x0 ∧ x0 ≤ 2147483647 by omega)
        refine Jcv hx (show mx_Sn _ _ 27 (mx_callv 192 3 12 30) from sn_212 27) a56 s56 hc15 rfl rfl rfl ?_
        refine mx_J.step (ls2 := [some (.ref 56), some (xI x0), some (xI x1), some (xI z15)]) (sn_212 30) (fun _ _ => rfl) ?_
        refine mx_J.step (sn_212 31) (fun _ _ => rfl) ?_
        refine JcI (z := (-1)) (show mx_Sn _ _ 32 (mx_const (.int (-1)) 33) from sn_212 32) rfl ?_
        have c52 : mx_J (tB l D b0 ad Hb tau) mt_212 (d + 2) 52 [some (.ref 56), some (xI x0), some (xI x1), some (xI z15)] [] h Post := by
          refine JcI (z := 2) (show mx_Sn _ _ 52 (mx_const (.int 2) 53) from sn_212 52) rfl ?_
          exact mx_J.ret (sn_212 53) (fun _ _ => rfl) (hP 2 (by omega))
        refine Jicmp_eq (show mx_Sn _ _ 33 (mx_icmp_eq 52 36) from sn_212 33) (by omega) (by omega) (fun q17 => ?_) (fun q17 => ?_)
        · skip
          exact c52 
        · skip
          refine mx_J.step (sn_212 36) (fun _ _ => rfl) ?_
          refine mx_J.step (sn_212 37) (fun _ _ => rfl) ?_
          refine JgetR (g := 1) (b := 57) hx (show mx_Sn _ _ 38 (mx_getf 12 1 41) from sn_212 38) a56 s56 rfl rfl (hG.prr 56 1 rfl) ?_
          refine JcI (z := 27) (show mx_Sn _ _ 41 (mx_const (.int 27) 43) from sn_212 41) rfl ?_
          refine JialdI (z := Z 57 27) hx (show mx_Sn _ _ 43 (mx_iald 44) from sn_212 43) a57 s57 (by omega) rfl ?_
          refine mx_J.step (sn_212 44) (fun _ _ => rfl) ?_
          obtain ⟨z19, hc19, b19⟩ := ct_192_56 (d := d + 0) (l := l) (D := D) (b0 := b0) (ad := ad) (Hb := Hb) (tau := tau) hx hG (show 0 ≤ Z 57 27 ∧ Z 57 27 ≤ 384 by omega) (show (-2147483648) ≤ x1 ∧ x1 ≤ 2147483647 by omega)
          refine Jcv hx (show mx_Sn _ _ 45 (mx_callv 192 3 12 48) from sn_212 45) a56 s56 hc19 rfl rfl rfl ?_
          refine JcI (z := (-1)) (show mx_Sn _ _ 48 (mx_const (.int (-1)) 49) from sn_212 48) rfl ?_
          refine Jicmp_ne (show mx_Sn _ _ 49 (mx_icmp_ne 54 52) from sn_212 49) (by omega) (by omega) (fun q20 => ?_) (fun q20 => ?_)
          · skip
            refine mx_J.step (sn_212 54) (fun _ _ => rfl) ?_
            refine mx_J.step (sn_212 55) (fun _ _ => rfl) ?_
            have c88 : ∀ (k21_0 : Int), 0 ≤ k21_0 ∧ k21_0 ≤ 2 → mx_J (tB l D b0 ad Hb tau) mt_212 (d + 2) 88 [some (.ref 56), some (xI x0), some (xI x1), some (xI z15)] [xI k21_0] h Post := by
              intro k21_0 f21_0
              exact mx_J.ret (sn_212 88) (fun _ _ => rfl) (hP k21_0 (by omega))
            have c83 : mx_J (tB l D b0 ad Hb tau) mt_212 (d + 2) 83 [some (.ref 56), some (xI x0), some (xI x1), some (xI z15)] [] h Post := by
              refine JcI (z := 0) (show mx_Sn _ _ 83 (mx_const (.int 0) 84) from sn_212 83) rfl ?_
              refine mx_J.step (sn_212 84) (fun _ _ => rfl) ?_
              exact c88 0 (by omega)
            refine Jicmp_ne (show mx_Sn _ _ 56 (mx_icmp_ne 83 59) from sn_212 56) (by omega) (by omega) (fun q23 => ?_) (fun q23 => ?_)
            · skip
              exact c83 
            · skip
              refine mx_J.step (sn_212 59) (fun _ _ => rfl) ?_
              refine JcI (z := 17) (show mx_Sn _ _ 60 (mx_const (.int 17) 62) from sn_212 60) rfl ?_
              have c87 : mx_J (tB l D b0 ad Hb tau) mt_212 (d + 2) 87 [some (.ref 56), some (xI x0), some (xI x1), some (xI z15)] [] h Post := by
                refine JcI (z := 2) (show mx_Sn _ _ 87 (mx_const (.int 2) 88) from sn_212 87) rfl ?_
                exact c88 2 (by omega)
              refine Jicmp_ge (show mx_Sn _ _ 62 (mx_icmp_ge 87 65) from sn_212 62) (by omega) (by omega) (fun q25 => ?_) (fun q25 => ?_)
              · skip
                exact c87 
              · skip
                refine mx_J.step (sn_212 65) (fun _ _ => rfl) ?_
                refine mx_J.step (sn_212 66) (fun _ _ => rfl) ?_
                refine JgetR (g := 1) (b := 57) hx (show mx_Sn _ _ 67 (mx_getf 12 1 70) from sn_212 67) a56 s56 rfl rfl (hG.prr 56 1 rfl) ?_
                refine JcI (z := 27) (show mx_Sn _ _ 70 (mx_const (.int 27) 72) from sn_212 70) rfl ?_
                refine JialdI (z := Z 57 27) hx (show mx_Sn _ _ 72 (mx_iald 73) from sn_212 72) a57 s57 (by omega) rfl ?_
                refine mx_J.step (sn_212 73) (fun _ _ => rfl) ?_
                refine JcI (z := 1) (show mx_Sn _ _ 74 (mx_const (.int 1) 75) from sn_212 74) rfl ?_
                refine Jiadd (show mx_Sn _ _ 75 (mx_iadd 76) from sn_212 75) ?_
                have b28 : 0 ≤ Z 61 (18 * (Z 57 27) + (z15 + 1)) ∧ Z 61 (18 * (Z 57 27) + (z15 + 1)) ≤ 18 := hG.pr 61 (18 * (Z 57 27) + (z15 + 1))
                obtain ⟨z27, hc27, b27⟩ := ct_190_56 (d := d + 1) (l := l) (D := D) (b0 := b0) (ad := ad) (Hb := Hb) (tau := tau) hx hG (show 0 ≤ Z 57 27 ∧ Z 57 27 ≤ 384 by omega) (show 0 ≤ z15 + 1 ∧ z15 + 1 ≤ 17 by omega)
                refine Jcv hx (show mx_Sn _ _ 76 (mx_callv 190 3 12 79) from sn_212 76) a56 s56 hc27 rfl rfl rfl ?_
                refine mx_J.step (sn_212 79) (fun _ _ => rfl) ?_
                refine Jicmp_ne (show mx_Sn _ _ 80 (mx_icmp_ne 87 83) from sn_212 80) (by omega) (by omega) (fun q29 => ?_) (fun q29 => ?_)
                · skip
                  exact c87 
                · skip
                  exact c83 
          · skip
            exact c52 
      · skip
        exact c16 
theorem ct_212_56 {l : Launch} {D : va_G} {b0 : Nat} {ad : Nat → Nat} {Hb : Heap} {tau : Nat → Int64} {d n s : Nat} {S : Nat → xS} {Z : xZ} {h : mx_H} (hx : XH n s S Z h) (hG : GI n S Z)  {x0 x1 : Int} (p0 : (-2147483648) ≤ x0 ∧ x0 ≤ 2147483647) (p1 : (-2147483648) ≤ x1 ∧ x1 ≤ 2147483647) : ∃ z : Int, mx_Ca (tB l D b0 ad Hb tau) (d + 3) 212 [.ref 56, xI x0, xI x1] h (some (xI z), h) ∧ (0 ≤ z ∧ z ≤ 2 ∧ (z = 0 → (1 ≤ x0 ∧ x0 ≤ 18 ∧ 1 ≤ x1 ∧ x1 ≤ 18 ∧ hv Z (Z 57 27) x0 = 1 ∧ hv Z (Z 57 27) x1 = 1))) := by
  obtain ⟨r, hca, z, e, hp⟩ := Jmt (B := tB l D b0 ad Hb tau) (M := mt_212) (mi := 212) (as := [.ref 56, xI x0, xI x1]) (d := d + 2) (ls := [some (.ref 56), some (xI x0), some (xI x1), none]) rfl rfl rfl rfl rfl rfl (cw_212_56 (l := l) (D := D) (b0 := b0) (ad := ad) (Hb := Hb) (tau := tau) (d := d) (Post := fun r => ∃ z : Int, r = (some (xI z), h) ∧ (0 ≤ z ∧ z ≤ 2 ∧ (z = 0 → (1 ≤ x0 ∧ x0 ≤ 18 ∧ 1 ≤ x1 ∧ x1 ≤ 18 ∧ hv Z (Z 57 27) x0 = 1 ∧ hv Z (Z 57 27) x1 = 1)))) hx hG p0 p1 (fun z hz => ⟨z, rfl, hz⟩))
  subst e; exact ⟨z, hca, hp⟩
set_option maxRecDepth 100000 in
theorem cw_213_56 {l : Launch} {D : va_G} {b0 : Nat} {ad : Nat → Nat} {Hb : Heap} {tau : Nat → Int64} {d n s : Nat} {S : Nat → xS} {Z : xZ} {h : mx_H} {Post : mx_R → Prop} (hx : XH n s S Z h) (hG : GI n S Z)  {x0 x1 : Int} (p0 : 1 ≤ x0 ∧ x0 ≤ 18) (p1 : 1 ≤ x1 ∧ x1 ≤ 18) (k0 : hv Z (Z 57 27) x0 = 1) (k1 : hv Z (Z 57 27) x1 = 1) (hP : ∀ (Z' : xZ) (h' : mx_H), XH n s S Z' h' → GI n S Z' → fr' [(57, (-1)), (62, (-1))] Z Z' → Post (none, h')) : mx_J (tB l D b0 ad Hb tau) mt_213 (d + 2) 0 [some (.ref 56), some (xI x0), some (xI x1), none, none] [] h Post := by
    have a56 : 56 < n := lt83 (GI_n hG) rfl
    have s56 : S 56 = .inl (12, [0, 2, 2, 2, 2, 0, 0, 0, 0, 0, 0, 0, 0, 0, 0, 2, 2, 2, 0, 2, 2, 2, 0, 0, 2, 2, 2, 2, 2, 2, 0, 0, 2, 2, 2, 2, 2, 2, 2, 2, 2, 2]) := GI_s hG 56 rfl
    have a57 : 57 < n := lt83 (GI_n hG) rfl
    have s57 : S 57 = .inr (.int, 2886, 0) := GI_s hG 57 rfl
    have a62 : 62 < n := lt83 (GI_n hG) rfl
    have s62 : S 62 = .inr (.int, 20, 0) := GI_s hG 62 rfl
    refine mx_J.step (sn_213 0) (fun _ _ => rfl) ?_
    refine mx_J.step (sn_213 1) (fun _ _ => rfl) ?_
    refine JgetR (g := 1) (b := 57) hx (show mx_Sn _ _ 2 (mx_getf 12 1 5) from sn_213 2) a56 s56 rfl rfl (hG.prr 56 1 rfl) ?_
    refine JcI (z := 27) (show mx_Sn _ _ 5 (mx_const (.int 27) 7) from sn_213 5) rfl ?_
    have b2 := GI_st hG 27
    have b3 : 0 ≤ Z 56 18 ∧ Z 56 18 ≤ 385 := hG.pr 56 18
    have b4 : 0 ≤ Z 57 27 ∧ Z 57 27 ≤ 384 := by have hq := GI_ex hG 57 27; replace hq : f57 (27 % 962) (Z 57 27) := hq; unfold f57 at hq; omega
    have b5 : (-2147483648) ≤ Z 57 27 ∧ Z 57 27 ≤ 2147483647 := hG.pr 57 27
    refine JialdI (z := Z 57 27) hx (show mx_Sn _ _ 7 (mx_iald 8) from sn_213 7) a57 s57 (by omega) rfl ?_
    refine mx_J.step (sn_213 8) (fun _ _ => rfl) ?_
    obtain ⟨z6, hc6, b6⟩ := ct_192_56 (d := d + 0) (l := l) (D := D) (b0 := b0) (ad := ad) (Hb := Hb) (tau := tau) hx hG (show 0 ≤ Z 57 27 ∧ Z 57 27 ≤ 384 by omega) (show (-2147483648) ≤ x0 ∧ x0 ≤ 2147483647 by omega)
    refine Jcv hx (show mx_Sn _ _ 9 (mx_callv 192 3 12 12) from sn_213 9) a56 s56 hc6 rfl rfl rfl ?_
    refine mx_J.step (ls2 := [some (.ref 56), some (xI x0), some (xI x1), some (xI z6), none]) (sn_213 12) (fun _ _ => rfl) ?_
    refine mx_J.step (sn_213 13) (fun _ _ => rfl) ?_
    refine mx_J.step (sn_213 14) (fun _ _ => rfl) ?_
    have c36 : ∀ (k7_0 : Int), (-1) ≤ k7_0 ∧ k7_0 ≤ 18 → 0 ≤ k7_0 → mx_J (tB l D b0 ad Hb tau) mt_213 (d + 2) 36 [some (.ref 56), some (xI x0), some (xI x1), some (xI z6), none] [xI k7_0] h Post := by
      intro k7_0 f7_0 f7_1
      refine mx_J.step (ls2 := [some (.ref 56), some (xI x0), some (xI x1), some (xI z6), some (xI k7_0)]) (sn_213 36) (fun _ _ => rfl) ?_
      refine mx_J.step (sn_213 38) (fun _ _ => rfl) ?_
      refine mx_J.step (sn_213 39) (fun _ _ => rfl) ?_
      refine JgetR (g := 1) (b := 57) hx (show mx_Sn _ _ 40 (mx_getf 12 1 43) from sn_213 40) a56 s56 rfl rfl (hG.prr 56 1 rfl) ?_
      refine JcI (z := 27) (show mx_Sn _ _ 43 (mx_const (.int 27) 45) from sn_213 43) rfl ?_
      refine JialdI (z := Z 57 27) hx (show mx_Sn _ _ 45 (mx_iald 46) from sn_213 45) a57 s57 (by omega) rfl ?_
      obtain ⟨Z9, h9, hc9, hx9, hG9, hf9⟩ := ct_187_56 (d := d + 0) (l := l) (D := D) (b0 := b0) (ad := ad) (Hb := Hb) (tau := tau) hx hG (show 0 ≤ Z 57 27 ∧ Z 57 27 ≤ 384 by omega)
      refine Jcv0 hx (show mx_Sn _ _ 46 (mx_callv 187 2 12 49) from sn_213 46) a56 s56 hc9 rfl rfl rfl ?_
      refine mx_J.step (sn_213 49) (fun _ _ => rfl) ?_
      refine JgetR (g := 16) (b := 62) hx9 (show mx_Sn _ _ 50 (mx_getf 12 16 53) from sn_213 50) a56 s56 rfl rfl (hG9.prr 56 16 rfl) ?_
      refine mx_J.step (sn_213 53) (fun _ _ => rfl) ?_
      refine mx_J.step (sn_213 54) (fun _ _ => rfl) ?_
      refine mx_J.step (sn_213 55) (fun _ _ => rfl) ?_
      refine Jiadd (show mx_Sn _ _ 56 (mx_iadd 57) from sn_213 56) ?_
      refine JiastI hx9 (show mx_Sn _ _ 57 (mx_iast 1 58) from sn_213 57) a62 s62 rfl (by omega) (fun Z11 h11 hx11 hE11 => ?_)
      have hG11 := GI_up hG9 hE11 (show (-2147483648) ≤ x0 + x1 ∧ x0 + x1 ≤ 2147483647 by omega) trivial rfl
      refine mx_J.step (sn_213 58) (fun _ _ => rfl) ?_
      refine JgetR (g := 16) (b := 62) hx11 (show mx_Sn _ _ 59 (mx_getf 12 16 62) from sn_213 59) a56 s56 rfl rfl (hG11.prr 56 16 rfl) ?_
      refine mx_J.step (sn_213 62) (fun _ _ => rfl) ?_
      refine JcI (z := 0) (show mx_Sn _ _ 64 (mx_const (.int 0) 65) from sn_213 64) rfl ?_
      refine JiastI hx11 (show mx_Sn _ _ 65 (mx_iast 1 66) from sn_213 65) a62 s62 rfl (by omega) (fun Z13 h13 hx13 hE13 => ?_)
      have hG13 := GI_up hG11 hE13 (show (-2147483648) ≤ 0 ∧ 0 ≤ 2147483647 by omega) trivial rfl
      refine mx_J.step (sn_213 66) (fun _ _ => rfl) ?_
      refine JgetR (g := 1) (b := 57) hx13 (show mx_Sn _ _ 67 (mx_getf 12 1 70) from sn_213 67) a56 s56 rfl rfl (hG13.prr 56 1 rfl) ?_
      refine JcI (z := 27) (show mx_Sn _ _ 70 (mx_const (.int 27) 72) from sn_213 70) rfl ?_
      refine mx_J.step (sn_213 72) (fun _ _ => rfl) ?_
      have eq16 : Z13 56 18 = Z 56 18 := ((up_nk hE13 rfl).trans ((up_nk hE11 rfl).trans (hf9 56 18 rfl)))
      obtain ⟨z15, Z15, h15, hc15, hx15, hG15, hf15, b15⟩ := ct_188_56 (d := d + 0) (l := l) (D := D) (b0 := b0) (ad := ad) (Hb := Hb) (tau := tau) hx13 hG13 
      try rw [eq16] at b15
      refine Jcv hx13 (show mx_Sn _ _ 73 (mx_callv 188 1 12 76) from sn_213 73) a56 s56 hc15 rfl rfl rfl ?_
      refine JiastI hx15 (show mx_Sn _ _ 76 (mx_iast 1 77) from sn_213 76) a57 s57 rfl (by omega) (fun Z17 h17 hx17 hE17 => ?_)
      have eq18 : Z15 56 18 = Z 56 18 := ((hf15 56 18 rfl).trans ((up_nk hE13 rfl).trans ((up_nk hE11 rfl).trans (hf9 56 18 rfl))))
      have hG17 := GI_up57 hG15 hE17 (show (-2147483648) ≤ z15 ∧ z15 ≤ 2147483647 by omega) (show f57 ((27) % 962) (z15) by first | assumption | (unfold f57; omega) | (unfold f57 at *; omega)) (by omega) (by omega)
      have eq19 : Z17 57 27 = z15 := (up_at hE17)
      have eq20 : hv Z17 (Z17 57 27) x0 = hv Z z15 x0 := by rw [(show Z17 57 27 = z15 from (up_at hE17))]; exact ((hv_c (fun i => up_nk hE17 rfl)).trans ((hv_c (fun i => hf15 61 i rfl)).trans ((hv_c (fun i => up_nk hE13 rfl)).trans ((hv_c (fun i => up_nk hE11 rfl)).trans (hv_c (fun i => hf9 61 i rfl))))))
      have eq21 : hv Z17 z15 x0 = hv Z z15 x0 := ((hv_c (fun i => up_nk hE17 rfl)).trans ((hv_c (fun i => hf15 61 i rfl)).trans ((hv_c (fun i => up_nk hE13 rfl)).trans ((hv_c (fun i => up_nk hE11 rfl)).trans (hv_c (fun i => hf9 61 i rfl))))))
      have eq22 : hv Z17 (Z17 57 27) x1 = hv Z z15 x1 := by rw [(show Z17 57 27 = z15 from (up_at hE17))]; exact ((hv_c (fun i => up_nk hE17 rfl)).trans ((hv_c (fun i => hf15 61 i rfl)).trans ((hv_c (fun i => up_nk hE13 rfl)).trans ((hv_c (fun i => up_nk hE11 rfl)).trans (hv_c (fun i => hf9 61 i rfl))))))
      have eq23 : hv Z17 z15 x1 = hv Z z15 x1 := ((hv_c (fun i => up_nk hE17 rfl)).trans ((hv_c (fun i => hf15 61 i rfl)).trans ((hv_c (fun i => up_nk hE13 rfl)).trans ((hv_c (fun i => up_nk hE11 rfl)).trans (hv_c (fun i => hf9 61 i rfl))))))
      exact mx_J.ret (sn_213 77) (fun _ _ => rfl) (hP Z17 h17 hx17 hG17 (fr_tr (M := [(57, (-1)), (62, (-1))]) (fr_tr (M := [(57, (-1)), (62, (-1))]) (fr_tr (M := [(57, (-1)), (62, (-1))]) (fr_tr (M := [(57, (-1)), (62, (-1))]) (fr_tr (M := [(57, (-1)), (62, (-1))]) fr_rf (hf9) (M1 := []) rfl rfl) (fr_ua hE11) rfl rfl) (fr_ua hE13) rfl rfl) (hf15) rfl rfl) (fr_ua hE17) rfl rfl))
    refine Jicmp_ne (show mx_Sn _ _ 15 (mx_icmp_ne 24 18) from sn_213 15) (by omega) (by omega) (fun q24 => ?_) (fun q24 => ?_)
    · skip
      refine mx_J.step (sn_213 24) (fun _ _ => rfl) ?_
      refine mx_J.step (sn_213 25) (fun _ _ => rfl) ?_
      refine JgetR (g := 1) (b := 57) hx (show mx_Sn _ _ 26 (mx_getf 12 1 29) from sn_213 26) a56 s56 rfl rfl (hG.prr 56 1 rfl) ?_
      refine JcI (z := 27) (show mx_Sn _ _ 29 (mx_const (.int 27) 31) from sn_213 29) rfl ?_
      refine JialdI (z := Z 57 27) hx (show mx_Sn _ _ 31 (mx_iald 32) from sn_213 31) a57 s57 (by omega) rfl ?_
      refine mx_J.step (sn_213 32) (fun _ _ => rfl) ?_
      obtain ⟨z26, hc26, b26⟩ := ct_192_56 (d := d + 0) (l := l) (D := D) (b0 := b0) (ad := ad) (Hb := Hb) (tau := tau) hx hG (show 0 ≤ Z 57 27 ∧ Z 57 27 ≤ 384 by omega) (show (-2147483648) ≤ x1 ∧ x1 ≤ 2147483647 by omega)
      refine Jcv hx (show mx_Sn _ _ 33 (mx_callv 192 3 12 36) from sn_213 33) a56 s56 hc26 rfl rfl rfl ?_
      exact c36 z26 (by omega) (by omega)
    · skip
      refine mx_J.step (sn_213 18) (fun _ _ => rfl) ?_
      refine JcI (z := 1) (show mx_Sn _ _ 19 (mx_const (.int 1) 20) from sn_213 19) rfl ?_
      refine Jiadd (show mx_Sn _ _ 20 (mx_iadd 21) from sn_213 20) ?_
      refine mx_J.step (sn_213 21) (fun _ _ => rfl) ?_
      exact c36 (z6 + 1) (by omega) (by omega)
theorem ct_213_56 {l : Launch} {D : va_G} {b0 : Nat} {ad : Nat → Nat} {Hb : Heap} {tau : Nat → Int64} {d n s : Nat} {S : Nat → xS} {Z : xZ} {h : mx_H} (hx : XH n s S Z h) (hG : GI n S Z)  {x0 x1 : Int} (p0 : 1 ≤ x0 ∧ x0 ≤ 18) (p1 : 1 ≤ x1 ∧ x1 ≤ 18) (k0 : hv Z (Z 57 27) x0 = 1) (k1 : hv Z (Z 57 27) x1 = 1) : ∃ (Z' : xZ) (h' : mx_H), mx_Ca (tB l D b0 ad Hb tau) (d + 3) 213 [.ref 56, xI x0, xI x1] h (none, h') ∧ XH n s S Z' h' ∧ GI n S Z' ∧ fr' [(57, (-1)), (62, (-1))] Z Z' := by
  obtain ⟨r, hca, Z', h', e, q⟩ := Jmt (B := tB l D b0 ad Hb tau) (M := mt_213) (mi := 213) (as := [.ref 56, xI x0, xI x1]) (d := d + 2) (ls := [some (.ref 56), some (xI x0), some (xI x1), none, none]) rfl rfl rfl rfl rfl rfl (cw_213_56 (l := l) (D := D) (b0 := b0) (ad := ad) (Hb := Hb) (tau := tau) (d := d) (Post := fun r => ∃ (Z' : xZ) (h' : mx_H), r = (none, h') ∧ XH n s S Z' h' ∧ GI n S Z' ∧ fr' [(57, (-1)), (62, (-1))] Z Z') hx hG p0 p1 k0 k1 (fun Z' h' q1 q2 q3 => ⟨Z', h', rfl, q1, q2, q3⟩))
  subst e; exact ⟨Z', h', hca, q⟩
set_option maxRecDepth 100000 in
theorem cw_214_56 {l : Launch} {D : va_G} {b0 : Nat} {ad : Nat → Nat} {Hb : Heap} {tau : Nat → Int64} {d n s : Nat} {S : Nat → xS} {Z : xZ} {h : mx_H} {Post : mx_R → Prop} (hx : XH n s S Z h) (hG : GI n S Z)  {x0 x1 : Int} (p0 : (-2147483648) ≤ x0 ∧ x0 ≤ 2147483647) (p1 : (-2147483648) ≤ x1 ∧ x1 ≤ 2147483647) (hP : ∀ (z : Int) (Z' : xZ) (h' : mx_H), XH n s S Z' h' → GI n S Z' → fr' [(56, 0), (57, (-1)), (62, (-1)), (66, (-1))] Z Z' → (-12) ≤ z ∧ z ≤ 18 → Post (some (xI z), h')) : mx_J (tB l D b0 ad Hb tau) mt_214 (d + 3) 0 [some (.ref 56), some (xI x0), some (xI x1), none] [] h Post := by
    have a56 : 56 < n := lt83 (GI_n hG) rfl
    have s56 : S 56 = .inl (12, [0, 2, 2, 2, 2, 0, 0, 0, 0, 0, 0, 0, 0, 0, 0, 2, 2, 2, 0, 2, 2, 2, 0, 0, 2, 2, 2, 2, 2, 2, 0, 0, 2, 2, 2, 2, 2, 2, 2, 2, 2, 2]) := GI_s hG 56 rfl
    have a57 : 57 < n := lt83 (GI_n hG) rfl
    have s57 : S 57 = .inr (.int, 2886, 0) := GI_s hG 57 rfl
    refine mx_J.step (sn_214 0) (fun _ _ => rfl) ?_
    refine JcI (z := 0) (show mx_Sn _ _ 1 (mx_const (.int 0) 2) from sn_214 1) rfl ?_
    refine JputI (g := 0) hx (show mx_Sn _ _ 2 (mx_putf 1 12 0 (.int) 5) from sn_214 2) a56 s56 rfl rfl rfl rfl (fun Z1 h1 hx1 hE1 => ?_)
    have hG1 := GI_up hG hE1 (show (-2147483648) ≤ 0 ∧ 0 ≤ 2147483647 by omega) trivial rfl
    refine mx_J.step (sn_214 5) (fun _ _ => rfl) ?_
    refine mx_J.step (sn_214 6) (fun _ _ => rfl) ?_
    refine mx_J.step (sn_214 7) (fun _ _ => rfl) ?_
    have eq3 : Z1 57 27 = Z 57 27 := (up_nk hE1 rfl)
    have b4 := GI_st hG 27
    have b5 : 0 ≤ Z 56 18 ∧ Z 56 18 ≤ 385 := hG.pr 56 18
    have b6 : 0 ≤ Z 57 27 ∧ Z 57 27 ≤ 384 := by have hq := GI_ex hG 57 27; replace hq : f57 (27 % 962) (Z 57 27) := hq; unfold f57 at hq; omega
    have b7 : (-2147483648) ≤ Z 57 27 ∧ Z 57 27 ≤ 2147483647 := hG.pr 57 27
    have eq8 : hv Z1 (Z1 57 27) x0 = hv Z (Z 57 27) x0 := by rw [(show Z1 57 27 = Z 57 27 from (up_nk hE1 rfl))]; exact (hv_c (fun i => up_nk hE1 rfl))
    have eq9 : hv Z1 (Z 57 27) x0 = hv Z (Z 57 27) x0 := (hv_c (fun i => up_nk hE1 rfl))
    have eq10 : hv Z1 (Z1 57 27) x1 = hv Z (Z 57 27) x1 := by rw [(show Z1 57 27 = Z 57 27 from (up_nk hE1 rfl))]; exact (hv_c (fun i => up_nk hE1 rfl))
    have eq11 : hv Z1 (Z 57 27) x1 = hv Z (Z 57 27) x1 := (hv_c (fun i => up_nk hE1 rfl))
    obtain ⟨z2, hc2, b2⟩ := ct_212_56 (d := d + 0) (l := l) (D := D) (b0 := b0) (ad := ad) (Hb := Hb) (tau := tau) hx1 hG1 (show (-2147483648) ≤ x0 ∧ x0 ≤ 2147483647 by omega) (show (-2147483648) ≤ x1 ∧ x1 ≤ 2147483647 by omega)
    try rw [eq3] at b2
    refine Jcv hx1 (show mx_Sn _ _ 8 (mx_callv 212 3 12 11) from sn_214 8) a56 s56 hc2 rfl rfl rfl ?_
    refine mx_J.step (ls2 := [some (.ref 56), some (xI x0), some (xI x1), some (xI z2)]) (sn_214 11) (fun _ _ => rfl) ?_
    refine mx_J.step (sn_214 12) (fun _ _ => rfl) ?_
    refine Jif_eq (show mx_Sn _ _ 13 (mx_if_eq 21 16) from sn_214 13) (by omega) (fun q12 => ?_) (fun q12 => ?_)
    · skip
      refine mx_J.step (sn_214 21) (fun _ _ => rfl) ?_
      have eq14 : Z1 57 27 = Z 57 27 := (up_nk hE1 rfl)
      obtain ⟨Z13, h13, hc13, hx13, hG13, hf13, b13⟩ := ct_202_56 (d := d + 2) (l := l) (D := D) (b0 := b0) (ad := ad) (Hb := Hb) (tau := tau) hx1 hG1 
      try rw [eq14] at b13
      have b15 : (-2147483648) ≤ Z13 66 0 ∧ Z13 66 0 ≤ 2147483647 := hG13.pr 66 0
      have b16 : (((0 : Int) = 0 → 0 ≤ (Z13 66 0) ∧ (Z13 66 0) ≤ 384) ∧ ((0 : Int) = 1 → 0 ≤ (Z13 66 0) ∧ (Z13 66 0) ≤ 9)) := GI_ex hG13 66 0
      refine Jcv0 hx1 (show mx_Sn _ _ 22 (mx_callv 202 1 12 25) from sn_214 22) a56 s56 hc13 rfl rfl rfl ?_
      refine mx_J.step (sn_214 25) (fun _ _ => rfl) ?_
      refine mx_J.step (sn_214 26) (fun _ _ => rfl) ?_
      refine mx_J.step (sn_214 27) (fun _ _ => rfl) ?_
      have eq18 : Z13 57 27 = Z 57 27 := ((hf13 57 27 rfl).trans (up_nk hE1 rfl))
      have eq19 : hv Z13 (Z13 57 27) x0 = hv Z (Z 57 27) x0 := by rw [(show Z13 57 27 = Z 57 27 from ((hf13 57 27 rfl).trans (up_nk hE1 rfl)))]; exact ((hv_c (fun i => hf13 61 i rfl)).trans (hv_c (fun i => up_nk hE1 rfl)))
      have eq20 : hv Z13 (Z 57 27) x0 = hv Z (Z 57 27) x0 := ((hv_c (fun i => hf13 61 i rfl)).trans (hv_c (fun i => up_nk hE1 rfl)))
      have eq21 : hv Z13 (Z13 57 27) x1 = hv Z (Z 57 27) x1 := by rw [(show Z13 57 27 = Z 57 27 from ((hf13 57 27 rfl).trans (up_nk hE1 rfl)))]; exact ((hv_c (fun i => hf13 61 i rfl)).trans (hv_c (fun i => up_nk hE1 rfl)))
      have eq22 : hv Z13 (Z 57 27) x1 = hv Z (Z 57 27) x1 := ((hv_c (fun i => hf13 61 i rfl)).trans (hv_c (fun i => up_nk hE1 rfl)))
      obtain ⟨Z17, h17, hc17, hx17, hG17, hf17⟩ := ct_213_56 (d := d + 0) (l := l) (D := D) (b0 := b0) (ad := ad) (Hb := Hb) (tau := tau) hx13 hG13 (show 1 ≤ x0 ∧ x0 ≤ 18 by omega) (show 1 ≤ x1 ∧ x1 ≤ 18 by omega) (show hv Z13 (Z13 57 27) x0 = 1 by first | omega | (simp only [eq18]; omega)) (show hv Z13 (Z13 57 27) x1 = 1 by first | omega | (simp only [eq18]; omega))
      refine Jcv0 hx13 (show mx_Sn _ _ 28 (mx_callv 213 3 12 31) from sn_214 28) a56 s56 hc17 rfl rfl rfl ?_
      refine mx_J.step (sn_214 31) (fun _ _ => rfl) ?_
      have eq24 : Z17 66 0 = Z13 66 0 := (hf17 66 0 rfl)
      have eq25 : Z17 56 18 = Z 56 18 := ((hf17 56 18 rfl).trans ((hf13 56 18 rfl).trans (up_ni hE1 (by decide))))
      obtain ⟨Z23, h23, hc23, hx23, hG23, hf23⟩ := ct_204_56 (d := d + 2) (l := l) (D := D) (b0 := b0) (ad := ad) (Hb := Hb) (tau := tau) hx17 hG17  (show Z17 66 0 < Z17 56 18 by first | omega | (simp only [eq24, eq25]; omega))
      refine Jcv0 hx17 (show mx_Sn _ _ 32 (mx_callv 204 1 12 35) from sn_214 32) a56 s56 hc23 rfl rfl rfl ?_
      refine mx_J.step (sn_214 35) (fun _ _ => rfl) ?_
      refine mx_J.step (sn_214 36) (fun _ _ => rfl) ?_
      refine JgetR (g := 1) (b := 57) hx23 (show mx_Sn _ _ 37 (mx_getf 12 1 40) from sn_214 37) a56 s56 rfl rfl (hG23.prr 56 1 rfl) ?_
      refine JcI (z := 27) (show mx_Sn _ _ 40 (mx_const (.int 27) 42) from sn_214 40) rfl ?_
      have b27 := GI_st hG23 27
      have eq28 : Z23 56 18 = Z 56 18 := ((hf23 56 18 rfl).trans ((hf17 56 18 rfl).trans ((hf13 56 18 rfl).trans (up_ni hE1 (by decide)))))
      have b29 : 0 ≤ Z23 57 27 ∧ Z23 57 27 ≤ 384 := by have hq := GI_ex hG23 57 27; replace hq : f57 (27 % 962) (Z23 57 27) := hq; unfold f57 at hq; omega
      have b30 : (-2147483648) ≤ Z23 57 27 ∧ Z23 57 27 ≤ 2147483647 := hG23.pr 57 27
      refine JialdI (z := Z23 57 27) hx23 (show mx_Sn _ _ 42 (mx_iald 43) from sn_214 42) a57 s57 (by omega) rfl ?_
      have eq32 : mn Z23 (Z23 57 27) = mn Z (Z23 57 27) := ((mn_c (fun i => hf23 61 i rfl)).trans ((mn_c (fun i => hf17 61 i rfl)).trans ((mn_c (fun i => hf13 61 i rfl)).trans (mn_c (fun i => up_nk hE1 rfl)))))
      obtain ⟨z31, hc31, b31⟩ := ct_191_56 (d := d + 1) (l := l) (D := D) (b0 := b0) (ad := ad) (Hb := Hb) (tau := tau) hx23 hG23 (show 0 ≤ Z23 57 27 ∧ Z23 57 27 ≤ 384 by omega)
      refine Jcv hx23 (show mx_Sn _ _ 43 (mx_callv 191 2 12 46) from sn_214 43) a56 s56 hc31 rfl rfl rfl ?_
      exact mx_J.ret (sn_214 46) (fun _ _ => rfl) (hP z31 Z23 h23 hx23 hG23 (fr_tr (M := [(56, 0), (57, (-1)), (62, (-1)), (66, (-1))]) (fr_tr (M := [(56, 0), (57, (-1)), (62, (-1)), (66, (-1))]) (fr_tr (M := [(56, 0), (57, (-1)), (62, (-1)), (66, (-1))]) (fr_tr (M := [(56, 0), (57, (-1)), (62, (-1)), (66, (-1))]) fr_rf (fr_up hE1) (M1 := []) rfl rfl) (hf13) rfl rfl) (hf17) rfl rfl) (hf23) rfl rfl) (by omega))
    · skip
      refine JcI (z := (-10)) (show mx_Sn _ _ 16 (mx_const (.int (-10)) 18) from sn_214 16) rfl ?_
      refine mx_J.step (sn_214 18) (fun _ _ => rfl) ?_
      refine Jisub (show mx_Sn _ _ 19 (mx_isub 20) from sn_214 19) ?_
      exact mx_J.ret (sn_214 20) (fun _ _ => rfl) (hP ((-10) - z2) Z1 h1 hx1 hG1 (fr_tr (M := [(56, 0), (57, (-1)), (62, (-1)), (66, (-1))]) fr_rf (fr_up hE1) (M1 := []) rfl rfl) (by omega))
theorem ct_214_56 {l : Launch} {D : va_G} {b0 : Nat} {ad : Nat → Nat} {Hb : Heap} {tau : Nat → Int64} {d n s : Nat} {S : Nat → xS} {Z : xZ} {h : mx_H} (hx : XH n s S Z h) (hG : GI n S Z)  {x0 x1 : Int} (p0 : (-2147483648) ≤ x0 ∧ x0 ≤ 2147483647) (p1 : (-2147483648) ≤ x1 ∧ x1 ≤ 2147483647) : ∃ (z : Int) (Z' : xZ) (h' : mx_H), mx_Ca (tB l D b0 ad Hb tau) (d + 4) 214 [.ref 56, xI x0, xI x1] h (some (xI z), h') ∧ XH n s S Z' h' ∧ GI n S Z' ∧ fr' [(56, 0), (57, (-1)), (62, (-1)), (66, (-1))] Z Z' ∧ ((-12) ≤ z ∧ z ≤ 18) := by
  obtain ⟨r, hca, z, Z', h', e, q⟩ := Jmt (B := tB l D b0 ad Hb tau) (M := mt_214) (mi := 214) (as := [.ref 56, xI x0, xI x1]) (d := d + 3) (ls := [some (.ref 56), some (xI x0), some (xI x1), none]) rfl rfl rfl rfl rfl rfl (cw_214_56 (l := l) (D := D) (b0 := b0) (ad := ad) (Hb := Hb) (tau := tau) (d := d) (Post := fun r => ∃ (z : Int) (Z' : xZ) (h' : mx_H), r = (some (xI z), h') ∧ XH n s S Z' h' ∧ GI n S Z' ∧ fr' [(56, 0), (57, (-1)), (62, (-1)), (66, (-1))] Z Z' ∧ ((-12) ≤ z ∧ z ≤ 18)) hx hG p0 p1 (fun z Z' h' q1 q2 q3 q4 => ⟨z, Z', h', rfl, q1, q2, q3, q4⟩))
  subst e; exact ⟨z, Z', h', hca, q⟩
set_option maxRecDepth 100000 in
theorem cw_215_56 {l : Launch} {D : va_G} {b0 : Nat} {ad : Nat → Nat} {Hb : Heap} {tau : Nat → Int64} {d n s : Nat} {S : Nat → xS} {Z : xZ} {h : mx_H} {Post : mx_R → Prop} (hx : XH n s S Z h) (hG : GI n S Z)  {x0 : Int} (p0 : (-2147483648) ≤ x0 ∧ x0 ≤ 2147483647) (hP : ∀ (z : Int) (Z' : xZ) (h' : mx_H), XH n s S Z' h' → GI n S Z' → fr' [(56, 0), (57, (-1)), (66, (-1))] Z Z' → (-2147483648) ≤ z ∧ z ≤ 2147483647 → Post (some (xI z), h')) : mx_J (tB l D b0 ad Hb tau) mt_215 (d + 1) 0 [some (.ref 56), some (xI x0)] [] h Post := by
    have a56 : 56 < n := lt83 (GI_n hG) rfl
    have s56 : S 56 = .inl (12, [0, 2, 2, 2, 2, 0, 0, 0, 0, 0, 0, 0, 0, 0, 0, 2, 2, 2, 0, 2, 2, 2, 0, 0, 2, 2, 2, 2, 2, 2, 0, 0, 2, 2, 2, 2, 2, 2, 2, 2, 2, 2]) := GI_s hG 56 rfl
    have a57 : 57 < n := lt83 (GI_n hG) rfl
    have s57 : S 57 = .inr (.int, 2886, 0) := GI_s hG 57 rfl
    have a66 : 66 < n := lt83 (GI_n hG) rfl
    have s66 : S 66 = .inr (.int, 3, 0) := GI_s hG 66 rfl
    refine mx_J.step (sn_215 0) (fun _ _ => rfl) ?_
    refine JcI (z := 0) (show mx_Sn _ _ 1 (mx_const (.int 0) 2) from sn_215 1) rfl ?_
    refine JputI (g := 0) hx (show mx_Sn _ _ 2 (mx_putf 1 12 0 (.int) 5) from sn_215 2) a56 s56 rfl rfl rfl rfl (fun Z1 h1 hx1 hE1 => ?_)
    have hG1 := GI_up hG hE1 (show (-2147483648) ≤ 0 ∧ 0 ≤ 2147483647 by omega) trivial rfl
    refine mx_J.step (sn_215 5) (fun _ _ => rfl) ?_
    refine Ji2l (show mx_Sn _ _ 6 (mx_i2l 7) from sn_215 6) (by omega) ?_
    refine JcL (z := 0) (show mx_Sn _ _ 7 (mx_const (.long 0) 8) from sn_215 7) rfl ?_
    refine JcL (z := 9) (show mx_Sn _ _ 8 (mx_const (.long 9) 11) from sn_215 8) rfl ?_
    obtain ⟨z2, hc2, b2⟩ := ct_154_ (d := d + 0) (l := l) (D := D) (b0 := b0) (ad := ad) (Hb := Hb) (tau := tau) hx1 hG1 (show (-9223372036854775808) ≤ x0 ∧ x0 ≤ 9223372036854775807 by omega) (show (-9223372036854775808) ≤ 0 ∧ 0 ≤ 9223372036854775807 by omega) (show (-9223372036854775808) ≤ 9 ∧ 9 ≤ 9223372036854775807 by omega)
    refine Jcs (show mx_Sn _ _ 11 (mx_calls 154 3 14) from sn_215 11) hc2 rfl rfl rfl ?_
    refine Jif_ne (show mx_Sn _ _ 14 (mx_if_ne 20 17) from sn_215 14) (by omega) (fun q3 => ?_) (fun q3 => ?_)
    · skip
      refine mx_J.step (sn_215 20) (fun _ _ => rfl) ?_
      have eq5 : Z1 57 27 = Z 57 27 := (up_nk hE1 rfl)
      have b6 := GI_st hG 27
      have b7 : 0 ≤ Z 56 18 ∧ Z 56 18 ≤ 385 := hG.pr 56 18
      have b8 : 0 ≤ Z 57 27 ∧ Z 57 27 ≤ 384 := by have hq := GI_ex hG 57 27; replace hq : f57 (27 % 962) (Z 57 27) := hq; unfold f57 at hq; omega
      have b9 : (-2147483648) ≤ Z 57 27 ∧ Z 57 27 ≤ 2147483647 := hG.pr 57 27
      obtain ⟨Z4, h4, hc4, hx4, hG4, hf4, b4⟩ := ct_202_56 (d := d + 0) (l := l) (D := D) (b0 := b0) (ad := ad) (Hb := Hb) (tau := tau) hx1 hG1 
      try rw [eq5] at b4
      have b10 : (-2147483648) ≤ Z4 66 0 ∧ Z4 66 0 ≤ 2147483647 := hG4.pr 66 0
      have b11 : (((0 : Int) = 0 → 0 ≤ (Z4 66 0) ∧ (Z4 66 0) ≤ 384) ∧ ((0 : Int) = 1 → 0 ≤ (Z4 66 0) ∧ (Z4 66 0) ≤ 9)) := GI_ex hG4 66 0
      refine Jcv0 hx1 (show mx_Sn _ _ 21 (mx_callv 202 1 12 24) from sn_215 21) a56 s56 hc4 rfl rfl rfl ?_
      refine mx_J.step (sn_215 24) (fun _ _ => rfl) ?_
      refine JgetR (g := 1) (b := 57) hx4 (show mx_Sn _ _ 25 (mx_getf 12 1 28) from sn_215 25) a56 s56 rfl rfl (hG4.prr 56 1 rfl) ?_
      refine JcI (z := 28) (show mx_Sn _ _ 28 (mx_const (.int 28) 30) from sn_215 28) rfl ?_
      refine mx_J.step (sn_215 30) (fun _ _ => rfl) ?_
      refine JiastI hx4 (show mx_Sn _ _ 31 (mx_iast 1 32) from sn_215 31) a57 s57 rfl (by omega) (fun Z13 h13 hx13 hE13 => ?_)
      have eq14 : Z4 56 18 = Z 56 18 := ((hf4 56 18 rfl).trans (up_ni hE1 (by decide)))
      have hG13 := GI_up57 hG4 hE13 (show (-2147483648) ≤ x0 ∧ x0 ≤ 2147483647 by omega) (show f57 ((28) % 962) (x0) by first | assumption | (unfold f57; omega) | (unfold f57 at *; omega)) (by omega) (by omega)
      refine mx_J.step (sn_215 32) (fun _ _ => rfl) ?_
      have eq16 : Z13 66 0 = Z4 66 0 := (up_nk hE13 rfl)
      have eq17 : Z13 56 18 = Z 56 18 := ((up_nk hE13 rfl).trans ((hf4 56 18 rfl).trans (up_ni hE1 (by decide))))
      obtain ⟨Z15, h15, hc15, hx15, hG15, hf15⟩ := ct_204_56 (d := d + 0) (l := l) (D := D) (b0 := b0) (ad := ad) (Hb := Hb) (tau := tau) hx13 hG13  (show Z13 66 0 < Z13 56 18 by first | omega | (simp only [eq16, eq17]; omega))
      refine Jcv0 hx13 (show mx_Sn _ _ 33 (mx_callv 204 1 12 36) from sn_215 33) a56 s56 hc15 rfl rfl rfl ?_
      refine mx_J.step (sn_215 36) (fun _ _ => rfl) ?_
      refine JgetR (g := 21) (b := 66) hx15 (show mx_Sn _ _ 37 (mx_getf 12 21 40) from sn_215 37) a56 s56 rfl rfl (hG15.prr 56 21 rfl) ?_
      refine JcI (z := 1) (show mx_Sn _ _ 40 (mx_const (.int 1) 41) from sn_215 40) rfl ?_
      have b19 : (-2147483648) ≤ Z4 66 1 ∧ Z4 66 1 ≤ 2147483647 := hG4.pr 66 1
      have b20 : (((1 : Int) = 0 → 0 ≤ (Z4 66 1) ∧ (Z4 66 1) ≤ 384) ∧ ((1 : Int) = 1 → 0 ≤ (Z4 66 1) ∧ (Z4 66 1) ≤ 9)) := GI_ex hG4 66 1
      refine JialdI (z := Z4 66 1) hx15 (show mx_Sn _ _ 41 (mx_iald 42) from sn_215 41) a66 s66 (by omega) ((hf15 66 1 rfl).trans (up_nk hE13 rfl)) ?_
      exact mx_J.ret (sn_215 42) (fun _ _ => rfl) (hP (Z4 66 1) Z15 h15 hx15 hG15 (fr_tr (M := [(56, 0), (57, (-1)), (66, (-1))]) (fr_tr (M := [(56, 0), (57, (-1)), (66, (-1))]) (fr_tr (M := [(56, 0), (57, (-1)), (66, (-1))]) (fr_tr (M := [(56, 0), (57, (-1)), (66, (-1))]) fr_rf (fr_up hE1) (M1 := []) rfl rfl) (hf4) rfl rfl) (fr_ua hE13) rfl rfl) (hf15) rfl rfl) (by omega))
    · skip
      refine JcI (z := (-11)) (show mx_Sn _ _ 17 (mx_const (.int (-11)) 19) from sn_215 17) rfl ?_
      exact mx_J.ret (sn_215 19) (fun _ _ => rfl) (hP (-11) Z1 h1 hx1 hG1 (fr_tr (M := [(56, 0), (57, (-1)), (66, (-1))]) fr_rf (fr_up hE1) (M1 := []) rfl rfl) (by omega))
theorem ct_215_56 {l : Launch} {D : va_G} {b0 : Nat} {ad : Nat → Nat} {Hb : Heap} {tau : Nat → Int64} {d n s : Nat} {S : Nat → xS} {Z : xZ} {h : mx_H} (hx : XH n s S Z h) (hG : GI n S Z)  {x0 : Int} (p0 : (-2147483648) ≤ x0 ∧ x0 ≤ 2147483647) : ∃ (z : Int) (Z' : xZ) (h' : mx_H), mx_Ca (tB l D b0 ad Hb tau) (d + 2) 215 [.ref 56, xI x0] h (some (xI z), h') ∧ XH n s S Z' h' ∧ GI n S Z' ∧ fr' [(56, 0), (57, (-1)), (66, (-1))] Z Z' ∧ ((-2147483648) ≤ z ∧ z ≤ 2147483647) := by
  obtain ⟨r, hca, z, Z', h', e, q⟩ := Jmt (B := tB l D b0 ad Hb tau) (M := mt_215) (mi := 215) (as := [.ref 56, xI x0]) (d := d + 1) (ls := [some (.ref 56), some (xI x0)]) rfl rfl rfl rfl rfl rfl (cw_215_56 (l := l) (D := D) (b0 := b0) (ad := ad) (Hb := Hb) (tau := tau) (d := d) (Post := fun r => ∃ (z : Int) (Z' : xZ) (h' : mx_H), r = (some (xI z), h') ∧ XH n s S Z' h' ∧ GI n S Z' ∧ fr' [(56, 0), (57, (-1)), (66, (-1))] Z Z' ∧ ((-2147483648) ≤ z ∧ z ≤ 2147483647)) hx hG p0 (fun z Z' h' q1 q2 q3 q4 => ⟨z, Z', h', rfl, q1, q2, q3, q4⟩))
  subst e; exact ⟨z, Z', h', hca, q⟩
set_option maxRecDepth 100000 in
theorem cw_216_56 {l : Launch} {D : va_G} {b0 : Nat} {ad : Nat → Nat} {Hb : Heap} {tau : Nat → Int64} {d n s : Nat} {S : Nat → xS} {Z : xZ} {h : mx_H} {Post : mx_R → Prop} (hx : XH n s S Z h) (hG : GI n S Z)  {x0 : Int} (p0 : (-2147483648) ≤ x0 ∧ x0 ≤ 2147483647) (hP : ∀ (z : Int) (Z' : xZ) (h' : mx_H), XH n s S Z' h' → GI n S Z' → fr' [(56, 0), (57, (-1))] Z Z' → (-3) ≤ z ∧ z ≤ 10 → Post (some (xI z), h')) : mx_J (tB l D b0 ad Hb tau) mt_216 (d + 1) 0 [some (.ref 56), some (xI x0), none] [] h Post := by
    have a56 : 56 < n := lt83 (GI_n hG) rfl
    have s56 : S 56 = .inl (12, [0, 2, 2, 2, 2, 0, 0, 0, 0, 0, 0, 0, 0, 0, 0, 2, 2, 2, 0, 2, 2, 2, 0, 0, 2, 2, 2, 2, 2, 2, 0, 0, 2, 2, 2, 2, 2, 2, 2, 2, 2, 2]) := GI_s hG 56 rfl
    have a57 : 57 < n := lt83 (GI_n hG) rfl
    have s57 : S 57 = .inr (.int, 2886, 0) := GI_s hG 57 rfl
    refine mx_J.step (sn_216 0) (fun _ _ => rfl) ?_
    refine JcI (z := 0) (show mx_Sn _ _ 1 (mx_const (.int 0) 2) from sn_216 1) rfl ?_
    refine JputI (g := 0) hx (show mx_Sn _ _ 2 (mx_putf 1 12 0 (.int) 5) from sn_216 2) a56 s56 rfl rfl rfl rfl (fun Z1 h1 hx1 hE1 => ?_)
    have hG1 := GI_up hG hE1 (show (-2147483648) ≤ 0 ∧ 0 ≤ 2147483647 by omega) trivial rfl
    refine mx_J.step (sn_216 5) (fun _ _ => rfl) ?_
    refine Ji2l (show mx_Sn _ _ 6 (mx_i2l 7) from sn_216 6) (by omega) ?_
    refine JcL (z := 1) (show mx_Sn _ _ 7 (mx_const (.long 1) 8) from sn_216 7) rfl ?_
    refine JcL (z := 10) (show mx_Sn _ _ 8 (mx_const (.long 10) 11) from sn_216 8) rfl ?_
    obtain ⟨z2, hc2, b2⟩ := ct_154_ (d := d + 0) (l := l) (D := D) (b0 := b0) (ad := ad) (Hb := Hb) (tau := tau) hx1 hG1 (show (-9223372036854775808) ≤ x0 ∧ x0 ≤ 9223372036854775807 by omega) (show (-9223372036854775808) ≤ 1 ∧ 1 ≤ 9223372036854775807 by omega) (show (-9223372036854775808) ≤ 10 ∧ 10 ≤ 9223372036854775807 by omega)
    refine Jcs (show mx_Sn _ _ 11 (mx_calls 154 3 14) from sn_216 11) hc2 rfl rfl rfl ?_
    have c28 : mx_J (tB l D b0 ad Hb tau) mt_216 (d + 1) 28 [some (.ref 56), some (xI x0), none] [] h1 Post := by
      refine JcI (z := (-3)) (show mx_Sn _ _ 28 (mx_const (.int (-3)) 30) from sn_216 28) rfl ?_
      exact mx_J.ret (sn_216 30) (fun _ _ => rfl) (hP (-3) Z1 h1 hx1 hG1 (fr_tr (M := [(56, 0), (57, (-1))]) fr_rf (fr_up hE1) (M1 := []) rfl rfl) (by omega))
    refine Jif_eq (show mx_Sn _ _ 14 (mx_if_eq 28 17) from sn_216 14) (by omega) (fun q4 => ?_) (fun q4 => ?_)
    · skip
      exact c28 
    · skip
      refine mx_J.step (sn_216 17) (fun _ _ => rfl) ?_
      refine mx_J.step (sn_216 18) (fun _ _ => rfl) ?_
      refine JgetR (g := 1) (b := 57) hx1 (show mx_Sn _ _ 19 (mx_getf 12 1 22) from sn_216 19) a56 s56 rfl rfl (hG1.prr 56 1 rfl) ?_
      refine JcI (z := 30) (show mx_Sn _ _ 22 (mx_const (.int 30) 24) from sn_216 22) rfl ?_
      have b6 : 0 ≤ Z 57 30 ∧ Z 57 30 ≤ 10 := by have hq := GI_ex hG 57 30; replace hq : f57 (30 % 962) (Z 57 30) := hq; unfold f57 at hq; omega
      have b7 : (-2147483648) ≤ Z 57 30 ∧ Z 57 30 ≤ 2147483647 := hG.pr 57 30
      refine JialdI (z := Z 57 30) hx1 (show mx_Sn _ _ 24 (mx_iald 25) from sn_216 24) a57 s57 (by omega) (up_nk hE1 rfl) ?_
      refine Jicmp_le (show mx_Sn _ _ 25 (mx_icmp_le 31 28) from sn_216 25) (by omega) (by omega) (fun q8 => ?_) (fun q8 => ?_)
      · skip
        refine mx_J.step (sn_216 31) (fun _ _ => rfl) ?_
        refine JgetR (g := 1) (b := 57) hx1 (show mx_Sn _ _ 32 (mx_getf 12 1 35) from sn_216 32) a56 s56 rfl rfl (hG1.prr 56 1 rfl) ?_
        refine JcI (z := 30) (show mx_Sn _ _ 35 (mx_const (.int 30) 37) from sn_216 35) rfl ?_
        refine mx_J.step (sn_216 37) (fun _ _ => rfl) ?_
        refine JialdI (z := Z 57 30) hx1 (show mx_Sn _ _ 38 (mx_iald 39) from sn_216 38) a57 s57 (by omega) (up_nk hE1 rfl) ?_
        refine mx_J.step (sn_216 39) (fun _ _ => rfl) ?_
        refine Jisub (show mx_Sn _ _ 40 (mx_isub 41) from sn_216 40) ?_
        refine JiastI hx1 (show mx_Sn _ _ 41 (mx_iast 1 42) from sn_216 41) a57 s57 rfl (by omega) (fun Z10 h10 hx10 hE10 => ?_)
        have eq11 : Z1 56 18 = Z 56 18 := (up_ni hE1 (by decide))
        have b12 : 0 ≤ Z 56 18 ∧ Z 56 18 ≤ 385 := hG.pr 56 18
        have hG10 := GI_up57 hG1 hE10 (show (-2147483648) ≤ (Z 57 30) - x0 ∧ (Z 57 30) - x0 ≤ 2147483647 by omega) (show f57 ((30) % 962) ((Z 57 30) - x0) by first | assumption | (unfold f57; omega) | (unfold f57 at *; omega)) (by omega) (by omega)
        refine JcI (z := 0) (show mx_Sn _ _ 42 (mx_const (.int 0) 43) from sn_216 42) rfl ?_
        refine mx_J.step (ls2 := [some (.ref 56), some (xI x0), some (xI 0)]) (sn_216 43) (fun _ _ => rfl) ?_
        refine mx_J.step (sn_216 44) (fun _ _ => rfl) ?_
        refine JcI (z := 3) (show mx_Sn _ _ 45 (mx_const (.int 3) 46) from sn_216 45) rfl ?_
        refine Jicmp_ge (show mx_Sn _ _ 46 (mx_icmp_ge 83 49) from sn_216 46) (by omega) (by omega) (fun q13 => absurd q13 (by omega)) (fun q13 => ?_)
        refine mx_J.step (sn_216 49) (fun _ _ => rfl) ?_
        refine JgetR (g := 1) (b := 57) hx10 (show mx_Sn _ _ 50 (mx_getf 12 1 53) from sn_216 50) a56 s56 rfl rfl (hG10.prr 56 1 rfl) ?_
        refine JcI (z := 27) (show mx_Sn _ _ 53 (mx_const (.int 27) 55) from sn_216 53) rfl ?_
        refine mx_J.step (sn_216 55) (fun _ _ => rfl) ?_
        refine JiaddE (r := 27) (show mx_Sn _ _ 56 (mx_iadd 57) from sn_216 56) (by decide) ?_
        refine mx_J.step (sn_216 57) (fun _ _ => rfl) ?_
        refine JgetR (g := 1) (b := 57) hx10 (show mx_Sn _ _ 58 (mx_getf 12 1 61) from sn_216 58) a56 s56 rfl rfl (hG10.prr 56 1 rfl) ?_
        refine JcI (z := 31) (show mx_Sn _ _ 61 (mx_const (.int 31) 63) from sn_216 61) rfl ?_
        refine JcI (z := 3) (show mx_Sn _ _ 63 (mx_const (.int 3) 64) from sn_216 63) rfl ?_
        refine mx_J.step (sn_216 64) (fun _ _ => rfl) ?_
        refine JgetR (g := 1) (b := 57) hx10 (show mx_Sn _ _ 65 (mx_getf 12 1 68) from sn_216 65) a56 s56 rfl rfl (hG10.prr 56 1 rfl) ?_
        refine JcI (z := 30) (show mx_Sn _ _ 68 (mx_const (.int 30) 70) from sn_216 68) rfl ?_
        refine JialdI (z := (Z 57 30) - x0) hx10 (show mx_Sn _ _ 70 (mx_iald 71) from sn_216 70) a57 s57 (by omega) (up_at hE10) ?_
        refine Jimul (show mx_Sn _ _ 71 (mx_imul 72) from sn_216 71) ?_
        refine Jiadd (show mx_Sn _ _ 72 (mx_iadd 73) from sn_216 72) ?_
        refine mx_J.step (sn_216 73) (fun _ _ => rfl) ?_
        refine Jiadd (show mx_Sn _ _ 74 (mx_iadd 75) from sn_216 74) ?_
        have b17 := GI_st hG10 ((31 + (3 * ((Z 57 30) - x0))) + 0)
        have eq18 : Z10 56 18 = Z 56 18 := ((up_nk hE10 rfl).trans (up_ni hE1 (by decide)))
        have b19 : f57 (((31 + (3 * ((Z 57 30) - x0))) + 0) % 962) (Z10 57 ((31 + (3 * ((Z 57 30) - x0))) + 0)) := GI_ex hG10 57 ((31 + (3 * ((Z 57 30) - x0))) + 0)
        have b20 : (-2147483648) ≤ Z10 57 ((31 + (3 * ((Z 57 30) - x0))) + 0) ∧ Z10 57 ((31 + (3 * ((Z 57 30) - x0))) + 0) ≤ 2147483647 := hG10.pr 57 ((31 + (3 * ((Z 57 30) - x0))) + 0)
        refine JialdI (z := Z10 57 ((31 + (3 * ((Z 57 30) - x0))) + 0)) hx10 (show mx_Sn _ _ 75 (mx_iald 76) from sn_216 75) a57 s57 (by omega) rfl ?_
        refine JiastI hx10 (show mx_Sn _ _ 76 (mx_iast 1 77) from sn_216 76) a57 s57 rfl (by omega) (fun Z21 h21 hx21 hE21 => ?_)
        have eq22 : Z10 56 18 = Z 56 18 := ((up_nk hE10 rfl).trans (up_ni hE1 (by decide)))
        have hG21 := GI_up57 hG10 hE21 (show (-2147483648) ≤ Z10 57 ((31 + (3 * ((Z 57 30) - x0))) + 0) ∧ Z10 57 ((31 + (3 * ((Z 57 30) - x0))) + 0) ≤ 2147483647 by omega) (show f57 ((27) % 962) (Z10 57 ((31 + (3 * ((Z 57 30) - x0))) + 0)) by first | exact f57_m0 (by assumption) (by omega) (by omega) | exact f57_m1 (by assumption) (by omega) (by omega) | exact f57_m2 | (have hq := GI_ex hG10 57 ((31 + (3 * ((Z 57 30) - x0))) + 0); replace hq : f57 (((31 + (3 * ((Z 57 30) - x0))) + 0) % 962) (Z10 57 ((31 + (3 * ((Z 57 30) - x0))) + 0)) := hq; rw [Int.emod_eq_of_lt (a := ((31 + (3 * ((Z 57 30) - x0))) + 0)) (by omega) (by omega)] at hq; show f57 27 (Z10 57 ((31 + (3 * ((Z 57 30) - x0))) + 0)); unfold f57 at hq; unfold f57; omega) | assumption | (unfold f57; omega) | (unfold f57 at *; omega)) (by omega) (by omega)
        refine Jiinc (z := 0) (cz := 1) (ls2 := [some (.ref 56), some (xI x0), some (xI 1)]) (show mx_Sn _ _ 77 (mx_iinc 2 1 80) from sn_216 77) rfl rfl rfl rfl ?_
        refine mx_J.step (sn_216 80) (fun _ _ => rfl) ?_
        refine mx_J.step (sn_216 44) (fun _ _ => rfl) ?_
        refine JcI (z := 3) (show mx_Sn _ _ 45 (mx_const (.int 3) 46) from sn_216 45) rfl ?_
        refine Jicmp_ge (show mx_Sn _ _ 46 (mx_icmp_ge 83 49) from sn_216 46) (by omega) (by omega) (fun q23 => absurd q23 (by omega)) (fun q23 => ?_)
        refine mx_J.step (sn_216 49) (fun _ _ => rfl) ?_
        refine JgetR (g := 1) (b := 57) hx21 (show mx_Sn _ _ 50 (mx_getf 12 1 53) from sn_216 50) a56 s56 rfl rfl (hG21.prr 56 1 rfl) ?_
        refine JcI (z := 27) (show mx_Sn _ _ 53 (mx_const (.int 27) 55) from sn_216 53) rfl ?_
        refine mx_J.step (sn_216 55) (fun _ _ => rfl) ?_
        refine JiaddE (r := 28) (show mx_Sn _ _ 56 (mx_iadd 57) from sn_216 56) (by decide) ?_
        refine mx_J.step (sn_216 57) (fun _ _ => rfl) ?_
        refine JgetR (g := 1) (b := 57) hx21 (show mx_Sn _ _ 58 (mx_getf 12 1 61) from sn_216 58) a56 s56 rfl rfl (hG21.prr 56 1 rfl) ?_
        refine JcI (z := 31) (show mx_Sn _ _ 61 (mx_const (.int 31) 63) from sn_216 61) rfl ?_
        refine JcI (z := 3) (show mx_Sn _ _ 63 (mx_const (.int 3) 64) from sn_216 63) rfl ?_
        refine mx_J.step (sn_216 64) (fun _ _ => rfl) ?_
        refine JgetR (g := 1) (b := 57) hx21 (show mx_Sn _ _ 65 (mx_getf 12 1 68) from sn_216 65) a56 s56 rfl rfl (hG21.prr 56 1 rfl) ?_
        refine JcI (z := 30) (show mx_Sn _ _ 68 (mx_const (.int 30) 70) from sn_216 68) rfl ?_
        refine JialdI (z := (Z 57 30) - x0) hx21 (show mx_Sn _ _ 70 (mx_iald 71) from sn_216 70) a57 s57 (by omega) ((up_ni hE21 (by decide)).trans (up_at hE10)) ?_
        refine Jimul (show mx_Sn _ _ 71 (mx_imul 72) from sn_216 71) ?_
        refine Jiadd (show mx_Sn _ _ 72 (mx_iadd 73) from sn_216 72) ?_
        refine mx_J.step (sn_216 73) (fun _ _ => rfl) ?_
        refine Jiadd (show mx_Sn _ _ 74 (mx_iadd 75) from sn_216 74) ?_
        have b27 := GI_st hG21 ((31 + (3 * ((Z 57 30) - x0))) + 1)
        have eq28 : Z21 56 18 = Z 56 18 := ((up_nk hE21 rfl).trans ((up_nk hE10 rfl).trans (up_ni hE1 (by decide))))
        have b29 : f57 (((31 + (3 * ((Z 57 30) - x0))) + 1) % 962) (Z21 57 ((31 + (3 * ((Z 57 30) - x0))) + 1)) := GI_ex hG21 57 ((31 + (3 * ((Z 57 30) - x0))) + 1)
        have b30 : (-2147483648) ≤ Z21 57 ((31 + (3 * ((Z 57 30) - x0))) + 1) ∧ Z21 57 ((31 + (3 * ((Z 57 30) - x0))) + 1) ≤ 2147483647 := hG21.pr 57 ((31 + (3 * ((Z 57 30) - x0))) + 1)
        refine JialdI (z := Z21 57 ((31 + (3 * ((Z 57 30) - x0))) + 1)) hx21 (show mx_Sn _ _ 75 (mx_iald 76) from sn_216 75) a57 s57 (by omega) rfl ?_
        refine JiastI hx21 (show mx_Sn _ _ 76 (mx_iast 1 77) from sn_216 76) a57 s57 rfl (by omega) (fun Z31 h31 hx31 hE31 => ?_)
        have eq32 : Z21 56 18 = Z 56 18 := ((up_nk hE21 rfl).trans ((up_nk hE10 rfl).trans (up_ni hE1 (by decide))))
        have hG31 := GI_up57 hG21 hE31 (show (-2147483648) ≤ Z21 57 ((31 + (3 * ((Z 57 30) - x0))) + 1) ∧ Z21 57 ((31 + (3 * ((Z 57 30) - x0))) + 1) ≤ 2147483647 by omega) (show f57 ((28) % 962) (Z21 57 ((31 + (3 * ((Z 57 30) - x0))) + 1)) by first | exact f57_m0 (by assumption) (by omega) (by omega) | exact f57_m1 (by assumption) (by omega) (by omega) | exact f57_m2 | (have hq := GI_ex hG21 57 ((31 + (3 * ((Z 57 30) - x0))) + 1); replace hq : f57 (((31 + (3 * ((Z 57 30) - x0))) + 1) % 962) (Z21 57 ((31 + (3 * ((Z 57 30) - x0))) + 1)) := hq; rw [Int.emod_eq_of_lt (a := ((31 + (3 * ((Z 57 30) - x0))) + 1)) (by omega) (by omega)] at hq; show f57 28 (Z21 57 ((31 + (3 * ((Z 57 30) - x0))) + 1)); unfold f57 at hq; unfold f57; omega) | assumption | (unfold f57; omega) | (unfold f57 at *; omega)) (by omega) (by omega)
        refine Jiinc (z := 1) (cz := 1) (ls2 := [some (.ref 56), some (xI x0), some (xI 2)]) (show mx_Sn _ _ 77 (mx_iinc 2 1 80) from sn_216 77) rfl rfl rfl rfl ?_
        refine mx_J.step (sn_216 80) (fun _ _ => rfl) ?_
        refine mx_J.step (sn_216 44) (fun _ _ => rfl) ?_
        refine JcI (z := 3) (show mx_Sn _ _ 45 (mx_const (.int 3) 46) from sn_216 45) rfl ?_
        refine Jicmp_ge (show mx_Sn _ _ 46 (mx_icmp_ge 83 49) from sn_216 46) (by omega) (by omega) (fun q33 => absurd q33 (by omega)) (fun q33 => ?_)
        refine mx_J.step (sn_216 49) (fun _ _ => rfl) ?_
        refine JgetR (g := 1) (b := 57) hx31 (show mx_Sn _ _ 50 (mx_getf 12 1 53) from sn_216 50) a56 s56 rfl rfl (hG31.prr 56 1 rfl) ?_
        refine JcI (z := 27) (show mx_Sn _ _ 53 (mx_const (.int 27) 55) from sn_216 53) rfl ?_
        refine mx_J.step (sn_216 55) (fun _ _ => rfl) ?_
        refine JiaddE (r := 29) (show mx_Sn _ _ 56 (mx_iadd 57) from sn_216 56) (by decide) ?_
        refine mx_J.step (sn_216 57) (fun _ _ => rfl) ?_
        refine JgetR (g := 1) (b := 57) hx31 (show mx_Sn _ _ 58 (mx_getf 12 1 61) from sn_216 58) a56 s56 rfl rfl (hG31.prr 56 1 rfl) ?_
        refine JcI (z := 31) (show mx_Sn _ _ 61 (mx_const (.int 31) 63) from sn_216 61) rfl ?_
        refine JcI (z := 3) (show mx_Sn _ _ 63 (mx_const (.int 3) 64) from sn_216 63) rfl ?_
        refine mx_J.step (sn_216 64) (fun _ _ => rfl) ?_
        refine JgetR (g := 1) (b := 57) hx31 (show mx_Sn _ _ 65 (mx_getf 12 1 68) from sn_216 65) a56 s56 rfl rfl (hG31.prr 56 1 rfl) ?_
        refine JcI (z := 30) (show mx_Sn _ _ 68 (mx_const (.int 30) 70) from sn_216 68) rfl ?_
        refine JialdI (z := (Z 57 30) - x0) hx31 (show mx_Sn _ _ 70 (mx_iald 71) from sn_216 70) a57 s57 (by omega) ((up_ni hE31 (by decide)).trans ((up_ni hE21 (by decide)).trans (up_at hE10))) ?_
        refine Jimul (show mx_Sn _ _ 71 (mx_imul 72) from sn_216 71) ?_
        refine Jiadd (show mx_Sn _ _ 72 (mx_iadd 73) from sn_216 72) ?_
        refine mx_J.step (sn_216 73) (fun _ _ => rfl) ?_
        refine Jiadd (show mx_Sn _ _ 74 (mx_iadd 75) from sn_216 74) ?_
        have b37 := GI_st hG31 ((31 + (3 * ((Z 57 30) - x0))) + 2)
        have eq38 : Z31 56 18 = Z 56 18 := ((up_nk hE31 rfl).trans ((up_nk hE21 rfl).trans ((up_nk hE10 rfl).trans (up_ni hE1 (by decide)))))
        have b39 : f57 (((31 + (3 * ((Z 57 30) - x0))) + 2) % 962) (Z31 57 ((31 + (3 * ((Z 57 30) - x0))) + 2)) := GI_ex hG31 57 ((31 + (3 * ((Z 57 30) - x0))) + 2)
        have b40 : (-2147483648) ≤ Z31 57 ((31 + (3 * ((Z 57 30) - x0))) + 2) ∧ Z31 57 ((31 + (3 * ((Z 57 30) - x0))) + 2) ≤ 2147483647 := hG31.pr 57 ((31 + (3 * ((Z 57 30) - x0))) + 2)
        refine JialdI (z := Z31 57 ((31 + (3 * ((Z 57 30) - x0))) + 2)) hx31 (show mx_Sn _ _ 75 (mx_iald 76) from sn_216 75) a57 s57 (by omega) rfl ?_
        refine JiastI hx31 (show mx_Sn _ _ 76 (mx_iast 1 77) from sn_216 76) a57 s57 rfl (by omega) (fun Z41 h41 hx41 hE41 => ?_)
        have eq42 : Z31 56 18 = Z 56 18 := ((up_nk hE31 rfl).trans ((up_nk hE21 rfl).trans ((up_nk hE10 rfl).trans (up_ni hE1 (by decide)))))
        have hG41 := GI_up57 hG31 hE41 (show (-2147483648) ≤ Z31 57 ((31 + (3 * ((Z 57 30) - x0))) + 2) ∧ Z31 57 ((31 + (3 * ((Z 57 30) - x0))) + 2) ≤ 2147483647 by omega) (show f57 ((29) % 962) (Z31 57 ((31 + (3 * ((Z 57 30) - x0))) + 2)) by first | exact f57_m0 (by assumption) (by omega) (by omega) | exact f57_m1 (by assumption) (by omega) (by omega) | exact f57_m2 | (have hq := GI_ex hG31 57 ((31 + (3 * ((Z 57 30) - x0))) + 2); replace hq : f57 (((31 + (3 * ((Z 57 30) - x0))) + 2) % 962) (Z31 57 ((31 + (3 * ((Z 57 30) - x0))) + 2)) := hq; rw [Int.emod_eq_of_lt (a := ((31 + (3 * ((Z 57 30) - x0))) + 2)) (by omega) (by omega)] at hq; show f57 29 (Z31 57 ((31 + (3 * ((Z 57 30) - x0))) + 2)); unfold f57 at hq; unfold f57; omega) | assumption | (unfold f57; omega) | (unfold f57 at *; omega)) (by omega) (by omega)
        refine Jiinc (z := 2) (cz := 1) (ls2 := [some (.ref 56), some (xI x0), some (xI 3)]) (show mx_Sn _ _ 77 (mx_iinc 2 1 80) from sn_216 77) rfl rfl rfl rfl ?_
        refine mx_J.step (sn_216 80) (fun _ _ => rfl) ?_
        refine mx_J.step (sn_216 44) (fun _ _ => rfl) ?_
        refine JcI (z := 3) (show mx_Sn _ _ 45 (mx_const (.int 3) 46) from sn_216 45) rfl ?_
        refine Jicmp_ge (show mx_Sn _ _ 46 (mx_icmp_ge 83 49) from sn_216 46) (by omega) (by omega) (fun q43 => ?_) (fun q43 => absurd q43 (by omega))
        refine mx_J.step (sn_216 83) (fun _ _ => rfl) ?_
        refine JgetR (g := 1) (b := 57) hx41 (show mx_Sn _ _ 84 (mx_getf 12 1 87) from sn_216 84) a56 s56 rfl rfl (hG41.prr 56 1 rfl) ?_
        refine JcI (z := 30) (show mx_Sn _ _ 87 (mx_const (.int 30) 89) from sn_216 87) rfl ?_
        refine JialdI (z := (Z 57 30) - x0) hx41 (show mx_Sn _ _ 89 (mx_iald 90) from sn_216 89) a57 s57 (by omega) ((up_ni hE41 (by decide)).trans ((up_ni hE31 (by decide)).trans ((up_ni hE21 (by decide)).trans (up_at hE10)))) ?_
        exact mx_J.ret (sn_216 90) (fun _ _ => rfl) (hP ((Z 57 30) - x0) Z41 h41 hx41 hG41 (fr_tr (M := [(56, 0), (57, (-1))]) (fr_tr (M := [(56, 0), (57, (-1))]) (fr_tr (M := [(56, 0), (57, (-1))]) (fr_tr (M := [(56, 0), (57, (-1))]) (fr_tr (M := [(56, 0), (57, (-1))]) fr_rf (fr_up hE1) (M1 := []) rfl rfl) (fr_ua hE10) rfl rfl) (fr_ua hE21) rfl rfl) (fr_ua hE31) rfl rfl) (fr_ua hE41) rfl rfl) (by omega))
      · skip
        exact c28 
theorem ct_216_56 {l : Launch} {D : va_G} {b0 : Nat} {ad : Nat → Nat} {Hb : Heap} {tau : Nat → Int64} {d n s : Nat} {S : Nat → xS} {Z : xZ} {h : mx_H} (hx : XH n s S Z h) (hG : GI n S Z)  {x0 : Int} (p0 : (-2147483648) ≤ x0 ∧ x0 ≤ 2147483647) : ∃ (z : Int) (Z' : xZ) (h' : mx_H), mx_Ca (tB l D b0 ad Hb tau) (d + 2) 216 [.ref 56, xI x0] h (some (xI z), h') ∧ XH n s S Z' h' ∧ GI n S Z' ∧ fr' [(56, 0), (57, (-1))] Z Z' ∧ ((-3) ≤ z ∧ z ≤ 10) := by
  obtain ⟨r, hca, z, Z', h', e, q⟩ := Jmt (B := tB l D b0 ad Hb tau) (M := mt_216) (mi := 216) (as := [.ref 56, xI x0]) (d := d + 1) (ls := [some (.ref 56), some (xI x0), none]) rfl rfl rfl rfl rfl rfl (cw_216_56 (l := l) (D := D) (b0 := b0) (ad := ad) (Hb := Hb) (tau := tau) (d := d) (Post := fun r => ∃ (z : Int) (Z' : xZ) (h' : mx_H), r = (some (xI z), h') ∧ XH n s S Z' h' ∧ GI n S Z' ∧ fr' [(56, 0), (57, (-1))] Z Z' ∧ ((-3) ≤ z ∧ z ≤ 10)) hx hG p0 (fun z Z' h' q1 q2 q3 q4 => ⟨z, Z', h', rfl, q1, q2, q3, q4⟩))
  subst e; exact ⟨z, Z', h', hca, q⟩
set_option maxRecDepth 100000 in
theorem cw_217_56 {l : Launch} {D : va_G} {b0 : Nat} {ad : Nat → Nat} {Hb : Heap} {tau : Nat → Int64} {d n s : Nat} {S : Nat → xS} {Z : xZ} {h : mx_H} {Post : mx_R → Prop} (hx : XH n s S Z h) (hG : GI n S Z)  {x0 : Int} (p0 : (-9223372036854775808) ≤ x0 ∧ x0 ≤ 9223372036854775807) (hP : ∀ z : Int, 0 ≤ z ∧ z ≤ 2 ∧ (z = 0 → ((0 ≤ x0 ∧ x0 ≤ 18) ∨ (20 ≤ x0 ∧ x0 ≤ 29) ∨ (1000 ≤ x0 ∧ x0 ≤ 2999 ∧ 1 ≤ (x0 - 1000) / 100 ∧ 1 ≤ x0 % 100 ∧ x0 % 100 ≤ (x0 - 1000) / 100 - 1 ∧ (x0 - 1000) / 100 ≤ 18 ∧ hv Z (Z 57 27) ((x0 - 1000) / 100) = 1) ∨ (3000 ≤ x0 ∧ x0 ≤ 4999 ∧ 1 ≤ (x0 - 3000) / 100 ∧ (x0 - 3000) / 100 ≤ 18 ∧ 1 ≤ x0 % 100 ∧ x0 % 100 ≤ 18 ∧ hv Z (Z 57 27) ((x0 - 3000) / 100) = 1 ∧ hv Z (Z 57 27) (x0 % 100) = 1))) → Post (some (xI z), h)) : mx_J (tB l D b0 ad Hb tau) mt_217 (d + 3) 0 [some (.ref 56), some (xL x0), none] [] h Post := by
    have a56 : 56 < n := lt83 (GI_n hG) rfl
    have s56 : S 56 = .inl (12, [0, 2, 2, 2, 2, 0, 0, 0, 0, 0, 0, 0, 0, 0, 0, 2, 2, 2, 0, 2, 2, 2, 0, 0, 2, 2, 2, 2, 2, 2, 0, 0, 2, 2, 2, 2, 2, 2, 2, 2, 2, 2]) := GI_s hG 56 rfl
    have a57 : 57 < n := lt83 (GI_n hG) rfl
    have s57 : S 57 = .inr (.int, 2886, 0) := GI_s hG 57 rfl
    refine mx_J.step (sn_217 0) (fun _ _ => rfl) ?_
    refine JcL (z := 0) (show mx_Sn _ _ 1 (mx_const (.long 0) 2) from sn_217 1) rfl ?_
    refine JcL (z := 18) (show mx_Sn _ _ 2 (mx_const (.long 18) 5) from sn_217 2) rfl ?_
    obtain ⟨z1, hc1, b1⟩ := ct_154_ (d := d + 2) (l := l) (D := D) (b0 := b0) (ad := ad) (Hb := Hb) (tau := tau) hx hG (show (-9223372036854775808) ≤ x0 ∧ x0 ≤ 9223372036854775807 by omega) (show (-9223372036854775808) ≤ 0 ∧ 0 ≤ 9223372036854775807 by omega) (show (-9223372036854775808) ≤ 18 ∧ 18 ≤ 9223372036854775807 by omega)
    refine Jcs (show mx_Sn _ _ 5 (mx_calls 154 3 8) from sn_217 5) hc1 rfl rfl rfl ?_
    refine Jif_eq (show mx_Sn _ _ 8 (mx_if_eq 33 11) from sn_217 8) (by omega) (fun q2 => ?_) (fun q2 => ?_)
    · skip
      refine mx_J.step (sn_217 33) (fun _ _ => rfl) ?_
      refine JcL (z := 20) (show mx_Sn _ _ 34 (mx_const (.long 20) 37) from sn_217 34) rfl ?_
      refine JcL (z := 29) (show mx_Sn _ _ 37 (mx_const (.long 29) 40) from sn_217 37) rfl ?_
      obtain ⟨z3, hc3, b3⟩ := ct_154_ (d := d + 2) (l := l) (D := D) (b0 := b0) (ad := ad) (Hb := Hb) (tau := tau) hx hG (show (-9223372036854775808) ≤ x0 ∧ x0 ≤ 9223372036854775807 by omega) (show (-9223372036854775808) ≤ 20 ∧ 20 ≤ 9223372036854775807 by omega) (show (-9223372036854775808) ≤ 29 ∧ 29 ≤ 9223372036854775807 by omega)
      refine Jcs (show mx_Sn _ _ 40 (mx_calls 154 3 43) from sn_217 40) hc3 rfl rfl rfl ?_
      refine Jif_eq (show mx_Sn _ _ 43 (mx_if_eq 48 46) from sn_217 43) (by omega) (fun q4 => ?_) (fun q4 => ?_)
      · skip
        refine mx_J.step (sn_217 48) (fun _ _ => rfl) ?_
        refine JcL (z := 1000) (show mx_Sn _ _ 49 (mx_const (.long 1000) 52) from sn_217 49) rfl ?_
        refine JcL (z := 2999) (show mx_Sn _ _ 52 (mx_const (.long 2999) 55) from sn_217 52) rfl ?_
        obtain ⟨z5, hc5, b5⟩ := ct_154_ (d := d + 2) (l := l) (D := D) (b0 := b0) (ad := ad) (Hb := Hb) (tau := tau) hx hG (show (-9223372036854775808) ≤ x0 ∧ x0 ≤ 9223372036854775807 by omega) (show (-9223372036854775808) ≤ 1000 ∧ 1000 ≤ 9223372036854775807 by omega) (show (-9223372036854775808) ≤ 2999 ∧ 2999 ≤ 9223372036854775807 by omega)
        refine Jcs (show mx_Sn _ _ 55 (mx_calls 154 3 58) from sn_217 55) hc5 rfl rfl rfl ?_
        refine Jif_eq (show mx_Sn _ _ 58 (mx_if_eq 80 61) from sn_217 58) (by omega) (fun q6 => ?_) (fun q6 => ?_)
        · skip
          refine mx_J.step (sn_217 80) (fun _ _ => rfl) ?_
          refine JcL (z := 3000) (show mx_Sn _ _ 81 (mx_const (.long 3000) 84) from sn_217 81) rfl ?_
          refine JcL (z := 4999) (show mx_Sn _ _ 84 (mx_const (.long 4999) 87) from sn_217 84) rfl ?_
          obtain ⟨z7, hc7, b7⟩ := ct_154_ (d := d + 2) (l := l) (D := D) (b0 := b0) (ad := ad) (Hb := Hb) (tau := tau) hx hG (show (-9223372036854775808) ≤ x0 ∧ x0 ≤ 9223372036854775807 by omega) (show (-9223372036854775808) ≤ 3000 ∧ 3000 ≤ 9223372036854775807 by omega) (show (-9223372036854775808) ≤ 4999 ∧ 4999 ≤ 9223372036854775807 by omega)
          refine Jcs (show mx_Sn _ _ 87 (mx_calls 154 3 90) from sn_217 87) hc7 rfl rfl rfl ?_
          have c115 : ∀ (k8_0 : Int), 0 ≤ k8_0 ∧ k8_0 ≤ 2 → (k8_0 = 0 → 3000 ≤ x0 ∧ x0 ≤ 4999 ∧ 1 ≤ (x0 - 3000) / 100 ∧ (x0 - 3000) / 100 ≤ 18 ∧ 1 ≤ x0 % 100 ∧ x0 % 100 ≤ 18 ∧ hv Z (Z 57 27) ((x0 - 3000) / 100) = 1 ∧ hv Z (Z 57 27) (x0 % 100) = 1) → mx_J (tB l D b0 ad Hb tau) mt_217 (d + 3) 115 [some (.ref 56), some (xL x0), none] [xI k8_0] h Post := by
            intro k8_0 f8_0 f8_1
            have b9 := GI_st hG 27
            have b10 : 0 ≤ Z 56 18 ∧ Z 56 18 ≤ 385 := hG.pr 56 18
            have b11 : 0 ≤ Z 57 27 ∧ Z 57 27 ≤ 384 := by have hq := GI_ex hG 57 27; replace hq : f57 (27 % 962) (Z 57 27) := hq; unfold f57 at hq; omega
            have b12 : (-2147483648) ≤ Z 57 27 ∧ Z 57 27 ≤ 2147483647 := hG.pr 57 27
            exact mx_J.ret (sn_217 115) (fun _ _ => rfl) (hP k8_0 (by omega))
          refine Jif_eq (show mx_Sn _ _ 90 (mx_if_eq 114 93) from sn_217 90) (by omega) (fun q13 => ?_) (fun q13 => ?_)
          · skip
            refine JcI (z := 1) (show mx_Sn _ _ 114 (mx_const (.int 1) 115) from sn_217 114) rfl ?_
            exact c115 1 (by omega) (by omega)
          · skip
            refine mx_J.step (sn_217 93) (fun _ _ => rfl) ?_
            refine mx_J.step (sn_217 94) (fun _ _ => rfl) ?_
            refine JcL (z := 3000) (show mx_Sn _ _ 95 (mx_const (.long 3000) 98) from sn_217 95) rfl ?_
            refine Jlsub (show mx_Sn _ _ 98 (mx_lsub 99) from sn_217 98) ?_
            refine Jl2i (show mx_Sn _ _ 99 (mx_l2i 100) from sn_217 99) ?_
            refine JcI (z := 100) (show mx_Sn _ _ 100 (mx_const (.int 100) 102) from sn_217 100) rfl ?_
            refine Jidiv (show mx_Sn _ _ 102 (mx_idiv 103) from sn_217 102) (by omega) (by omega) ?_
            refine mx_J.step (sn_217 103) (fun _ _ => rfl) ?_
            refine Jl2i (show mx_Sn _ _ 104 (mx_l2i 105) from sn_217 104) ?_
            refine JcI (z := 100) (show mx_Sn _ _ 105 (mx_const (.int 100) 107) from sn_217 105) rfl ?_
            refine Jirem (show mx_Sn _ _ 107 (mx_irem 108) from sn_217 107) (by omega) (by omega) ?_
            have b15 := GI_st hG 27
            have b16 : 0 ≤ Z 56 18 ∧ Z 56 18 ≤ 385 := hG.pr 56 18
            have b17 : 0 ≤ Z 57 27 ∧ Z 57 27 ≤ 384 := by have hq := GI_ex hG 57 27; replace hq : f57 (27 % 962) (Z 57 27) := hq; unfold f57 at hq; omega
            have b18 : (-2147483648) ≤ Z 57 27 ∧ Z 57 27 ≤ 2147483647 := hG.pr 57 27
            obtain ⟨z14, hc14, b14⟩ := ct_212_56 (d := d + 0) (l := l) (D := D) (b0 := b0) (ad := ad) (Hb := Hb) (tau := tau) hx hG (show (-2147483648) ≤ (x0 - 3000) / 100 ∧ (x0 - 3000) / 100 ≤ 2147483647 by omega) (show (-2147483648) ≤ x0 % 100 ∧ x0 % 100 ≤ 2147483647 by omega)
            refine Jcv hx (show mx_Sn _ _ 108 (mx_callv 212 3 12 111) from sn_217 108) a56 s56 hc14 rfl rfl rfl ?_
            refine mx_J.step (sn_217 111) (fun _ _ => rfl) ?_
            exact c115 z14 (by omega) (by omega)
        · skip
          refine mx_J.step (sn_217 61) (fun _ _ => rfl) ?_
          refine mx_J.step (sn_217 62) (fun _ _ => rfl) ?_
          refine JcL (z := 1000) (show mx_Sn _ _ 63 (mx_const (.long 1000) 66) from sn_217 63) rfl ?_
          refine Jlsub (show mx_Sn _ _ 66 (mx_lsub 67) from sn_217 66) ?_
          refine Jl2i (show mx_Sn _ _ 67 (mx_l2i 68) from sn_217 67) ?_
          refine JcI (z := 100) (show mx_Sn _ _ 68 (mx_const (.int 100) 70) from sn_217 68) rfl ?_
          refine Jidiv (show mx_Sn _ _ 70 (mx_idiv 71) from sn_217 70) (by omega) (by omega) ?_
          refine mx_J.step (sn_217 71) (fun _ _ => rfl) ?_
          refine Jl2i (show mx_Sn _ _ 72 (mx_l2i 73) from sn_217 72) ?_
          refine JcI (z := 100) (show mx_Sn _ _ 73 (mx_const (.int 100) 75) from sn_217 73) rfl ?_
          refine Jirem (show mx_Sn _ _ 75 (mx_irem 76) from sn_217 75) (by omega) (by omega) ?_
          have b20 := GI_st hG 27
          have b21 : 0 ≤ Z 56 18 ∧ Z 56 18 ≤ 385 := hG.pr 56 18
          have b22 : 0 ≤ Z 57 27 ∧ Z 57 27 ≤ 384 := by have hq := GI_ex hG 57 27; replace hq : f57 (27 % 962) (Z 57 27) := hq; unfold f57 at hq; omega
          have b23 : (-2147483648) ≤ Z 57 27 ∧ Z 57 27 ≤ 2147483647 := hG.pr 57 27
          obtain ⟨z19, hc19, b19⟩ := ct_209_56 (d := d + 0) (l := l) (D := D) (b0 := b0) (ad := ad) (Hb := Hb) (tau := tau) hx hG (show (-2147483648) ≤ (x0 - 1000) / 100 ∧ (x0 - 1000) / 100 ≤ 2147483647 by omega) (show (-2147483648) ≤ x0 % 100 ∧ x0 % 100 ≤ 2147483647 by omega)
          refine Jcv hx (show mx_Sn _ _ 76 (mx_callv 209 3 12 79) from sn_217 76) a56 s56 hc19 rfl rfl rfl ?_
          exact mx_J.ret (sn_217 79) (fun _ _ => rfl) (hP z19 (by omega))
      · skip
        refine JcI (z := 0) (show mx_Sn _ _ 46 (mx_const (.int 0) 47) from sn_217 46) rfl ?_
        have b24 := GI_st hG 27
        have b25 : 0 ≤ Z 56 18 ∧ Z 56 18 ≤ 385 := hG.pr 56 18
        have b26 : 0 ≤ Z 57 27 ∧ Z 57 27 ≤ 384 := by have hq := GI_ex hG 57 27; replace hq : f57 (27 % 962) (Z 57 27) := hq; unfold f57 at hq; omega
        have b27 : (-2147483648) ≤ Z 57 27 ∧ Z 57 27 ≤ 2147483647 := hG.pr 57 27
        exact mx_J.ret (sn_217 47) (fun _ _ => rfl) (hP 0 (by omega))
    · skip
      refine mx_J.step (sn_217 11) (fun _ _ => rfl) ?_
      refine mx_J.step (sn_217 12) (fun _ _ => rfl) ?_
      refine JgetR (g := 1) (b := 57) hx (show mx_Sn _ _ 13 (mx_getf 12 1 16) from sn_217 13) a56 s56 rfl rfl (hG.prr 56 1 rfl) ?_
      refine JcI (z := 27) (show mx_Sn _ _ 16 (mx_const (.int 27) 18) from sn_217 16) rfl ?_
      have b29 := GI_st hG 27
      have b30 : 0 ≤ Z 56 18 ∧ Z 56 18 ≤ 385 := hG.pr 56 18
      have b31 : 0 ≤ Z 57 27 ∧ Z 57 27 ≤ 384 := by have hq := GI_ex hG 57 27; replace hq : f57 (27 % 962) (Z 57 27) := hq; unfold f57 at hq; omega
      have b32 : (-2147483648) ≤ Z 57 27 ∧ Z 57 27 ≤ 2147483647 := hG.pr 57 27
      refine JialdI (z := Z 57 27) hx (show mx_Sn _ _ 18 (mx_iald 19) from sn_217 18) a57 s57 (by omega) rfl ?_
      refine mx_J.step (sn_217 19) (fun _ _ => rfl) ?_
      refine Jl2i (show mx_Sn _ _ 20 (mx_l2i 21) from sn_217 20) ?_
      obtain ⟨z33, hc33, b33⟩ := ct_197_56 (d := d + 0) (l := l) (D := D) (b0 := b0) (ad := ad) (Hb := Hb) (tau := tau) hx hG (show 0 ≤ Z 57 27 ∧ Z 57 27 ≤ 384 by omega) (show (-2147483648) ≤ x0 ∧ x0 ≤ 2147483647 by omega)
      refine Jcv hx (show mx_Sn _ _ 21 (mx_callv 197 3 12 24) from sn_217 21) a56 s56 hc33 rfl rfl rfl ?_
      have c32 : ∀ (k34_0 : Int), 0 ≤ k34_0 ∧ k34_0 ≤ 2 → (k34_0 = 0 ∨ k34_0 = 2) → mx_J (tB l D b0 ad Hb tau) mt_217 (d + 3) 32 [some (.ref 56), some (xL x0), none] [xI k34_0] h Post := by
        intro k34_0 f34_0 f34_1
        exact mx_J.ret (sn_217 32) (fun _ _ => rfl) (hP k34_0 (by omega))
      refine Jif_eq (show mx_Sn _ _ 24 (mx_if_eq 31 27) from sn_217 24) (by omega) (fun q35 => ?_) (fun q35 => ?_)
      · skip
        refine JcI (z := 2) (show mx_Sn _ _ 31 (mx_const (.int 2) 32) from sn_217 31) rfl ?_
        exact c32 2 (by omega) (by omega)
      · skip
        refine JcI (z := 0) (show mx_Sn _ _ 27 (mx_const (.int 0) 28) from sn_217 27) rfl ?_
        refine mx_J.step (sn_217 28) (fun _ _ => rfl) ?_
        exact c32 0 (by omega) (by omega)
theorem ct_217_56 {l : Launch} {D : va_G} {b0 : Nat} {ad : Nat → Nat} {Hb : Heap} {tau : Nat → Int64} {d n s : Nat} {S : Nat → xS} {Z : xZ} {h : mx_H} (hx : XH n s S Z h) (hG : GI n S Z)  {x0 : Int} (p0 : (-9223372036854775808) ≤ x0 ∧ x0 ≤ 9223372036854775807) : ∃ z : Int, mx_Ca (tB l D b0 ad Hb tau) (d + 4) 217 [.ref 56, xL x0] h (some (xI z), h) ∧ (0 ≤ z ∧ z ≤ 2 ∧ (z = 0 → ((0 ≤ x0 ∧ x0 ≤ 18) ∨ (20 ≤ x0 ∧ x0 ≤ 29) ∨ (1000 ≤ x0 ∧ x0 ≤ 2999 ∧ 1 ≤ (x0 - 1000) / 100 ∧ 1 ≤ x0 % 100 ∧ x0 % 100 ≤ (x0 - 1000) / 100 - 1 ∧ (x0 - 1000) / 100 ≤ 18 ∧ hv Z (Z 57 27) ((x0 - 1000) / 100) = 1) ∨ (3000 ≤ x0 ∧ x0 ≤ 4999 ∧ 1 ≤ (x0 - 3000) / 100 ∧ (x0 - 3000) / 100 ≤ 18 ∧ 1 ≤ x0 % 100 ∧ x0 % 100 ≤ 18 ∧ hv Z (Z 57 27) ((x0 - 3000) / 100) = 1 ∧ hv Z (Z 57 27) (x0 % 100) = 1)))) := by
  obtain ⟨r, hca, z, e, hp⟩ := Jmt (B := tB l D b0 ad Hb tau) (M := mt_217) (mi := 217) (as := [.ref 56, xL x0]) (d := d + 3) (ls := [some (.ref 56), some (xL x0), none]) rfl rfl rfl rfl rfl rfl (cw_217_56 (l := l) (D := D) (b0 := b0) (ad := ad) (Hb := Hb) (tau := tau) (d := d) (Post := fun r => ∃ z : Int, r = (some (xI z), h) ∧ (0 ≤ z ∧ z ≤ 2 ∧ (z = 0 → ((0 ≤ x0 ∧ x0 ≤ 18) ∨ (20 ≤ x0 ∧ x0 ≤ 29) ∨ (1000 ≤ x0 ∧ x0 ≤ 2999 ∧ 1 ≤ (x0 - 1000) / 100 ∧ 1 ≤ x0 % 100 ∧ x0 % 100 ≤ (x0 - 1000) / 100 - 1 ∧ (x0 - 1000) / 100 ≤ 18 ∧ hv Z (Z 57 27) ((x0 - 1000) / 100) = 1) ∨ (3000 ≤ x0 ∧ x0 ≤ 4999 ∧ 1 ≤ (x0 - 3000) / 100 ∧ (x0 - 3000) / 100 ≤ 18 ∧ 1 ≤ x0 % 100 ∧ x0 % 100 ≤ 18 ∧ hv Z (Z 57 27) ((x0 - 3000) / 100) = 1 ∧ hv Z (Z 57 27) (x0 % 100) = 1))))) hx hG p0 (fun z hz => ⟨z, rfl, hz⟩))
  subst e; exact ⟨z, hca, hp⟩
set_option maxRecDepth 100000 in
theorem cw_218_56 {l : Launch} {D : va_G} {b0 : Nat} {ad : Nat → Nat} {Hb : Heap} {tau : Nat → Int64} {d n s : Nat} {S : Nat → xS} {Z : xZ} {h : mx_H} {Post : mx_R → Prop} (hx : XH n s S Z h) (hG : GI n S Z)  {x0 : Int} (p0 : 0 ≤ x0 ∧ x0 ≤ 4999) (k0 : ((0 ≤ x0 ∧ x0 ≤ 18) ∨ (20 ≤ x0 ∧ x0 ≤ 29) ∨ (1000 ≤ x0 ∧ x0 ≤ 2999 ∧ 1 ≤ (x0 - 1000) / 100 ∧ 1 ≤ x0 % 100 ∧ x0 % 100 ≤ (x0 - 1000) / 100 - 1 ∧ (x0 - 1000) / 100 ≤ 18 ∧ hv Z (Z 57 27) ((x0 - 1000) / 100) = 1) ∨ (3000 ≤ x0 ∧ x0 ≤ 4999 ∧ 1 ≤ (x0 - 3000) / 100 ∧ (x0 - 3000) / 100 ≤ 18 ∧ 1 ≤ x0 % 100 ∧ x0 % 100 ≤ 18 ∧ hv Z (Z 57 27) ((x0 - 3000) / 100) = 1 ∧ hv Z (Z 57 27) (x0 % 100) = 1))) (hP : ∀ (Z' : xZ) (h' : mx_H), XH n s S Z' h' → GI n S Z' → fr' [(57, (-1)), (62, (-1)), (64, (-1)), (65, (-1))] Z Z' → Post (none, h')) : mx_J (tB l D b0 ad Hb tau) mt_218 (d + 6) 0 [some (.ref 56), some (xI x0)] [] h Post := by
    have a56 : 56 < n := lt83 (GI_n hG) rfl
    have s56 : S 56 = .inl (12, [0, 2, 2, 2, 2, 0, 0, 0, 0, 0, 0, 0, 0, 0, 0, 2, 2, 2, 0, 2, 2, 2, 0, 0, 2, 2, 2, 2, 2, 2, 0, 0, 2, 2, 2, 2, 2, 2, 2, 2, 2, 2]) := GI_s hG 56 rfl
    have a57 : 57 < n := lt83 (GI_n hG) rfl
    have s57 : S 57 = .inr (.int, 2886, 0) := GI_s hG 57 rfl
    refine mx_J.step (sn_218 0) (fun _ _ => rfl) ?_
    refine JcI (z := 18) (show mx_Sn _ _ 1 (mx_const (.int 18) 3) from sn_218 1) rfl ?_
    have c76 : ∀  (Z2 : xZ) (h2 : mx_H), XH n s S Z2 h2 → GI n S Z2 → fr' [(57, (-1)), (62, (-1)), (64, (-1)), (65, (-1))] Z Z2 → mx_J (tB l D b0 ad Hb tau) mt_218 (d + 6) 76 [some (.ref 56), some (xI x0)] [] h2 Post := by
      intro Z2 h2 hx2 hG2 hf2
      have b3 := GI_st hG2 27
      have eq4 : Z2 56 18 = Z 56 18 := (hf2 56 18 rfl)
      have b5 : 0 ≤ Z 56 18 ∧ Z 56 18 ≤ 385 := hG.pr 56 18
      have b6 : 0 ≤ Z2 57 27 ∧ Z2 57 27 ≤ 384 := by have hq := GI_ex hG2 57 27; replace hq : f57 (27 % 962) (Z2 57 27) := hq; unfold f57 at hq; omega
      have b7 : (-2147483648) ≤ Z2 57 27 ∧ Z2 57 27 ≤ 2147483647 := hG2.pr 57 27
      have eq8 : hv Z2 (Z2 57 27) ((x0 - 1000) / 100) = hv Z (Z2 57 27) ((x0 - 1000) / 100) := (hv_c (fun i => hf2 61 i rfl))
      have eq9 : hv Z2 (Z2 57 27) ((x0 - 3000) / 100) = hv Z (Z2 57 27) ((x0 - 3000) / 100) := (hv_c (fun i => hf2 61 i rfl))
      have eq10 : hv Z2 (Z2 57 27) (x0 % 100) = hv Z (Z2 57 27) (x0 % 100) := (hv_c (fun i => hf2 61 i rfl))
      exact mx_J.ret (sn_218 76) (fun _ _ => rfl) (hP Z2 h2 hx2 hG2 (fr_tr (M := [(57, (-1)), (62, (-1)), (64, (-1)), (65, (-1))]) fr_rf (hf2) (M1 := []) rfl rfl))
    refine Jicmp_gt (show mx_Sn _ _ 3 (mx_icmp_gt 14 6) from sn_218 3) (by omega) (by omega) (fun q11 => ?_) (fun q11 => ?_)
    · skip
      refine mx_J.step (sn_218 14) (fun _ _ => rfl) ?_
      refine JcI (z := 30) (show mx_Sn _ _ 15 (mx_const (.int 30) 17) from sn_218 15) rfl ?_
      refine Jicmp_ge (show mx_Sn _ _ 17 (mx_icmp_ge 34 20) from sn_218 17) (by omega) (by omega) (fun q12 => ?_) (fun q12 => ?_)
      · skip
        refine mx_J.step (sn_218 34) (fun _ _ => rfl) ?_
        refine JcI (z := 3000) (show mx_Sn _ _ 35 (mx_const (.int 3000) 38) from sn_218 35) rfl ?_
        refine Jicmp_ge (show mx_Sn _ _ 38 (mx_icmp_ge 60 41) from sn_218 38) (by omega) (by omega) (fun q13 => ?_) (fun q13 => ?_)
        · skip
          refine mx_J.step (sn_218 60) (fun _ _ => rfl) ?_
          refine mx_J.step (sn_218 61) (fun _ _ => rfl) ?_
          refine JcI (z := 3000) (show mx_Sn _ _ 62 (mx_const (.int 3000) 65) from sn_218 62) rfl ?_
          refine Jisub (show mx_Sn _ _ 65 (mx_isub 66) from sn_218 65) ?_
          refine JcI (z := 100) (show mx_Sn _ _ 66 (mx_const (.int 100) 68) from sn_218 66) rfl ?_
          refine Jidiv (show mx_Sn _ _ 68 (mx_idiv 69) from sn_218 68) (by omega) (by omega) ?_
          refine mx_J.step (sn_218 69) (fun _ _ => rfl) ?_
          refine JcI (z := 100) (show mx_Sn _ _ 70 (mx_const (.int 100) 72) from sn_218 70) rfl ?_
          refine Jirem (show mx_Sn _ _ 72 (mx_irem 73) from sn_218 72) (by omega) (by omega) ?_
          have b15 := GI_st hG 27
          have b16 : 0 ≤ Z 56 18 ∧ Z 56 18 ≤ 385 := hG.pr 56 18
          have b17 : 0 ≤ Z 57 27 ∧ Z 57 27 ≤ 384 := by have hq := GI_ex hG 57 27; replace hq : f57 (27 % 962) (Z 57 27) := hq; unfold f57 at hq; omega
          have b18 : (-2147483648) ≤ Z 57 27 ∧ Z 57 27 ≤ 2147483647 := hG.pr 57 27
          obtain ⟨Z14, h14, hc14, hx14, hG14, hf14⟩ := ct_213_56 (d := d + 3) (l := l) (D := D) (b0 := b0) (ad := ad) (Hb := Hb) (tau := tau) hx hG (show 1 ≤ (x0 - 3000) / 100 ∧ (x0 - 3000) / 100 ≤ 18 by omega) (show 1 ≤ x0 % 100 ∧ x0 % 100 ≤ 18 by omega) (show hv Z (Z 57 27) ((x0 - 3000) / 100) = 1 by omega) (show hv Z (Z 57 27) (x0 % 100) = 1 by omega)
          refine Jcv0 hx (show mx_Sn _ _ 73 (mx_callv 213 3 12 76) from sn_218 73) a56 s56 hc14 rfl rfl rfl ?_
          exact c76 Z14 h14 hx14 hG14 (fr_tr (M := [(57, (-1)), (62, (-1)), (64, (-1)), (65, (-1))]) fr_rf (hf14) (M1 := []) rfl rfl)
        · skip
          refine mx_J.step (sn_218 41) (fun _ _ => rfl) ?_
          refine mx_J.step (sn_218 42) (fun _ _ => rfl) ?_
          refine JcI (z := 1000) (show mx_Sn _ _ 43 (mx_const (.int 1000) 46) from sn_218 43) rfl ?_
          refine Jisub (show mx_Sn _ _ 46 (mx_isub 47) from sn_218 46) ?_
          refine JcI (z := 100) (show mx_Sn _ _ 47 (mx_const (.int 100) 49) from sn_218 47) rfl ?_
          refine Jidiv (show mx_Sn _ _ 49 (mx_idiv 50) from sn_218 49) (by omega) (by omega) ?_
          refine mx_J.step (sn_218 50) (fun _ _ => rfl) ?_
          refine JcI (z := 100) (show mx_Sn _ _ 51 (mx_const (.int 100) 53) from sn_218 51) rfl ?_
          refine Jirem (show mx_Sn _ _ 53 (mx_irem 54) from sn_218 53) (by omega) (by omega) ?_
          have b20 := GI_st hG 27
          have b21 : 0 ≤ Z 56 18 ∧ Z 56 18 ≤ 385 := hG.pr 56 18
          have b22 : 0 ≤ Z 57 27 ∧ Z 57 27 ≤ 384 := by have hq := GI_ex hG 57 27; replace hq : f57 (27 % 962) (Z 57 27) := hq; unfold f57 at hq; omega
          have b23 : (-2147483648) ≤ Z 57 27 ∧ Z 57 27 ≤ 2147483647 := hG.pr 57 27
          obtain ⟨Z19, h19, hc19, hx19, hG19, hf19⟩ := ct_210_56 (d := d + 3) (l := l) (D := D) (b0 := b0) (ad := ad) (Hb := Hb) (tau := tau) hx hG (show 1 ≤ (x0 - 1000) / 100 ∧ (x0 - 1000) / 100 ≤ 18 by omega) (show 1 ≤ x0 % 100 ∧ x0 % 100 ≤ 17 by omega) (show hv Z (Z 57 27) ((x0 - 1000) / 100) = 1 by omega)
          refine Jcv0 hx (show mx_Sn _ _ 54 (mx_callv 210 3 12 57) from sn_218 54) a56 s56 hc19 rfl rfl rfl ?_
          refine mx_J.step (sn_218 57) (fun _ _ => rfl) ?_
          exact c76 Z19 h19 hx19 hG19 (fr_tr (M := [(57, (-1)), (62, (-1)), (64, (-1)), (65, (-1))]) fr_rf (hf19) (M1 := []) rfl rfl)
      · skip
        refine mx_J.step (sn_218 20) (fun _ _ => rfl) ?_
        refine JgetR (g := 1) (b := 57) hx (show mx_Sn _ _ 21 (mx_getf 12 1 24) from sn_218 21) a56 s56 rfl rfl (hG.prr 56 1 rfl) ?_
        refine JcI (z := 28) (show mx_Sn _ _ 24 (mx_const (.int 28) 26) from sn_218 24) rfl ?_
        refine mx_J.step (sn_218 26) (fun _ _ => rfl) ?_
        refine JcI (z := 20) (show mx_Sn _ _ 27 (mx_const (.int 20) 29) from sn_218 27) rfl ?_
        refine Jisub (show mx_Sn _ _ 29 (mx_isub 30) from sn_218 29) ?_
        refine JiastI hx (show mx_Sn _ _ 30 (mx_iast 1 31) from sn_218 30) a57 s57 rfl (by omega) (fun Z25 h25 hx25 hE25 => ?_)
        have b26 : 0 ≤ Z 56 18 ∧ Z 56 18 ≤ 385 := hG.pr 56 18
        have hG25 := GI_up57 hG hE25 (show (-2147483648) ≤ x0 - 20 ∧ x0 - 20 ≤ 2147483647 by omega) (show f57 ((28) % 962) (x0 - 20) by first | assumption | (unfold f57; omega) | (unfold f57 at *; omega)) (by omega) (by omega)
        refine mx_J.step (sn_218 31) (fun _ _ => rfl) ?_
        exact c76 Z25 h25 hx25 hG25 (fr_tr (M := [(57, (-1)), (62, (-1)), (64, (-1)), (65, (-1))]) fr_rf (fr_ua hE25) (M1 := []) rfl rfl)
    · skip
      refine mx_J.step (sn_218 6) (fun _ _ => rfl) ?_
      refine mx_J.step (sn_218 7) (fun _ _ => rfl) ?_
      obtain ⟨Z27, h27, hc27, hx27, hG27, hf27⟩ := ct_205_56 (d := d + 0) (l := l) (D := D) (b0 := b0) (ad := ad) (Hb := Hb) (tau := tau) hx hG (show (-2147483648) ≤ x0 ∧ x0 ≤ 2147483647 by omega)
      refine Jcv0 hx (show mx_Sn _ _ 8 (mx_callv 205 2 12 11) from sn_218 8) a56 s56 hc27 rfl rfl rfl ?_
      refine mx_J.step (sn_218 11) (fun _ _ => rfl) ?_
      exact c76 Z27 h27 hx27 hG27 (fr_tr (M := [(57, (-1)), (62, (-1)), (64, (-1)), (65, (-1))]) fr_rf (hf27) (M1 := []) rfl rfl)
theorem ct_218_56 {l : Launch} {D : va_G} {b0 : Nat} {ad : Nat → Nat} {Hb : Heap} {tau : Nat → Int64} {d n s : Nat} {S : Nat → xS} {Z : xZ} {h : mx_H} (hx : XH n s S Z h) (hG : GI n S Z)  {x0 : Int} (p0 : 0 ≤ x0 ∧ x0 ≤ 4999) (k0 : ((0 ≤ x0 ∧ x0 ≤ 18) ∨ (20 ≤ x0 ∧ x0 ≤ 29) ∨ (1000 ≤ x0 ∧ x0 ≤ 2999 ∧ 1 ≤ (x0 - 1000) / 100 ∧ 1 ≤ x0 % 100 ∧ x0 % 100 ≤ (x0 - 1000) / 100 - 1 ∧ (x0 - 1000) / 100 ≤ 18 ∧ hv Z (Z 57 27) ((x0 - 1000) / 100) = 1) ∨ (3000 ≤ x0 ∧ x0 ≤ 4999 ∧ 1 ≤ (x0 - 3000) / 100 ∧ (x0 - 3000) / 100 ≤ 18 ∧ 1 ≤ x0 % 100 ∧ x0 % 100 ≤ 18 ∧ hv Z (Z 57 27) ((x0 - 3000) / 100) = 1 ∧ hv Z (Z 57 27) (x0 % 100) = 1))) : ∃ (Z' : xZ) (h' : mx_H), mx_Ca (tB l D b0 ad Hb tau) (d + 7) 218 [.ref 56, xI x0] h (none, h') ∧ XH n s S Z' h' ∧ GI n S Z' ∧ fr' [(57, (-1)), (62, (-1)), (64, (-1)), (65, (-1))] Z Z' := by
  obtain ⟨r, hca, Z', h', e, q⟩ := Jmt (B := tB l D b0 ad Hb tau) (M := mt_218) (mi := 218) (as := [.ref 56, xI x0]) (d := d + 6) (ls := [some (.ref 56), some (xI x0)]) rfl rfl rfl rfl rfl rfl (cw_218_56 (l := l) (D := D) (b0 := b0) (ad := ad) (Hb := Hb) (tau := tau) (d := d) (Post := fun r => ∃ (Z' : xZ) (h' : mx_H), r = (none, h') ∧ XH n s S Z' h' ∧ GI n S Z' ∧ fr' [(57, (-1)), (62, (-1)), (64, (-1)), (65, (-1))] Z Z') hx hG p0 k0 (fun Z' h' q1 q2 q3 => ⟨Z', h', rfl, q1, q2, q3⟩))
  subst e; exact ⟨Z', h', hca, q⟩
set_option maxRecDepth 100000 in
theorem cw_219_56 {l : Launch} {D : va_G} {b0 : Nat} {ad : Nat → Nat} {Hb : Heap} {tau : Nat → Int64} {d n s : Nat} {S : Nat → xS} {Z : xZ} {h : mx_H} {Post : mx_R → Prop} (hx : XH n s S Z h) (hG : GI n S Z)  {x0 : Int} (p0 : 0 ≤ x0 ∧ x0 ≤ 3) (hP : ∀ (z : Int) (Z' : xZ) (h' : mx_H), XH n s S Z' h' → GI n S Z' → fr' [(56, 22), (57, (-1)), (62, (-1)), (64, (-1)), (65, (-1))] Z Z' → 0 ≤ z ∧ z ≤ 40 → Post (some (xI z), h')) : mx_J (tB l D b0 ad Hb tau) mt_219 (d + 7) 0 [some (.ref 56), some (xI x0), none] [] h Post := by
    have a56 : 56 < n := lt83 (GI_n hG) rfl
    have s56 : S 56 = .inl (12, [0, 2, 2, 2, 2, 0, 0, 0, 0, 0, 0, 0, 0, 0, 0, 2, 2, 2, 0, 2, 2, 2, 0, 0, 2, 2, 2, 2, 2, 2, 0, 0, 2, 2, 2, 2, 2, 2, 2, 2, 2, 2]) := GI_s hG 56 rfl
    have a81 : 81 < n := lt83 (GI_n hG) rfl
    have s81 : S 81 = .inr (.int, 4, 0) := GI_s hG 81 rfl
    have a82 : 82 < n := lt83 (GI_n hG) rfl
    have s82 : S 82 = .inr (.long, 160, 1) := GI_s hG 82 rfl
    refine mx_J.step (sn_219 0) (fun _ _ => rfl) ?_
    refine JcI (z := 0) (show mx_Sn _ _ 1 (mx_const (.int 0) 2) from sn_219 1) rfl ?_
    refine JputI (g := 22) hx (show mx_Sn _ _ 2 (mx_putf 1 12 22 (.int) 5) from sn_219 2) a56 s56 rfl rfl rfl rfl (fun Z1 h1 hx1 hE1 => ?_)
    have hG1 := GI_up hG hE1 (show 0 ≤ 0 ∧ 0 ≤ 2 by omega) trivial rfl
    refine JcI (z := 0) (show mx_Sn _ _ 5 (mx_const (.int 0) 6) from sn_219 5) rfl ?_
    refine mx_J.step (ls2 := [some (.ref 56), some (xI x0), some (xI 0)]) (sn_219 6) (fun _ _ => rfl) ?_
    have c7 : ∀ (m2 : Nat) (w2_2 : Int) (Z3 : xZ) (h3 : mx_H), 40 - w2_2 < (m2 : Int) → 0 ≤ w2_2 ∧ w2_2 ≤ 40 → XH n s S Z3 h3 → GI n S Z3 → fr' [(56, 22), (57, (-1)), (62, (-1)), (64, (-1)), (65, (-1))] Z1 Z3 → mx_J (tB l D b0 ad Hb tau) mt_219 (d + 7) 7 [some (.ref 56), some (xI x0), some (xI w2_2)] [] h3 Post := by
      intro m2
      induction m2 with
      | zero => intro w2_2 Z3 h3 q2 f2_0 hx3 hG3 hf3; exact absurd q2 (by omega)
      | succ m2 ih2 =>
        intro w2_2 Z3 h3 q2 f2_0 hx3 hG3 hf3
        refine mx_J.step (sn_219 7) (fun _ _ => rfl) ?_
        refine mx_J.step (sn_219 8) (fun _ _ => rfl) ?_
        refine JgetR (g := 40) (b := 81) hx3 (show mx_Sn _ _ 9 (mx_getf 12 40 12) from sn_219 9) a56 s56 rfl rfl (hG3.prr 56 40 rfl) ?_
        refine mx_J.step (sn_219 12) (fun _ _ => rfl) ?_
        have b5 : 0 ≤ Z 81 x0 ∧ Z 81 x0 ≤ 40 := hG.pr 81 x0
        refine JialdI (z := Z 81 x0) hx3 (show mx_Sn _ _ 13 (mx_iald 14) from sn_219 13) a81 s81 (by omega) ((hf3 81 x0 rfl).trans (up_nk hE1 rfl)) ?_
        refine Jicmp_ge (show mx_Sn _ _ 14 (mx_icmp_ge 67 17) from sn_219 14) (by omega) (by omega) (fun q6 => ?_) (fun q6 => ?_)
        · skip
          refine mx_J.step (sn_219 67) (fun _ _ => rfl) ?_
          refine JgetR (g := 40) (b := 81) hx3 (show mx_Sn _ _ 68 (mx_getf 12 40 71) from sn_219 68) a56 s56 rfl rfl (hG3.prr 56 40 rfl) ?_
          refine mx_J.step (sn_219 71) (fun _ _ => rfl) ?_
          refine JialdI (z := Z 81 x0) hx3 (show mx_Sn _ _ 72 (mx_iald 73) from sn_219 72) a81 s81 (by omega) ((hf3 81 x0 rfl).trans (up_nk hE1 rfl)) ?_
          exact mx_J.ret (sn_219 73) (fun _ _ => rfl) (hP (Z 81 x0) Z3 h3 hx3 hG3 (fr_tr (M := [(56, 22), (57, (-1)), (62, (-1)), (64, (-1)), (65, (-1))]) (fr_tr (M := [(56, 22), (57, (-1)), (62, (-1)), (64, (-1)), (65, (-1))]) fr_rf (fr_up hE1) (M1 := []) rfl rfl) (hf3) rfl rfl) (by omega))
        · skip
          refine mx_J.step (sn_219 17) (fun _ _ => rfl) ?_
          refine mx_J.step (sn_219 18) (fun _ _ => rfl) ?_
          refine mx_J.step (sn_219 19) (fun _ _ => rfl) ?_
          refine JgetR (g := 41) (b := 82) hx3 (show mx_Sn _ _ 20 (mx_getf 12 41 23) from sn_219 20) a56 s56 rfl rfl (hG3.prr 56 41 rfl) ?_
          refine JcI (z := 40) (show mx_Sn _ _ 23 (mx_const (.int 40) 25) from sn_219 23) rfl ?_
          refine mx_J.step (sn_219 25) (fun _ _ => rfl) ?_
          refine Jimul (show mx_Sn _ _ 26 (mx_imul 27) from sn_219 26) ?_
          refine mx_J.step (sn_219 27) (fun _ _ => rfl) ?_
          refine Jiadd (show mx_Sn _ _ 28 (mx_iadd 29) from sn_219 28) ?_
          have b9 : (-9223372036854775808) ≤ Z 82 ((40 * x0) + w2_2) ∧ Z 82 ((40 * x0) + w2_2) ≤ 9223372036854775807 := hG.pr 82 ((40 * x0) + w2_2)
          refine JlaldL (z := Z 82 ((40 * x0) + w2_2)) hx3 (show mx_Sn _ _ 29 (mx_lald 30) from sn_219 29) a82 s82 (by omega) ((hf3 82 ((40 * x0) + w2_2) rfl).trans (up_nk hE1 rfl)) ?_
          have b11 := GI_st hG3 27
          have eq12 : Z3 56 18 = Z 56 18 := ((hf3 56 18 rfl).trans (up_ni hE1 (by decide)))
          have b13 : 0 ≤ Z 56 18 ∧ Z 56 18 ≤ 385 := hG.pr 56 18
          have b14 : 0 ≤ Z3 57 27 ∧ Z3 57 27 ≤ 384 := by have hq := GI_ex hG3 57 27; replace hq : f57 (27 % 962) (Z3 57 27) := hq; unfold f57 at hq; omega
          have b15 : (-2147483648) ≤ Z3 57 27 ∧ Z3 57 27 ≤ 2147483647 := hG3.pr 57 27
          have eq16 : hv Z3 (Z3 57 27) (((Z 82 ((40 * x0) + w2_2)) - 1000) / 100) = hv Z (Z3 57 27) (((Z 82 ((40 * x0) + w2_2)) - 1000) / 100) := ((hv_c (fun i => hf3 61 i rfl)).trans (hv_c (fun i => up_nk hE1 rfl)))
          have eq17 : hv Z3 (Z3 57 27) (((Z 82 ((40 * x0) + w2_2)) - 3000) / 100) = hv Z (Z3 57 27) (((Z 82 ((40 * x0) + w2_2)) - 3000) / 100) := ((hv_c (fun i => hf3 61 i rfl)).trans (hv_c (fun i => up_nk hE1 rfl)))
          have eq18 : hv Z3 (Z3 57 27) ((Z 82 ((40 * x0) + w2_2)) % 100) = hv Z (Z3 57 27) ((Z 82 ((40 * x0) + w2_2)) % 100) := ((hv_c (fun i => hf3 61 i rfl)).trans (hv_c (fun i => up_nk hE1 rfl)))
          obtain ⟨z10, hc10, b10⟩ := ct_217_56 (d := d + 3) (l := l) (D := D) (b0 := b0) (ad := ad) (Hb := Hb) (tau := tau) hx3 hG3 (show (-9223372036854775808) ≤ Z 82 ((40 * x0) + w2_2) ∧ Z 82 ((40 * x0) + w2_2) ≤ 9223372036854775807 by omega)
          refine Jcv hx3 (show mx_Sn _ _ 30 (mx_callv 217 2 12 33) from sn_219 30) a56 s56 hc10 rfl rfl rfl ?_
          refine JputI (g := 22) hx3 (show mx_Sn _ _ 33 (mx_putf 1 12 22 (.int) 36) from sn_219 33) a56 s56 rfl rfl rfl rfl (fun Z19 h19 hx19 hE19 => ?_)
          have hG19 := GI_up hG3 hE19 (show 0 ≤ z10 ∧ z10 ≤ 2 by omega) trivial rfl
          refine mx_J.step (sn_219 36) (fun _ _ => rfl) ?_
          refine JgetI (g := 22) (z := z10) hx19 (show mx_Sn _ _ 37 (mx_getf 12 22 40) from sn_219 37) a56 s56 rfl rfl (up_at hE19) ?_
          refine Jif_eq (show mx_Sn _ _ 40 (mx_if_eq 45 43) from sn_219 40) (by omega) (fun q21 => ?_) (fun q21 => ?_)
          · skip
            refine mx_J.step (sn_219 45) (fun _ _ => rfl) ?_
            refine mx_J.step (sn_219 46) (fun _ _ => rfl) ?_
            refine JgetR (g := 41) (b := 82) hx19 (show mx_Sn _ _ 47 (mx_getf 12 41 50) from sn_219 47) a56 s56 rfl rfl (hG19.prr 56 41 rfl) ?_
            refine JcI (z := 40) (show mx_Sn _ _ 50 (mx_const (.int 40) 52) from sn_219 50) rfl ?_
            refine mx_J.step (sn_219 52) (fun _ _ => rfl) ?_
            refine Jimul (show mx_Sn _ _ 53 (mx_imul 54) from sn_219 53) ?_
            refine mx_J.step (sn_219 54) (fun _ _ => rfl) ?_
            refine Jiadd (show mx_Sn _ _ 55 (mx_iadd 56) from sn_219 55) ?_
            refine JlaldL (z := Z 82 ((40 * x0) + w2_2)) hx19 (show mx_Sn _ _ 56 (mx_lald 57) from sn_219 56) a82 s82 (by omega) ((up_nk hE19 rfl).trans ((hf3 82 ((40 * x0) + w2_2) rfl).trans (up_nk hE1 rfl))) ?_
            refine Jl2i (show mx_Sn _ _ 57 (mx_l2i 58) from sn_219 57) ?_
            have eq24 : Z19 57 27 = Z3 57 27 := (up_nk hE19 rfl)
            have eq25 : hv Z19 (Z19 57 27) (((Z 82 ((40 * x0) + w2_2)) - 1000) / 100) = hv Z (Z3 57 27) (((Z 82 ((40 * x0) + w2_2)) - 1000) / 100) := by rw [(show Z19 57 27 = Z3 57 27 from (up_nk hE19 rfl))]; exact ((hv_c (fun i => up_nk hE19 rfl)).trans ((hv_c (fun i => hf3 61 i rfl)).trans (hv_c (fun i => up_nk hE1 rfl))))
            have eq26 : hv Z19 (Z3 57 27) (((Z 82 ((40 * x0) + w2_2)) - 1000) / 100) = hv Z (Z3 57 27) (((Z 82 ((40 * x0) + w2_2)) - 1000) / 100) := ((hv_c (fun i => up_nk hE19 rfl)).trans ((hv_c (fun i => hf3 61 i rfl)).trans (hv_c (fun i => up_nk hE1 rfl))))
            have eq27 : hv Z19 (Z19 57 27) (((Z 82 ((40 * x0) + w2_2)) - 3000) / 100) = hv Z (Z3 57 27) (((Z 82 ((40 * x0) + w2_2)) - 3000) / 100) := by rw [(show Z19 57 27 = Z3 57 27 from (up_nk hE19 rfl))]; exact ((hv_c (fun i => up_nk hE19 rfl)).trans ((hv_c (fun i => hf3 61 i rfl)).trans (hv_c (fun i => up_nk hE1 rfl))))
            have eq28 : hv Z19 (Z3 57 27) (((Z 82 ((40 * x0) + w2_2)) - 3000) / 100) = hv Z (Z3 57 27) (((Z 82 ((40 * x0) + w2_2)) - 3000) / 100) := ((hv_c (fun i => up_nk hE19 rfl)).trans ((hv_c (fun i => hf3 61 i rfl)).trans (hv_c (fun i => up_nk hE1 rfl))))
            have eq29 : hv Z19 (Z19 57 27) ((Z 82 ((40 * x0) + w2_2)) % 100) = hv Z (Z3 57 27) ((Z 82 ((40 * x0) + w2_2)) % 100) := by rw [(show Z19 57 27 = Z3 57 27 from (up_nk hE19 rfl))]; exact ((hv_c (fun i => up_nk hE19 rfl)).trans ((hv_c (fun i => hf3 61 i rfl)).trans (hv_c (fun i => up_nk hE1 rfl))))
            have eq30 : hv Z19 (Z3 57 27) ((Z 82 ((40 * x0) + w2_2)) % 100) = hv Z (Z3 57 27) ((Z 82 ((40 * x0) + w2_2)) % 100) := ((hv_c (fun i => up_nk hE19 rfl)).trans ((hv_c (fun i => hf3 61 i rfl)).trans (hv_c (fun i => up_nk hE1 rfl))))
            obtain ⟨Z23, h23, hc23, hx23, hG23, hf23⟩ := ct_218_56 (d := d + 0) (l := l) (D := D) (b0 := b0) (ad := ad) (Hb := Hb) (tau := tau) hx19 hG19 (show 0 ≤ Z 82 ((40 * x0) + w2_2) ∧ Z 82 ((40 * x0) + w2_2) ≤ 4999 by omega) (show ((0 ≤ (Z 82 ((40 * x0) + w2_2)) ∧ (Z 82 ((40 * x0) + w2_2)) ≤ 18) ∨ (20 ≤ (Z 82 ((40 * x0) + w2_2)) ∧ (Z 82 ((40 * x0) + w2_2)) ≤ 29) ∨ (1000 ≤ (Z 82 ((40 * x0) + w2_2)) ∧ (Z 82 ((40 * x0) + w2_2)) ≤ 2999 ∧ 1 ≤ ((Z 82 ((40 * x0) + w2_2)) - 1000) / 100 ∧ 1 ≤ (Z 82 ((40 * x0) + w2_2)) % 100 ∧ (Z 82 ((40 * x0) + w2_2)) % 100 ≤ ((Z 82 ((40 * x0) + w2_2)) - 1000) / 100 - 1 ∧ ((Z 82 ((40 * x0) + w2_2)) - 1000) / 100 ≤ 18 ∧ hv Z19 (Z19 57 27) (((Z 82 ((40 * x0) + w2_2)) - 1000) / 100) = 1) ∨ (3000 ≤ (Z 82 ((40 * x0) + w2_2)) ∧ (Z 82 ((40 * x0) + w2_2)) ≤ 4999 ∧ 1 ≤ ((Z 82 ((40 * x0) + w2_2)) - 3000) / 100 ∧ ((Z 82 ((40 * x0) + w2_2)) - 3000) / 100 ≤ 18 ∧ 1 ≤ (Z 82 ((40 * x0) + w2_2)) % 100 ∧ (Z 82 ((40 * x0) + w2_2)) % 100 ≤ 18 ∧ hv Z19 (Z19 57 27) (((Z 82 ((40 * x0) + w2_2)) - 3000) / 100) = 1 ∧ hv Z19 (Z19 57 27) ((Z 82 ((40 * x0) + w2_2)) % 100) = 1)) by first | omega | (simp only [eq24]; omega))
            refine Jcv0 hx19 (show mx_Sn _ _ 58 (mx_callv 218 2 12 61) from sn_219 58) a56 s56 hc23 rfl rfl rfl ?_
            refine Jiinc (z := w2_2) (cz := 1) (ls2 := [some (.ref 56), some (xI x0), some (xI (w2_2 + 1))]) (show mx_Sn _ _ 61 (mx_iinc 2 1 64) from sn_219 61) rfl rfl rfl rfl ?_
            refine mx_J.step (sn_219 64) (fun _ _ => rfl) ?_
            exact ih2 (w2_2 + 1) Z23 h23 (by omega) (by omega) hx23 hG23 (fr_tr (M := [(56, 22), (57, (-1)), (62, (-1)), (64, (-1)), (65, (-1))]) (fr_tr (M := [(56, 22), (57, (-1)), (62, (-1)), (64, (-1)), (65, (-1))]) (fr_tr (M := [(56, 22), (57, (-1)), (62, (-1)), (64, (-1)), (65, (-1))]) fr_rf (hf3) (M1 := []) rfl rfl) (fr_up hE19) rfl rfl) (hf23) rfl rfl)
          · skip
            refine mx_J.step (sn_219 43) (fun _ _ => rfl) ?_
            exact mx_J.ret (sn_219 44) (fun _ _ => rfl) (hP w2_2 Z19 h19 hx19 hG19 (fr_tr (M := [(56, 22), (57, (-1)), (62, (-1)), (64, (-1)), (65, (-1))]) (fr_tr (M := [(56, 22), (57, (-1)), (62, (-1)), (64, (-1)), (65, (-1))]) (fr_tr (M := [(56, 22), (57, (-1)), (62, (-1)), (64, (-1)), (65, (-1))]) fr_rf (fr_up hE1) (M1 := []) rfl rfl) (hf3) rfl rfl) (fr_up hE19) rfl rfl) (by omega))
    exact c7 (Int.toNat (40 - 0) + 1) 0 Z1 h1 (by omega) (by omega) hx1 hG1 fr_rf
theorem ct_219_56 {l : Launch} {D : va_G} {b0 : Nat} {ad : Nat → Nat} {Hb : Heap} {tau : Nat → Int64} {d n s : Nat} {S : Nat → xS} {Z : xZ} {h : mx_H} (hx : XH n s S Z h) (hG : GI n S Z)  {x0 : Int} (p0 : 0 ≤ x0 ∧ x0 ≤ 3) : ∃ (z : Int) (Z' : xZ) (h' : mx_H), mx_Ca (tB l D b0 ad Hb tau) (d + 8) 219 [.ref 56, xI x0] h (some (xI z), h') ∧ XH n s S Z' h' ∧ GI n S Z' ∧ fr' [(56, 22), (57, (-1)), (62, (-1)), (64, (-1)), (65, (-1))] Z Z' ∧ (0 ≤ z ∧ z ≤ 40) := by
  obtain ⟨r, hca, z, Z', h', e, q⟩ := Jmt (B := tB l D b0 ad Hb tau) (M := mt_219) (mi := 219) (as := [.ref 56, xI x0]) (d := d + 7) (ls := [some (.ref 56), some (xI x0), none]) rfl rfl rfl rfl rfl rfl (cw_219_56 (l := l) (D := D) (b0 := b0) (ad := ad) (Hb := Hb) (tau := tau) (d := d) (Post := fun r => ∃ (z : Int) (Z' : xZ) (h' : mx_H), r = (some (xI z), h') ∧ XH n s S Z' h' ∧ GI n S Z' ∧ fr' [(56, 22), (57, (-1)), (62, (-1)), (64, (-1)), (65, (-1))] Z Z' ∧ (0 ≤ z ∧ z ≤ 40)) hx hG p0 (fun z Z' h' q1 q2 q3 q4 => ⟨z, Z', h', rfl, q1, q2, q3, q4⟩))
  subst e; exact ⟨z, Z', h', hca, q⟩
set_option maxRecDepth 100000 in
theorem cw_221_56 {l : Launch} {D : va_G} {b0 : Nat} {ad : Nat → Nat} {Hb : Heap} {tau : Nat → Int64} {d n s : Nat} {S : Nat → xS} {Z : xZ} {h : mx_H} {Post : mx_R → Prop} (hx : XH n s S Z h) (hG : GI n S Z)  {x0 x1 : Int} (p0 : (-2147483648) ≤ x0 ∧ x0 ≤ 2147483647) (p1 : (-2147483648) ≤ x1 ∧ x1 ≤ 2147483647) (hP : ∀ (z : Int) (Z' : xZ) (h' : mx_H), XH n s S Z' h' → GI n S Z' → fr' [(56, 0), (56, 22), (57, (-1)), (62, (-1)), (64, (-1)), (65, (-1)), (66, (-1))] Z Z' → (-6) ≤ z ∧ z ≤ 384 → Post (some (xI z), h')) : mx_J (tB l D b0 ad Hb tau) mt_221 (d + 8) 0 [some (.ref 56), some (xI x0), some (xI x1), none, none, none] [] h Post := by
    have a56 : 56 < n := lt83 (GI_n hG) rfl
    have s56 : S 56 = .inl (12, [0, 2, 2, 2, 2, 0, 0, 0, 0, 0, 0, 0, 0, 0, 0, 2, 2, 2, 0, 2, 2, 2, 0, 0, 2, 2, 2, 2, 2, 2, 0, 0, 2, 2, 2, 2, 2, 2, 2, 2, 2, 2]) := GI_s hG 56 rfl
    have a57 : 57 < n := lt83 (GI_n hG) rfl
    have s57 : S 57 = .inr (.int, 2886, 0) := GI_s hG 57 rfl
    refine mx_J.step (sn_221 0) (fun _ _ => rfl) ?_
    refine JcI (z := 0) (show mx_Sn _ _ 1 (mx_const (.int 0) 2) from sn_221 1) rfl ?_
    refine JputI (g := 0) hx (show mx_Sn _ _ 2 (mx_putf 1 12 0 (.int) 5) from sn_221 2) a56 s56 rfl rfl rfl rfl (fun Z1 h1 hx1 hE1 => ?_)
    have hG1 := GI_up hG hE1 (show (-2147483648) ≤ 0 ∧ 0 ≤ 2147483647 by omega) trivial rfl
    refine mx_J.step (sn_221 5) (fun _ _ => rfl) ?_
    refine Ji2l (show mx_Sn _ _ 6 (mx_i2l 7) from sn_221 6) (by omega) ?_
    refine JcL (z := 0) (show mx_Sn _ _ 7 (mx_const (.long 0) 8) from sn_221 7) rfl ?_
    refine JcL (z := 3) (show mx_Sn _ _ 8 (mx_const (.long 3) 11) from sn_221 8) rfl ?_
    obtain ⟨z2, hc2, b2⟩ := ct_154_ (d := d + 7) (l := l) (D := D) (b0 := b0) (ad := ad) (Hb := Hb) (tau := tau) hx1 hG1 (show (-9223372036854775808) ≤ x1 ∧ x1 ≤ 9223372036854775807 by omega) (show (-9223372036854775808) ≤ 0 ∧ 0 ≤ 9223372036854775807 by omega) (show (-9223372036854775808) ≤ 3 ∧ 3 ≤ 9223372036854775807 by omega)
    refine Jcs (show mx_Sn _ _ 11 (mx_calls 154 3 14) from sn_221 11) hc2 rfl rfl rfl ?_
    refine Jif_ne (show mx_Sn _ _ 14 (mx_if_ne 20 17) from sn_221 14) (by omega) (fun q3 => ?_) (fun q3 => ?_)
    · skip
      refine mx_J.step (sn_221 20) (fun _ _ => rfl) ?_
      refine mx_J.step (sn_221 21) (fun _ _ => rfl) ?_
      have eq5 : Z1 80 x0 = Z 80 x0 := (up_nk hE1 rfl)
      have b6 : (-1) ≤ Z 80 x0 ∧ Z 80 x0 ≤ 3 := hG.pr 80 x0
      obtain ⟨z4, hc4, b4⟩ := ct_220_56 (d := d + 6) (l := l) (D := D) (b0 := b0) (ad := ad) (Hb := Hb) (tau := tau) hx1 hG1 (show (-2147483648) ≤ x0 ∧ x0 ≤ 2147483647 by omega)
      try rw [eq5] at b4
      refine Jcv hx1 (show mx_Sn _ _ 22 (mx_callv 220 2 12 25) from sn_221 22) a56 s56 hc4 rfl rfl rfl ?_
      refine mx_J.step (ls2 := [some (.ref 56), some (xI x0), some (xI x1), some (xI z4), none, none]) (sn_221 25) (fun _ _ => rfl) ?_
      refine mx_J.step (sn_221 26) (fun _ _ => rfl) ?_
      refine Jif_eq (show mx_Sn _ _ 27 (mx_if_eq 32 30) from sn_221 27) (by omega) (fun q7 => ?_) (fun q7 => ?_)
      · skip
        refine mx_J.step (sn_221 32) (fun _ _ => rfl) ?_
        have eq9 : Z1 57 27 = Z 57 27 := (up_nk hE1 rfl)
        have b10 := GI_st hG 27
        have b11 : 0 ≤ Z 56 18 ∧ Z 56 18 ≤ 385 := hG.pr 56 18
        have b12 : 0 ≤ Z 57 27 ∧ Z 57 27 ≤ 384 := by have hq := GI_ex hG 57 27; replace hq : f57 (27 % 962) (Z 57 27) := hq; unfold f57 at hq; omega
        have b13 : (-2147483648) ≤ Z 57 27 ∧ Z 57 27 ≤ 2147483647 := hG.pr 57 27
        obtain ⟨Z8, h8, hc8, hx8, hG8, hf8, b8⟩ := ct_202_56 (d := d + 7) (l := l) (D := D) (b0 := b0) (ad := ad) (Hb := Hb) (tau := tau) hx1 hG1 
        try rw [eq9] at b8
        have b14 : (-2147483648) ≤ Z8 66 0 ∧ Z8 66 0 ≤ 2147483647 := hG8.pr 66 0
        have b15 : (((0 : Int) = 0 → 0 ≤ (Z8 66 0) ∧ (Z8 66 0) ≤ 384) ∧ ((0 : Int) = 1 → 0 ≤ (Z8 66 0) ∧ (Z8 66 0) ≤ 9)) := GI_ex hG8 66 0
        refine Jcv0 hx1 (show mx_Sn _ _ 33 (mx_callv 202 1 12 36) from sn_221 33) a56 s56 hc8 rfl rfl rfl ?_
        refine mx_J.step (sn_221 36) (fun _ _ => rfl) ?_
        refine mx_J.step (sn_221 37) (fun _ _ => rfl) ?_
        obtain ⟨z16, Z16, h16, hc16, hx16, hG16, hf16, b16⟩ := ct_219_56 (d := d + 0) (l := l) (D := D) (b0 := b0) (ad := ad) (Hb := Hb) (tau := tau) hx8 hG8 (show 0 ≤ x0 ∧ x0 ≤ 3 by omega)
        refine Jcv hx8 (show mx_Sn _ _ 38 (mx_callv 219 2 12 41) from sn_221 38) a56 s56 hc16 rfl rfl rfl ?_
        refine mx_J.step (ls2 := [some (.ref 56), some (xI x0), some (xI x1), some (xI z4), some (xI z16), none]) (sn_221 41) (fun _ _ => rfl) ?_
        refine mx_J.step (sn_221 43) (fun _ _ => rfl) ?_
        refine JgetR (g := 1) (b := 57) hx16 (show mx_Sn _ _ 44 (mx_getf 12 1 47) from sn_221 44) a56 s56 rfl rfl (hG16.prr 56 1 rfl) ?_
        refine JcI (z := 27) (show mx_Sn _ _ 47 (mx_const (.int 27) 49) from sn_221 47) rfl ?_
        have b18 := GI_st hG16 27
        have eq19 : Z16 56 18 = Z 56 18 := ((hf16 56 18 rfl).trans ((hf8 56 18 rfl).trans (up_ni hE1 (by decide))))
        have b20 : 0 ≤ Z16 57 27 ∧ Z16 57 27 ≤ 384 := by have hq := GI_ex hG16 57 27; replace hq : f57 (27 % 962) (Z16 57 27) := hq; unfold f57 at hq; omega
        have b21 : (-2147483648) ≤ Z16 57 27 ∧ Z16 57 27 ≤ 2147483647 := hG16.pr 57 27
        refine JialdI (z := Z16 57 27) hx16 (show mx_Sn _ _ 49 (mx_iald 50) from sn_221 49) a57 s57 (by omega) rfl ?_
        refine mx_J.step (ls2 := [some (.ref 56), some (xI x0), some (xI x1), some (xI z4), some (xI z16), some (xI (Z16 57 27))]) (sn_221 50) (fun _ _ => rfl) ?_
        refine mx_J.step (sn_221 52) (fun _ _ => rfl) ?_
        have eq23 : Z16 66 0 = Z8 66 0 := (hf16 66 0 rfl)
        have eq24 : Z16 56 18 = Z 56 18 := ((hf16 56 18 rfl).trans ((hf8 56 18 rfl).trans (up_ni hE1 (by decide))))
        obtain ⟨Z22, h22, hc22, hx22, hG22, hf22⟩ := ct_203_56 (d := d + 7) (l := l) (D := D) (b0 := b0) (ad := ad) (Hb := Hb) (tau := tau) hx16 hG16  (show Z16 66 0 < Z16 56 18 by first | omega | (simp only [eq23, eq24]; omega))
        refine Jcv0 hx16 (show mx_Sn _ _ 53 (mx_callv 203 1 12 56) from sn_221 53) a56 s56 hc22 rfl rfl rfl ?_
        refine mx_J.step (sn_221 56) (fun _ _ => rfl) ?_
        have c104 : ∀ (k25_0 : Int), (-1) ≤ k25_0 ∧ k25_0 ≤ 384 → mx_J (tB l D b0 ad Hb tau) mt_221 (d + 8) 104 [some (.ref 56), some (xI x0), some (xI x1), some (xI z4), some (xI z16), some (xI (Z16 57 27))] [xI k25_0] h22 Post := by
          intro k25_0 f25_0
          exact mx_J.ret (sn_221 104) (fun _ _ => rfl) (hP k25_0 Z22 h22 hx22 hG22 (fr_tr (M := [(56, 0), (56, 22), (57, (-1)), (62, (-1)), (64, (-1)), (65, (-1)), (66, (-1))]) (fr_tr (M := [(56, 0), (56, 22), (57, (-1)), (62, (-1)), (64, (-1)), (65, (-1)), (66, (-1))]) (fr_tr (M := [(56, 0), (56, 22), (57, (-1)), (62, (-1)), (64, (-1)), (65, (-1)), (66, (-1))]) (fr_tr (M := [(56, 0), (56, 22), (57, (-1)), (62, (-1)), (64, (-1)), (65, (-1)), (66, (-1))]) fr_rf (fr_up hE1) (M1 := []) rfl rfl) (hf8) rfl rfl) (hf16) rfl rfl) (hf22) rfl rfl) (by omega))
        refine Jif_ne (show mx_Sn _ _ 57 (mx_if_ne 76 60) from sn_221 57) (by omega) (fun q26 => ?_) (fun q26 => ?_)
        · skip
          refine mx_J.step (sn_221 76) (fun _ _ => rfl) ?_
          refine JcI (z := 1) (show mx_Sn _ _ 77 (mx_const (.int 1) 78) from sn_221 77) rfl ?_
          refine Jicmp_ne (show mx_Sn _ _ 78 (mx_icmp_ne 88 81) from sn_221 78) (by omega) (by omega) (fun q27 => ?_) (fun q27 => ?_)
          · skip
            refine mx_J.step (sn_221 88) (fun _ _ => rfl) ?_
            refine JcI (z := 2) (show mx_Sn _ _ 89 (mx_const (.int 2) 90) from sn_221 89) rfl ?_
            refine Jicmp_ne (show mx_Sn _ _ 90 (mx_icmp_ne 102 93) from sn_221 90) (by omega) (by omega) (fun q28 => ?_) (fun q28 => ?_)
            · skip
              refine mx_J.step (sn_221 102) (fun _ _ => rfl) ?_
              exact c104 (Z16 57 27) (by omega)
            · skip
              refine mx_J.step (sn_221 93) (fun _ _ => rfl) ?_
              refine mx_J.step (sn_221 94) (fun _ _ => rfl) ?_
              have eq30 : mn Z22 (Z16 57 27) = mn Z (Z16 57 27) := ((mn_c (fun i => hf22 61 i rfl)).trans ((mn_c (fun i => hf16 61 i rfl)).trans ((mn_c (fun i => hf8 61 i rfl)).trans (mn_c (fun i => up_nk hE1 rfl)))))
              obtain ⟨z29, hc29, b29⟩ := ct_191_56 (d := d + 6) (l := l) (D := D) (b0 := b0) (ad := ad) (Hb := Hb) (tau := tau) hx22 hG22 (show 0 ≤ Z16 57 27 ∧ Z16 57 27 ≤ 384 by omega)
              refine Jcv hx22 (show mx_Sn _ _ 96 (mx_callv 191 2 12 99) from sn_221 96) a56 s56 hc29 rfl rfl rfl ?_
              refine mx_J.step (sn_221 99) (fun _ _ => rfl) ?_
              exact c104 z29 (by omega)
          · skip
            refine mx_J.step (sn_221 81) (fun _ _ => rfl) ?_
            have b32 : 0 ≤ Z16 56 22 ∧ Z16 56 22 ≤ 2 := hG16.pr 56 22
            refine JgetI (g := 22) (z := Z16 56 22) hx22 (show mx_Sn _ _ 82 (mx_getf 12 22 85) from sn_221 82) a56 s56 rfl rfl (hf22 56 22 rfl) ?_
            refine mx_J.step (sn_221 85) (fun _ _ => rfl) ?_
            exact c104 (Z16 56 22) (by omega)
        · skip
          refine mx_J.step (sn_221 60) (fun _ _ => rfl) ?_
          have b34 : 0 ≤ Z16 56 22 ∧ Z16 56 22 ≤ 2 := hG16.pr 56 22
          refine JgetI (g := 22) (z := Z16 56 22) hx22 (show mx_Sn _ _ 61 (mx_getf 12 22 64) from sn_221 61) a56 s56 rfl rfl (hf22 56 22 rfl) ?_
          refine Jif_ne (show mx_Sn _ _ 64 (mx_if_ne 71 67) from sn_221 64) (by omega) (fun q35 => ?_) (fun q35 => ?_)
          · skip
            refine mx_J.step (sn_221 71) (fun _ _ => rfl) ?_
            refine mx_J.step (sn_221 73) (fun _ _ => rfl) ?_
            exact c104 z16 (by omega)
          · skip
            refine JcI (z := (-1)) (show mx_Sn _ _ 67 (mx_const (.int (-1)) 68) from sn_221 67) rfl ?_
            refine mx_J.step (sn_221 68) (fun _ _ => rfl) ?_
            exact c104 (-1) (by omega)
      · skip
        refine mx_J.step (sn_221 30) (fun _ _ => rfl) ?_
        exact mx_J.ret (sn_221 31) (fun _ _ => rfl) (hP z4 Z1 h1 hx1 hG1 (fr_tr (M := [(56, 0), (56, 22), (57, (-1)), (62, (-1)), (64, (-1)), (65, (-1)), (66, (-1))]) fr_rf (fr_up hE1) (M1 := []) rfl rfl) (by omega))
    · skip
      refine JcI (z := (-2)) (show mx_Sn _ _ 17 (mx_const (.int (-2)) 19) from sn_221 17) rfl ?_
      exact mx_J.ret (sn_221 19) (fun _ _ => rfl) (hP (-2) Z1 h1 hx1 hG1 (fr_tr (M := [(56, 0), (56, 22), (57, (-1)), (62, (-1)), (64, (-1)), (65, (-1)), (66, (-1))]) fr_rf (fr_up hE1) (M1 := []) rfl rfl) (by omega))
theorem ct_221_56 {l : Launch} {D : va_G} {b0 : Nat} {ad : Nat → Nat} {Hb : Heap} {tau : Nat → Int64} {d n s : Nat} {S : Nat → xS} {Z : xZ} {h : mx_H} (hx : XH n s S Z h) (hG : GI n S Z)  {x0 x1 : Int} (p0 : (-2147483648) ≤ x0 ∧ x0 ≤ 2147483647) (p1 : (-2147483648) ≤ x1 ∧ x1 ≤ 2147483647) : ∃ (z : Int) (Z' : xZ) (h' : mx_H), mx_Ca (tB l D b0 ad Hb tau) (d + 9) 221 [.ref 56, xI x0, xI x1] h (some (xI z), h') ∧ XH n s S Z' h' ∧ GI n S Z' ∧ fr' [(56, 0), (56, 22), (57, (-1)), (62, (-1)), (64, (-1)), (65, (-1)), (66, (-1))] Z Z' ∧ ((-6) ≤ z ∧ z ≤ 384) := by
  obtain ⟨r, hca, z, Z', h', e, q⟩ := Jmt (B := tB l D b0 ad Hb tau) (M := mt_221) (mi := 221) (as := [.ref 56, xI x0, xI x1]) (d := d + 8) (ls := [some (.ref 56), some (xI x0), some (xI x1), none, none, none]) rfl rfl rfl rfl rfl rfl (cw_221_56 (l := l) (D := D) (b0 := b0) (ad := ad) (Hb := Hb) (tau := tau) (d := d) (Post := fun r => ∃ (z : Int) (Z' : xZ) (h' : mx_H), r = (some (xI z), h') ∧ XH n s S Z' h' ∧ GI n S Z' ∧ fr' [(56, 0), (56, 22), (57, (-1)), (62, (-1)), (64, (-1)), (65, (-1)), (66, (-1))] Z Z' ∧ ((-6) ≤ z ∧ z ≤ 384)) hx hG p0 p1 (fun z Z' h' q1 q2 q3 q4 => ⟨z, Z', h', rfl, q1, q2, q3, q4⟩))
  subst e; exact ⟨z, Z', h', hca, q⟩
set_option maxRecDepth 100000 in
theorem cw_222_56 {l : Launch} {D : va_G} {b0 : Nat} {ad : Nat → Nat} {Hb : Heap} {tau : Nat → Int64} {d n s : Nat} {S : Nat → xS} {Z : xZ} {h : mx_H} {Post : mx_R → Prop} (hx : XH n s S Z h) (hG : GI n S Z)  {x0 : Int} (p0 : (-2147483648) ≤ x0 ∧ x0 ≤ 2147483647) (hP : ∀ (z : Int) (Z' : xZ) (h' : mx_H), XH n s S Z' h' → GI n S Z' → fr' [(56, 0), (56, 22), (57, (-1)), (62, (-1)), (64, (-1)), (65, (-1)), (66, (-1))] Z Z' → (-6) ≤ z ∧ z ≤ 40 → Post (some (xI z), h')) : mx_J (tB l D b0 ad Hb tau) mt_222 (d + 8) 0 [some (.ref 56), some (xI x0), none, none] [] h Post := by
    have a56 : 56 < n := lt83 (GI_n hG) rfl
    have s56 : S 56 = .inl (12, [0, 2, 2, 2, 2, 0, 0, 0, 0, 0, 0, 0, 0, 0, 0, 2, 2, 2, 0, 2, 2, 2, 0, 0, 2, 2, 2, 2, 2, 2, 0, 0, 2, 2, 2, 2, 2, 2, 2, 2, 2, 2]) := GI_s hG 56 rfl
    refine mx_J.step (sn_222 0) (fun _ _ => rfl) ?_
    refine JcI (z := 0) (show mx_Sn _ _ 1 (mx_const (.int 0) 2) from sn_222 1) rfl ?_
    refine JputI (g := 0) hx (show mx_Sn _ _ 2 (mx_putf 1 12 0 (.int) 5) from sn_222 2) a56 s56 rfl rfl rfl rfl (fun Z1 h1 hx1 hE1 => ?_)
    have hG1 := GI_up hG hE1 (show (-2147483648) ≤ 0 ∧ 0 ≤ 2147483647 by omega) trivial rfl
    refine mx_J.step (sn_222 5) (fun _ _ => rfl) ?_
    refine mx_J.step (sn_222 6) (fun _ _ => rfl) ?_
    have eq3 : Z1 80 x0 = Z 80 x0 := (up_nk hE1 rfl)
    have b4 : (-1) ≤ Z 80 x0 ∧ Z 80 x0 ≤ 3 := hG.pr 80 x0
    obtain ⟨z2, hc2, b2⟩ := ct_220_56 (d := d + 6) (l := l) (D := D) (b0 := b0) (ad := ad) (Hb := Hb) (tau := tau) hx1 hG1 (show (-2147483648) ≤ x0 ∧ x0 ≤ 2147483647 by omega)
    try rw [eq3] at b2
    refine Jcv hx1 (show mx_Sn _ _ 7 (mx_callv 220 2 12 10) from sn_222 7) a56 s56 hc2 rfl rfl rfl ?_
    refine mx_J.step (ls2 := [some (.ref 56), some (xI x0), some (xI z2), none]) (sn_222 10) (fun _ _ => rfl) ?_
    refine mx_J.step (sn_222 11) (fun _ _ => rfl) ?_
    refine Jif_eq (show mx_Sn _ _ 12 (mx_if_eq 17 15) from sn_222 12) (by omega) (fun q5 => ?_) (fun q5 => ?_)
    · skip
      refine mx_J.step (sn_222 17) (fun _ _ => rfl) ?_
      have eq7 : Z1 57 27 = Z 57 27 := (up_nk hE1 rfl)
      have b8 := GI_st hG 27
      have b9 : 0 ≤ Z 56 18 ∧ Z 56 18 ≤ 385 := hG.pr 56 18
      have b10 : 0 ≤ Z 57 27 ∧ Z 57 27 ≤ 384 := by have hq := GI_ex hG 57 27; replace hq : f57 (27 % 962) (Z 57 27) := hq; unfold f57 at hq; omega
      have b11 : (-2147483648) ≤ Z 57 27 ∧ Z 57 27 ≤ 2147483647 := hG.pr 57 27
      obtain ⟨Z6, h6, hc6, hx6, hG6, hf6, b6⟩ := ct_202_56 (d := d + 7) (l := l) (D := D) (b0 := b0) (ad := ad) (Hb := Hb) (tau := tau) hx1 hG1 
      try rw [eq7] at b6
      have b12 : (-2147483648) ≤ Z6 66 0 ∧ Z6 66 0 ≤ 2147483647 := hG6.pr 66 0
      have b13 : (((0 : Int) = 0 → 0 ≤ (Z6 66 0) ∧ (Z6 66 0) ≤ 384) ∧ ((0 : Int) = 1 → 0 ≤ (Z6 66 0) ∧ (Z6 66 0) ≤ 9)) := GI_ex hG6 66 0
      refine Jcv0 hx1 (show mx_Sn _ _ 18 (mx_callv 202 1 12 21) from sn_222 18) a56 s56 hc6 rfl rfl rfl ?_
      refine mx_J.step (sn_222 21) (fun _ _ => rfl) ?_
      refine mx_J.step (sn_222 22) (fun _ _ => rfl) ?_
      obtain ⟨z14, Z14, h14, hc14, hx14, hG14, hf14, b14⟩ := ct_219_56 (d := d + 0) (l := l) (D := D) (b0 := b0) (ad := ad) (Hb := Hb) (tau := tau) hx6 hG6 (show 0 ≤ x0 ∧ x0 ≤ 3 by omega)
      refine Jcv hx6 (show mx_Sn _ _ 23 (mx_callv 219 2 12 26) from sn_222 23) a56 s56 hc14 rfl rfl rfl ?_
      refine mx_J.step (ls2 := [some (.ref 56), some (xI x0), some (xI z2), some (xI z14)]) (sn_222 26) (fun _ _ => rfl) ?_
      refine mx_J.step (sn_222 27) (fun _ _ => rfl) ?_
      have c35 : ∀  (Z16 : xZ) (h16 : mx_H), XH n s S Z16 h16 → GI n S Z16 → fr' [(57, (-1))] Z14 Z16 → mx_J (tB l D b0 ad Hb tau) mt_222 (d + 8) 35 [some (.ref 56), some (xI x0), some (xI z2), some (xI z14)] [] h16 Post := by
        intro Z16 h16 hx16 hG16 hf16
        refine mx_J.step (sn_222 35) (fun _ _ => rfl) ?_
        exact mx_J.ret (sn_222 36) (fun _ _ => rfl) (hP z14 Z16 h16 hx16 hG16 (fr_tr (M := [(56, 0), (56, 22), (57, (-1)), (62, (-1)), (64, (-1)), (65, (-1)), (66, (-1))]) (fr_tr (M := [(56, 0), (56, 22), (57, (-1)), (62, (-1)), (64, (-1)), (65, (-1)), (66, (-1))]) (fr_tr (M := [(56, 0), (56, 22), (57, (-1)), (62, (-1)), (64, (-1)), (65, (-1)), (66, (-1))]) (fr_tr (M := [(56, 0), (56, 22), (57, (-1)), (62, (-1)), (64, (-1)), (65, (-1)), (66, (-1))]) fr_rf (fr_up hE1) (M1 := []) rfl rfl) (hf6) rfl rfl) (hf14) rfl rfl) (hf16) rfl rfl) (by omega))
      refine Jif_le (show mx_Sn _ _ 28 (mx_if_le 35 31) from sn_222 28) (by omega) (fun q17 => ?_) (fun q17 => ?_)
      · skip
        exact c35 Z14 h14 hx14 hG14 fr_rf
      · skip
        refine mx_J.step (sn_222 31) (fun _ _ => rfl) ?_
        have eq19 : Z14 66 0 = Z6 66 0 := (hf14 66 0 rfl)
        have eq20 : Z14 56 18 = Z 56 18 := ((hf14 56 18 rfl).trans ((hf6 56 18 rfl).trans (up_ni hE1 (by decide))))
        obtain ⟨Z18, h18, hc18, hx18, hG18, hf18⟩ := ct_204_56 (d := d + 7) (l := l) (D := D) (b0 := b0) (ad := ad) (Hb := Hb) (tau := tau) hx14 hG14  (show Z14 66 0 < Z14 56 18 by first | omega | (simp only [eq19, eq20]; omega))
        refine Jcv0 hx14 (show mx_Sn _ _ 32 (mx_callv 204 1 12 35) from sn_222 32) a56 s56 hc18 rfl rfl rfl ?_
        exact c35 Z18 h18 hx18 hG18 (fr_tr (M := [(57, (-1))]) fr_rf (hf18) (M1 := []) rfl rfl)
    · skip
      refine mx_J.step (sn_222 15) (fun _ _ => rfl) ?_
      exact mx_J.ret (sn_222 16) (fun _ _ => rfl) (hP z2 Z1 h1 hx1 hG1 (fr_tr (M := [(56, 0), (56, 22), (57, (-1)), (62, (-1)), (64, (-1)), (65, (-1)), (66, (-1))]) fr_rf (fr_up hE1) (M1 := []) rfl rfl) (by omega))
theorem ct_222_56 {l : Launch} {D : va_G} {b0 : Nat} {ad : Nat → Nat} {Hb : Heap} {tau : Nat → Int64} {d n s : Nat} {S : Nat → xS} {Z : xZ} {h : mx_H} (hx : XH n s S Z h) (hG : GI n S Z)  {x0 : Int} (p0 : (-2147483648) ≤ x0 ∧ x0 ≤ 2147483647) : ∃ (z : Int) (Z' : xZ) (h' : mx_H), mx_Ca (tB l D b0 ad Hb tau) (d + 9) 222 [.ref 56, xI x0] h (some (xI z), h') ∧ XH n s S Z' h' ∧ GI n S Z' ∧ fr' [(56, 0), (56, 22), (57, (-1)), (62, (-1)), (64, (-1)), (65, (-1)), (66, (-1))] Z Z' ∧ ((-6) ≤ z ∧ z ≤ 40) := by
  obtain ⟨r, hca, z, Z', h', e, q⟩ := Jmt (B := tB l D b0 ad Hb tau) (M := mt_222) (mi := 222) (as := [.ref 56, xI x0]) (d := d + 8) (ls := [some (.ref 56), some (xI x0), none, none]) rfl rfl rfl rfl rfl rfl (cw_222_56 (l := l) (D := D) (b0 := b0) (ad := ad) (Hb := Hb) (tau := tau) (d := d) (Post := fun r => ∃ (z : Int) (Z' : xZ) (h' : mx_H), r = (some (xI z), h') ∧ XH n s S Z' h' ∧ GI n S Z' ∧ fr' [(56, 0), (56, 22), (57, (-1)), (62, (-1)), (64, (-1)), (65, (-1)), (66, (-1))] Z Z' ∧ ((-6) ≤ z ∧ z ≤ 40)) hx hG p0 (fun z Z' h' q1 q2 q3 q4 => ⟨z, Z', h', rfl, q1, q2, q3, q4⟩))
  subst e; exact ⟨z, Z', h', hca, q⟩
set_option maxRecDepth 100000 in
theorem cw_225_56 {l : Launch} {D : va_G} {b0 : Nat} {ad : Nat → Nat} {Hb : Heap} {tau : Nat → Int64} {d n s : Nat} {S : Nat → xS} {Z : xZ} {h : mx_H} {Post : mx_R → Prop} (hx : XH n s S Z h) (hG : GI n S Z)  {x0 x1 : Int} (p0 : (-2147483648) ≤ x0 ∧ x0 ≤ 2147483647) (p1 : (-2147483648) ≤ x1 ∧ x1 ≤ 2147483647) (hP : ∀ (z : Int) (Z' : xZ) (h' : mx_H), XH n s S Z' h' → GI n S Z' → fr' [(56, 0), (56, 23), (57, (-1)), (62, (-1)), (64, (-1)), (65, (-1)), (66, (-1))] Z Z' → (-2147483648) ≤ z ∧ z ≤ 2147483647 → Post (some (xI z), h')) : mx_J (tB l D b0 ad Hb tau) mt_225 (d + 7) 0 [some (.ref 56), some (xI x0), some (xI x1), none, none, none] [] h Post := by
    have a56 : 56 < n := lt83 (GI_n hG) rfl
    have s56 : S 56 = .inl (12, [0, 2, 2, 2, 2, 0, 0, 0, 0, 0, 0, 0, 0, 0, 0, 2, 2, 2, 0, 2, 2, 2, 0, 0, 2, 2, 2, 2, 2, 2, 0, 0, 2, 2, 2, 2, 2, 2, 2, 2, 2, 2]) := GI_s hG 56 rfl
    refine mx_J.step (sn_225 0) (fun _ _ => rfl) ?_
    refine JcI (z := 0) (show mx_Sn _ _ 1 (mx_const (.int 0) 2) from sn_225 1) rfl ?_
    refine JputI (g := 0) hx (show mx_Sn _ _ 2 (mx_putf 1 12 0 (.int) 5) from sn_225 2) a56 s56 rfl rfl rfl rfl (fun Z1 h1 hx1 hE1 => ?_)
    have hG1 := GI_up hG hE1 (show (-2147483648) ≤ 0 ∧ 0 ≤ 2147483647 by omega) trivial rfl
    refine mx_J.step (sn_225 5) (fun _ _ => rfl) ?_
    refine Ji2l (show mx_Sn _ _ 6 (mx_i2l 7) from sn_225 6) (by omega) ?_
    refine JcL (z := 1) (show mx_Sn _ _ 7 (mx_const (.long 1) 8) from sn_225 7) rfl ?_
    refine JcL (z := 40) (show mx_Sn _ _ 8 (mx_const (.long 40) 11) from sn_225 8) rfl ?_
    obtain ⟨z2, hc2, b2⟩ := ct_154_ (d := d + 6) (l := l) (D := D) (b0 := b0) (ad := ad) (Hb := Hb) (tau := tau) hx1 hG1 (show (-9223372036854775808) ≤ x1 ∧ x1 ≤ 9223372036854775807 by omega) (show (-9223372036854775808) ≤ 1 ∧ 1 ≤ 9223372036854775807 by omega) (show (-9223372036854775808) ≤ 40 ∧ 40 ≤ 9223372036854775807 by omega)
    refine Jcs (show mx_Sn _ _ 11 (mx_calls 154 3 14) from sn_225 11) hc2 rfl rfl rfl ?_
    refine Jif_ne (show mx_Sn _ _ 14 (mx_if_ne 20 17) from sn_225 14) (by omega) (fun q3 => ?_) (fun q3 => ?_)
    · skip
      refine mx_J.step (sn_225 20) (fun _ _ => rfl) ?_
      have eq5 : Z1 57 27 = Z 57 27 := (up_nk hE1 rfl)
      have b6 := GI_st hG 27
      have b7 : 0 ≤ Z 56 18 ∧ Z 56 18 ≤ 385 := hG.pr 56 18
      have b8 : 0 ≤ Z 57 27 ∧ Z 57 27 ≤ 384 := by have hq := GI_ex hG 57 27; replace hq : f57 (27 % 962) (Z 57 27) := hq; unfold f57 at hq; omega
      have b9 : (-2147483648) ≤ Z 57 27 ∧ Z 57 27 ≤ 2147483647 := hG.pr 57 27
      obtain ⟨Z4, h4, hc4, hx4, hG4, hf4, b4⟩ := ct_202_56 (d := d + 6) (l := l) (D := D) (b0 := b0) (ad := ad) (Hb := Hb) (tau := tau) hx1 hG1 
      try rw [eq5] at b4
      have b10 : (-2147483648) ≤ Z4 66 0 ∧ Z4 66 0 ≤ 2147483647 := hG4.pr 66 0
      have b11 : (((0 : Int) = 0 → 0 ≤ (Z4 66 0) ∧ (Z4 66 0) ≤ 384) ∧ ((0 : Int) = 1 → 0 ≤ (Z4 66 0) ∧ (Z4 66 0) ≤ 9)) := GI_ex hG4 66 0
      refine Jcv0 hx1 (show mx_Sn _ _ 21 (mx_callv 202 1 12 24) from sn_225 21) a56 s56 hc4 rfl rfl rfl ?_
      refine mx_J.step (sn_225 24) (fun _ _ => rfl) ?_
      refine mx_J.step (sn_225 25) (fun _ _ => rfl) ?_
      refine JputI (g := 23) hx4 (show mx_Sn _ _ 26 (mx_putf 1 12 23 (.int) 29) from sn_225 26) a56 s56 rfl rfl rfl rfl (fun Z12 h12 hx12 hE12 => ?_)
      have hG12 := GI_up hG4 hE12 (show (-2147483648) ≤ x0 ∧ x0 ≤ 2147483647 by omega) trivial rfl
      refine JcI (z := 0) (show mx_Sn _ _ 29 (mx_const (.int 0) 30) from sn_225 29) rfl ?_
      refine mx_J.step (ls2 := [some (.ref 56), some (xI x0), some (xI x1), some (xI 0), none, none]) (sn_225 30) (fun _ _ => rfl) ?_
      refine JcI (z := 0) (show mx_Sn _ _ 31 (mx_const (.int 0) 32) from sn_225 31) rfl ?_
      refine mx_J.step (ls2 := [some (.ref 56), some (xI x0), some (xI x1), some (xI 0), some (xI 0), none]) (sn_225 32) (fun _ _ => rfl) ?_
      have c34 : ∀ (m13 : Nat) (w13_3 : Int) (w13_4 : Int) (u13_5 : Option Value) (Z14 : xZ) (h14 : mx_H), 40 - w13_4 < (m13 : Int) → (-2147483648) ≤ w13_3 ∧ w13_3 ≤ 2147483647 → 0 ≤ w13_4 ∧ w13_4 ≤ 40 → XH n s S Z14 h14 → GI n S Z14 → fr' [(56, 23), (57, (-1)), (62, (-1)), (64, (-1)), (65, (-1))] Z12 Z14 → mx_J (tB l D b0 ad Hb tau) mt_225 (d + 7) 34 [some (.ref 56), some (xI x0), some (xI x1), some (xI w13_3), some (xI w13_4), u13_5] [] h14 Post := by
        intro m13
        induction m13 with
        | zero => intro w13_3 w13_4 u13_5 Z14 h14 q13 f13_0 f13_1 hx14 hG14 hf14; exact absurd q13 (by omega)
        | succ m13 ih13 =>
          intro w13_3 w13_4 u13_5 Z14 h14 q13 f13_0 f13_1 hx14 hG14 hf14
          refine mx_J.step (sn_225 34) (fun _ _ => rfl) ?_
          refine mx_J.step (sn_225 36) (fun _ _ => rfl) ?_
          refine Jicmp_ge (show mx_Sn _ _ 37 (mx_icmp_ge 74 40) from sn_225 37) (by omega) (by omega) (fun q15 => ?_) (fun q15 => ?_)
          · skip
            refine mx_J.step (sn_225 74) (fun _ _ => rfl) ?_
            have c82 : ∀  (Z17 : xZ) (h17 : mx_H), XH n s S Z17 h17 → GI n S Z17 → fr' [(57, (-1))] Z14 Z17 → mx_J (tB l D b0 ad Hb tau) mt_225 (d + 7) 82 [some (.ref 56), some (xI x0), some (xI x1), some (xI w13_3), some (xI w13_4), u13_5] [] h17 Post := by
              intro Z17 h17 hx17 hG17 hf17
              refine mx_J.step (sn_225 82) (fun _ _ => rfl) ?_
              exact mx_J.ret (sn_225 83) (fun _ _ => rfl) (hP w13_3 Z17 h17 hx17 hG17 (fr_tr (M := [(56, 0), (56, 23), (57, (-1)), (62, (-1)), (64, (-1)), (65, (-1)), (66, (-1))]) (fr_tr (M := [(56, 0), (56, 23), (57, (-1)), (62, (-1)), (64, (-1)), (65, (-1)), (66, (-1))]) (fr_tr (M := [(56, 0), (56, 23), (57, (-1)), (62, (-1)), (64, (-1)), (65, (-1)), (66, (-1))]) (fr_tr (M := [(56, 0), (56, 23), (57, (-1)), (62, (-1)), (64, (-1)), (65, (-1)), (66, (-1))]) (fr_tr (M := [(56, 0), (56, 23), (57, (-1)), (62, (-1)), (64, (-1)), (65, (-1)), (66, (-1))]) fr_rf (fr_up hE1) (M1 := []) rfl rfl) (hf4) rfl rfl) (fr_up hE12) rfl rfl) (hf14) rfl rfl) (hf17) rfl rfl) (by omega))
            refine Jif_le (show mx_Sn _ _ 75 (mx_if_le 82 78) from sn_225 75) (by omega) (fun q18 => ?_) (fun q18 => ?_)
            · skip
              exact c82 Z14 h14 hx14 hG14 fr_rf
            · skip
              refine mx_J.step (sn_225 78) (fun _ _ => rfl) ?_
              have eq20 : Z14 66 0 = Z4 66 0 := ((hf14 66 0 rfl).trans (up_nk hE12 rfl))
              have eq21 : Z14 56 18 = Z 56 18 := ((hf14 56 18 rfl).trans ((up_ni hE12 (by decide)).trans ((hf4 56 18 rfl).trans (up_ni hE1 (by decide)))))
              obtain ⟨Z19, h19, hc19, hx19, hG19, hf19⟩ := ct_204_56 (d := d + 6) (l := l) (D := D) (b0 := b0) (ad := ad) (Hb := Hb) (tau := tau) hx14 hG14  (show Z14 66 0 < Z14 56 18 by first | omega | (simp only [eq20, eq21]; omega))
              refine Jcv0 hx14 (show mx_Sn _ _ 79 (mx_callv 204 1 12 82) from sn_225 79) a56 s56 hc19 rfl rfl rfl ?_
              exact c82 Z19 h19 hx19 hG19 (fr_tr (M := [(57, (-1))]) fr_rf (hf19) (M1 := []) rfl rfl)
          · skip
            refine mx_J.step (sn_225 40) (fun _ _ => rfl) ?_
            obtain ⟨z22, Z22, h22, hc22, hx22, hG22, hf22, b22⟩ := ct_224_56 (d := d + 5) (l := l) (D := D) (b0 := b0) (ad := ad) (Hb := Hb) (tau := tau) hx14 hG14 
            refine Jcv hx14 (show mx_Sn _ _ 41 (mx_callv 224 1 12 44) from sn_225 41) a56 s56 hc22 rfl rfl rfl ?_
            refine mx_J.step (ls2 := [some (.ref 56), some (xI x0), some (xI x1), some (xI w13_3), some (xI w13_4), some (xI z22)]) (sn_225 44) (fun _ _ => rfl) ?_
            refine mx_J.step (sn_225 46) (fun _ _ => rfl) ?_
            refine mx_J.step (sn_225 47) (fun _ _ => rfl) ?_
            refine Ji2l (show mx_Sn _ _ 49 (mx_i2l 50) from sn_225 49) (by omega) ?_
            have eq24 : Z22 57 27 = Z14 57 27 := (hf22 57 27 rfl)
            have b25 := GI_st hG14 27
            have eq26 : Z14 56 18 = Z 56 18 := ((hf14 56 18 rfl).trans ((up_ni hE12 (by decide)).trans ((hf4 56 18 rfl).trans (up_ni hE1 (by decide)))))
            have b27 : 0 ≤ Z14 57 27 ∧ Z14 57 27 ≤ 384 := by have hq := GI_ex hG14 57 27; replace hq : f57 (27 % 962) (Z14 57 27) := hq; unfold f57 at hq; omega
            have b28 : (-2147483648) ≤ Z14 57 27 ∧ Z14 57 27 ≤ 2147483647 := hG14.pr 57 27
            have eq29 : hv Z22 (Z22 57 27) ((z22 - 1000) / 100) = hv Z (Z14 57 27) ((z22 - 1000) / 100) := by rw [(show Z22 57 27 = Z14 57 27 from (hf22 57 27 rfl))]; exact ((hv_c (fun i => hf22 61 i rfl)).trans ((hv_c (fun i => hf14 61 i rfl)).trans ((hv_c (fun i => up_nk hE12 rfl)).trans ((hv_c (fun i => hf4 61 i rfl)).trans (hv_c (fun i => up_nk hE1 rfl))))))
            have eq30 : hv Z22 (Z14 57 27) ((z22 - 1000) / 100) = hv Z (Z14 57 27) ((z22 - 1000) / 100) := ((hv_c (fun i => hf22 61 i rfl)).trans ((hv_c (fun i => hf14 61 i rfl)).trans ((hv_c (fun i => up_nk hE12 rfl)).trans ((hv_c (fun i => hf4 61 i rfl)).trans (hv_c (fun i => up_nk hE1 rfl))))))
            have eq31 : hv Z22 (Z22 57 27) ((z22 - 3000) / 100) = hv Z (Z14 57 27) ((z22 - 3000) / 100) := by rw [(show Z22 57 27 = Z14 57 27 from (hf22 57 27 rfl))]; exact ((hv_c (fun i => hf22 61 i rfl)).trans ((hv_c (fun i => hf14 61 i rfl)).trans ((hv_c (fun i => up_nk hE12 rfl)).trans ((hv_c (fun i => hf4 61 i rfl)).trans (hv_c (fun i => up_nk hE1 rfl))))))
            have eq32 : hv Z22 (Z14 57 27) ((z22 - 3000) / 100) = hv Z (Z14 57 27) ((z22 - 3000) / 100) := ((hv_c (fun i => hf22 61 i rfl)).trans ((hv_c (fun i => hf14 61 i rfl)).trans ((hv_c (fun i => up_nk hE12 rfl)).trans ((hv_c (fun i => hf4 61 i rfl)).trans (hv_c (fun i => up_nk hE1 rfl))))))
            have eq33 : hv Z22 (Z22 57 27) (z22 % 100) = hv Z (Z14 57 27) (z22 % 100) := by rw [(show Z22 57 27 = Z14 57 27 from (hf22 57 27 rfl))]; exact ((hv_c (fun i => hf22 61 i rfl)).trans ((hv_c (fun i => hf14 61 i rfl)).trans ((hv_c (fun i => up_nk hE12 rfl)).trans ((hv_c (fun i => hf4 61 i rfl)).trans (hv_c (fun i => up_nk hE1 rfl))))))
            have eq34 : hv Z22 (Z14 57 27) (z22 % 100) = hv Z (Z14 57 27) (z22 % 100) := ((hv_c (fun i => hf22 61 i rfl)).trans ((hv_c (fun i => hf14 61 i rfl)).trans ((hv_c (fun i => up_nk hE12 rfl)).trans ((hv_c (fun i => hf4 61 i rfl)).trans (hv_c (fun i => up_nk hE1 rfl))))))
            obtain ⟨z23, hc23, b23⟩ := ct_217_56 (d := d + 3) (l := l) (D := D) (b0 := b0) (ad := ad) (Hb := Hb) (tau := tau) hx22 hG22 (show (-9223372036854775808) ≤ z22 ∧ z22 ≤ 9223372036854775807 by omega)
            try rw [eq24] at b23
            refine Jcv hx22 (show mx_Sn _ _ 50 (mx_callv 217 2 12 53) from sn_225 50) a56 s56 hc23 rfl rfl rfl ?_
            have c68 : ∀ (w35_3 : Int) (Z36 : xZ) (h36 : mx_H), (-2147483648) ≤ w35_3 ∧ w35_3 ≤ 2147483647 → XH n s S Z36 h36 → GI n S Z36 → fr' [(57, (-1)), (62, (-1)), (64, (-1)), (65, (-1))] Z22 Z36 → mx_J (tB l D b0 ad Hb tau) mt_225 (d + 7) 68 [some (.ref 56), some (xI x0), some (xI x1), some (xI w35_3), some (xI w13_4), some (xI z22)] [] h36 Post := by
              intro w35_3 Z36 h36 f35_0 hx36 hG36 hf36
              refine Jiinc (z := w13_4) (cz := 1) (ls2 := [some (.ref 56), some (xI x0), some (xI x1), some (xI w35_3), some (xI (w13_4 + 1)), some (xI z22)]) (show mx_Sn _ _ 68 (mx_iinc 4 1 71) from sn_225 68) rfl rfl rfl rfl ?_
              refine mx_J.step (sn_225 71) (fun _ _ => rfl) ?_
              exact ih13 w35_3 (w13_4 + 1) (some (xI z22)) Z36 h36 (by omega) (by omega) (by omega) hx36 hG36 (fr_tr (M := [(56, 23), (57, (-1)), (62, (-1)), (64, (-1)), (65, (-1))]) (fr_tr (M := [(56, 23), (57, (-1)), (62, (-1)), (64, (-1)), (65, (-1))]) (fr_tr (M := [(56, 23), (57, (-1)), (62, (-1)), (64, (-1)), (65, (-1))]) fr_rf (hf14) (M1 := []) rfl rfl) (hf22) rfl rfl) (hf36) rfl rfl)
            refine Jif_eq (show mx_Sn _ _ 53 (mx_if_eq 59 56) from sn_225 53) (by omega) (fun q37 => ?_) (fun q37 => ?_)
            · skip
              refine mx_J.step (sn_225 59) (fun _ _ => rfl) ?_
              refine mx_J.step (sn_225 60) (fun _ _ => rfl) ?_
              have eq39 : Z22 57 27 = Z14 57 27 := (hf22 57 27 rfl)
              have eq40 : hv Z22 (Z22 57 27) ((z22 - 1000) / 100) = hv Z (Z14 57 27) ((z22 - 1000) / 100) := by rw [(show Z22 57 27 = Z14 57 27 from (hf22 57 27 rfl))]; exact ((hv_c (fun i => hf22 61 i rfl)).trans ((hv_c (fun i => hf14 61 i rfl)).trans ((hv_c (fun i => up_nk hE12 rfl)).trans ((hv_c (fun i => hf4 61 i rfl)).trans (hv_c (fun i => up_nk hE1 rfl))))))
              have eq41 : hv Z22 (Z14 57 27) ((z22 - 1000) / 100) = hv Z (Z14 57 27) ((z22 - 1000) / 100) := ((hv_c (fun i => hf22 61 i rfl)).trans ((hv_c (fun i => hf14 61 i rfl)).trans ((hv_c (fun i => up_nk hE12 rfl)).trans ((hv_c (fun i => hf4 61 i rfl)).trans (hv_c (fun i => up_nk hE1 rfl))))))
              have eq42 : hv Z22 (Z22 57 27) ((z22 - 3000) / 100) = hv Z (Z14 57 27) ((z22 - 3000) / 100) := by rw [(show Z22 57 27 = Z14 57 27 from (hf22 57 27 rfl))]; exact ((hv_c (fun i => hf22 61 i rfl)).trans ((hv_c (fun i => hf14 61 i rfl)).trans ((hv_c (fun i => up_nk hE12 rfl)).trans ((hv_c (fun i => hf4 61 i rfl)).trans (hv_c (fun i => up_nk hE1 rfl))))))
              have eq43 : hv Z22 (Z14 57 27) ((z22 - 3000) / 100) = hv Z (Z14 57 27) ((z22 - 3000) / 100) := ((hv_c (fun i => hf22 61 i rfl)).trans ((hv_c (fun i => hf14 61 i rfl)).trans ((hv_c (fun i => up_nk hE12 rfl)).trans ((hv_c (fun i => hf4 61 i rfl)).trans (hv_c (fun i => up_nk hE1 rfl))))))
              have eq44 : hv Z22 (Z22 57 27) (z22 % 100) = hv Z (Z14 57 27) (z22 % 100) := by rw [(show Z22 57 27 = Z14 57 27 from (hf22 57 27 rfl))]; exact ((hv_c (fun i => hf22 61 i rfl)).trans ((hv_c (fun i => hf14 61 i rfl)).trans ((hv_c (fun i => up_nk hE12 rfl)).trans ((hv_c (fun i => hf4 61 i rfl)).trans (hv_c (fun i => up_nk hE1 rfl))))))
              have eq45 : hv Z22 (Z14 57 27) (z22 % 100) = hv Z (Z14 57 27) (z22 % 100) := ((hv_c (fun i => hf22 61 i rfl)).trans ((hv_c (fun i => hf14 61 i rfl)).trans ((hv_c (fun i => up_nk hE12 rfl)).trans ((hv_c (fun i => hf4 61 i rfl)).trans (hv_c (fun i => up_nk hE1 rfl))))))
              obtain ⟨Z38, h38, hc38, hx38, hG38, hf38⟩ := ct_218_56 (d := d + 0) (l := l) (D := D) (b0 := b0) (ad := ad) (Hb := Hb) (tau := tau) hx22 hG22 (show 0 ≤ z22 ∧ z22 ≤ 4999 by omega) (show ((0 ≤ z22 ∧ z22 ≤ 18) ∨ (20 ≤ z22 ∧ z22 ≤ 29) ∨ (1000 ≤ z22 ∧ z22 ≤ 2999 ∧ 1 ≤ (z22 - 1000) / 100 ∧ 1 ≤ z22 % 100 ∧ z22 % 100 ≤ (z22 - 1000) / 100 - 1 ∧ (z22 - 1000) / 100 ≤ 18 ∧ hv Z22 (Z22 57 27) ((z22 - 1000) / 100) = 1) ∨ (3000 ≤ z22 ∧ z22 ≤ 4999 ∧ 1 ≤ (z22 - 3000) / 100 ∧ (z22 - 3000) / 100 ≤ 18 ∧ 1 ≤ z22 % 100 ∧ z22 % 100 ≤ 18 ∧ hv Z22 (Z22 57 27) ((z22 - 3000) / 100) = 1 ∧ hv Z22 (Z22 57 27) (z22 % 100) = 1)) by first | omega | (simp only [eq39]; omega))
              refine Jcv0 hx22 (show mx_Sn _ _ 62 (mx_callv 218 2 12 65) from sn_225 62) a56 s56 hc38 rfl rfl rfl ?_
              refine JiincN (z := w13_3) (cz := 1) (show mx_Sn _ _ 65 (mx_iinc 3 1 68) from sn_225 65) rfl rfl rfl (fun y46 hy46 hq46 => ?_)
              show mx_J _ _ _ _ [some (.ref 56), some (xI x0), some (xI x1), some (xI y46), some (xI w13_4), some (xI z22)] _ _ _
              exact c68 y46 Z38 h38 (by omega) hx38 hG38 (fr_tr (M := [(57, (-1)), (62, (-1)), (64, (-1)), (65, (-1))]) fr_rf (hf38) (M1 := []) rfl rfl)
            · skip
              refine mx_J.step (sn_225 56) (fun _ _ => rfl) ?_
              exact c68 w13_3 Z22 h22 (by omega) hx22 hG22 fr_rf
      exact c34 (Int.toNat (40 - 0) + 1) 0 0 none Z12 h12 (by omega) (by omega) (by omega) hx12 hG12 fr_rf
    · skip
      refine JcI (z := (-3)) (show mx_Sn _ _ 17 (mx_const (.int (-3)) 19) from sn_225 17) rfl ?_
      exact mx_J.ret (sn_225 19) (fun _ _ => rfl) (hP (-3) Z1 h1 hx1 hG1 (fr_tr (M := [(56, 0), (56, 23), (57, (-1)), (62, (-1)), (64, (-1)), (65, (-1)), (66, (-1))]) fr_rf (fr_up hE1) (M1 := []) rfl rfl) (by omega))
theorem ct_225_56 {l : Launch} {D : va_G} {b0 : Nat} {ad : Nat → Nat} {Hb : Heap} {tau : Nat → Int64} {d n s : Nat} {S : Nat → xS} {Z : xZ} {h : mx_H} (hx : XH n s S Z h) (hG : GI n S Z)  {x0 x1 : Int} (p0 : (-2147483648) ≤ x0 ∧ x0 ≤ 2147483647) (p1 : (-2147483648) ≤ x1 ∧ x1 ≤ 2147483647) : ∃ (z : Int) (Z' : xZ) (h' : mx_H), mx_Ca (tB l D b0 ad Hb tau) (d + 8) 225 [.ref 56, xI x0, xI x1] h (some (xI z), h') ∧ XH n s S Z' h' ∧ GI n S Z' ∧ fr' [(56, 0), (56, 23), (57, (-1)), (62, (-1)), (64, (-1)), (65, (-1)), (66, (-1))] Z Z' ∧ ((-2147483648) ≤ z ∧ z ≤ 2147483647) := by
  obtain ⟨r, hca, z, Z', h', e, q⟩ := Jmt (B := tB l D b0 ad Hb tau) (M := mt_225) (mi := 225) (as := [.ref 56, xI x0, xI x1]) (d := d + 7) (ls := [some (.ref 56), some (xI x0), some (xI x1), none, none, none]) rfl rfl rfl rfl rfl rfl (cw_225_56 (l := l) (D := D) (b0 := b0) (ad := ad) (Hb := Hb) (tau := tau) (d := d) (Post := fun r => ∃ (z : Int) (Z' : xZ) (h' : mx_H), r = (some (xI z), h') ∧ XH n s S Z' h' ∧ GI n S Z' ∧ fr' [(56, 0), (56, 23), (57, (-1)), (62, (-1)), (64, (-1)), (65, (-1)), (66, (-1))] Z Z' ∧ ((-2147483648) ≤ z ∧ z ≤ 2147483647)) hx hG p0 p1 (fun z Z' h' q1 q2 q3 q4 => ⟨z, Z', h', rfl, q1, q2, q3, q4⟩))
  subst e; exact ⟨z, Z', h', hca, q⟩
set_option maxRecDepth 100000 in
theorem cw_226_56 {l : Launch} {D : va_G} {b0 : Nat} {ad : Nat → Nat} {Hb : Heap} {tau : Nat → Int64} {d n s : Nat} {S : Nat → xS} {Z : xZ} {h : mx_H} {Post : mx_R → Prop} (hx : XH n s S Z h) (hG : GI n S Z)   (hP : ∀ (Z' : xZ) (h' : mx_H), XH n s S Z' h' → GI n S Z' → fr' [(62, (-1)), (64, (-1)), (65, (-1)), (67, (-1))] Z Z' → (ai 67 Z' (Z 56 18) 0 (Z 56 18 - 1) = 1) → Post (none, h')) : mx_J (tB l D b0 ad Hb tau) mt_226 (d + 5) 0 [some (.ref 56), none] [] h Post := by
    have a56 : 56 < n := lt83 (GI_n hG) rfl
    have s56 : S 56 = .inl (12, [0, 2, 2, 2, 2, 0, 0, 0, 0, 0, 0, 0, 0, 0, 0, 2, 2, 2, 0, 2, 2, 2, 0, 0, 2, 2, 2, 2, 2, 2, 0, 0, 2, 2, 2, 2, 2, 2, 2, 2, 2, 2]) := GI_s hG 56 rfl
    have a57 : 57 < n := lt83 (GI_n hG) rfl
    have s57 : S 57 = .inr (.int, 2886, 0) := GI_s hG 57 rfl
    have a67 : 67 < n := lt83 (GI_n hG) rfl
    have s67 : S 67 = .inr (.int, 385, 0) := GI_s hG 67 rfl
    refine JcI (z := 0) (show mx_Sn _ _ 0 (mx_const (.int 0) 1) from sn_226 0) rfl ?_
    refine mx_J.step (ls2 := [some (.ref 56), some (xI 0)]) (sn_226 1) (fun _ _ => rfl) ?_
    have c2 : ∀ (m1 : Nat) (w1_1 : Int) (Z2 : xZ) (h2 : mx_H), 385 - w1_1 < (m1 : Int) → 0 ≤ w1_1 ∧ w1_1 ≤ 385 → ai 67 Z2 w1_1 0 (Z 56 18 - 1) = 1 → XH n s S Z2 h2 → GI n S Z2 → fr' [(62, (-1)), (64, (-1)), (65, (-1)), (67, (-1))] Z Z2 → mx_J (tB l D b0 ad Hb tau) mt_226 (d + 5) 2 [some (.ref 56), some (xI w1_1)] [] h2 Post := by
      intro m1
      induction m1 with
      | zero => intro w1_1 Z2 h2 q1 f1_0 f1_1 hx2 hG2 hf2; exact absurd q1 (by omega)
      | succ m1 ih1 =>
        intro w1_1 Z2 h2 q1 f1_0 f1_1 hx2 hG2 hf2
        refine mx_J.step (sn_226 2) (fun _ _ => rfl) ?_
        refine mx_J.step (sn_226 3) (fun _ _ => rfl) ?_
        have b4 : 0 ≤ Z 56 18 ∧ Z 56 18 ≤ 385 := hG.pr 56 18
        refine JgetI (g := 18) (z := Z 56 18) hx2 (show mx_Sn _ _ 4 (mx_getf 12 18 7) from sn_226 4) a56 s56 rfl rfl (hf2 56 18 rfl) ?_
        refine Jicmp_ge (show mx_Sn _ _ 7 (mx_icmp_ge 35 10) from sn_226 7) (by omega) (by omega) (fun q5 => ?_) (fun q5 => ?_)
        · skip
          have af : ai 67 Z2 (Z 56 18) 0 (Z 56 18 - 1) = 1 := ai_m (len := w1_1) (by assumption) (by omega) (by omega) (by omega)
          have eq6 : Z2 56 18 = Z 56 18 := (hf2 56 18 rfl)
          exact mx_J.ret (sn_226 35) (fun _ _ => rfl) (hP Z2 h2 hx2 hG2 (fr_tr (M := [(62, (-1)), (64, (-1)), (65, (-1)), (67, (-1))]) fr_rf (hf2) (M1 := []) rfl rfl) (by omega))
        · skip
          refine mx_J.step (sn_226 10) (fun _ _ => rfl) ?_
          refine JgetR (g := 24) (b := 67) hx2 (show mx_Sn _ _ 11 (mx_getf 12 24 14) from sn_226 11) a56 s56 rfl rfl (hG2.prr 56 24 rfl) ?_
          refine mx_J.step (sn_226 14) (fun _ _ => rfl) ?_
          refine mx_J.step (sn_226 15) (fun _ _ => rfl) ?_
          refine mx_J.step (sn_226 16) (fun _ _ => rfl) ?_
          refine JcI (z := 0) (show mx_Sn _ _ 17 (mx_const (.int 0) 18) from sn_226 17) rfl ?_
          refine mx_J.step (sn_226 18) (fun _ _ => rfl) ?_
          refine JgetR (g := 1) (b := 57) hx2 (show mx_Sn _ _ 19 (mx_getf 12 1 22) from sn_226 19) a56 s56 rfl rfl (hG2.prr 56 1 rfl) ?_
          refine JcI (z := 28) (show mx_Sn _ _ 22 (mx_const (.int 28) 24) from sn_226 22) rfl ?_
          have b9 : 0 ≤ Z 57 28 ∧ Z 57 28 ≤ 9 := by have hq := GI_ex hG 57 28; replace hq : f57 (28 % 962) (Z 57 28) := hq; unfold f57 at hq; omega
          have b10 : (-2147483648) ≤ Z 57 28 ∧ Z 57 28 ≤ 2147483647 := hG.pr 57 28
          refine JialdI (z := Z 57 28) hx2 (show mx_Sn _ _ 24 (mx_iald 25) from sn_226 24) a57 s57 (by omega) (hf2 57 28 rfl) ?_
          have eq12 : Z2 56 18 = Z 56 18 := (hf2 56 18 rfl)
          obtain ⟨z11, Z11, h11, hc11, hx11, hG11, hf11, b11⟩ := ct_198_56 (d := d + 0) (l := l) (D := D) (b0 := b0) (ad := ad) (Hb := Hb) (tau := tau) hx2 hG2 (show 0 ≤ w1_1 ∧ w1_1 ≤ 384 by omega) (show (-2147483648) ≤ 0 ∧ 0 ≤ 2147483647 by omega) (show 0 ≤ Z 57 28 ∧ Z 57 28 ≤ 9 by omega)
          try rw [eq12] at b11
          refine Jcv hx2 (show mx_Sn _ _ 25 (mx_callv 198 4 12 28) from sn_226 25) a56 s56 hc11 rfl rfl rfl ?_
          have eq13 : (ai 67) Z11 w1_1 0 (Z 56 18 - 1) = (ai 67) Z2 w1_1 0 (Z 56 18 - 1) := (ai_c (fun i => hf11 67 i rfl))
          refine JiastI hx11 (show mx_Sn _ _ 28 (mx_iast 1 29) from sn_226 28) a67 s67 rfl (by omega) (fun Z14 h14 hx14 hE14 => ?_)
          have hG14 := GI_up hG11 hE14 (show 0 ≤ z11 ∧ z11 ≤ 384 by omega) trivial rfl
          have as1 : ai 67 Z14 (w1_1 + 1) 0 (Z 56 18 - 1) = 1 := ai_s (Z := Z11) (len := w1_1) (by omega) hE14 rfl (by omega) rfl
          refine Jiinc (z := w1_1) (cz := 1) (ls2 := [some (.ref 56), some (xI (w1_1 + 1))]) (show mx_Sn _ _ 29 (mx_iinc 1 1 32) from sn_226 29) rfl rfl rfl rfl ?_
          refine mx_J.step (sn_226 32) (fun _ _ => rfl) ?_
          exact ih1 (w1_1 + 1) Z14 h14 (by omega) (by omega) (by first | exact ai_0 (by omega) | assumption) hx14 hG14 (fr_tr (M := [(62, (-1)), (64, (-1)), (65, (-1)), (67, (-1))]) (fr_tr (M := [(62, (-1)), (64, (-1)), (65, (-1)), (67, (-1))]) (fr_tr (M := [(62, (-1)), (64, (-1)), (65, (-1)), (67, (-1))]) fr_rf (hf2) (M1 := []) rfl rfl) (hf11) rfl rfl) (fr_ua hE14) rfl rfl)
    exact c2 (Int.toNat (385 - 0) + 1) 0 Z h (by omega) (by omega) (by first | exact ai_0 (by omega) | assumption) hx hG fr_rf
theorem ct_226_56 {l : Launch} {D : va_G} {b0 : Nat} {ad : Nat → Nat} {Hb : Heap} {tau : Nat → Int64} {d n s : Nat} {S : Nat → xS} {Z : xZ} {h : mx_H} (hx : XH n s S Z h) (hG : GI n S Z)   : ∃ (Z' : xZ) (h' : mx_H), mx_Ca (tB l D b0 ad Hb tau) (d + 6) 226 [.ref 56] h (none, h') ∧ XH n s S Z' h' ∧ GI n S Z' ∧ fr' [(62, (-1)), (64, (-1)), (65, (-1)), (67, (-1))] Z Z' ∧ ((ai 67 Z' (Z 56 18) 0 (Z 56 18 - 1) = 1)) := by
  obtain ⟨r, hca, Z', h', e, q⟩ := Jmt (B := tB l D b0 ad Hb tau) (M := mt_226) (mi := 226) (as := [.ref 56]) (d := d + 5) (ls := [some (.ref 56), none]) rfl rfl rfl rfl rfl rfl (cw_226_56 (l := l) (D := D) (b0 := b0) (ad := ad) (Hb := Hb) (tau := tau) (d := d) (Post := fun r => ∃ (Z' : xZ) (h' : mx_H), r = (none, h') ∧ XH n s S Z' h' ∧ GI n S Z' ∧ fr' [(62, (-1)), (64, (-1)), (65, (-1)), (67, (-1))] Z Z' ∧ ((ai 67 Z' (Z 56 18) 0 (Z 56 18 - 1) = 1))) hx hG  (fun Z' h' q1 q2 q3 q4 => ⟨Z', h', rfl, q1, q2, q3, q4⟩))
  subst e; exact ⟨Z', h', hca, q⟩
set_option maxRecDepth 100000 in
theorem cw_227_56 {l : Launch} {D : va_G} {b0 : Nat} {ad : Nat → Nat} {Hb : Heap} {tau : Nat → Int64} {d n s : Nat} {S : Nat → xS} {Z : xZ} {h : mx_H} {Post : mx_R → Prop} (hx : XH n s S Z h) (hG : GI n S Z)  {x0 : Int} (p0 : 0 ≤ x0 ∧ x0 ≤ 384) (k0 : ai 67 Z (Z 56 18) 0 (Z 56 18 - 1) = 1) (k1 : x0 < Z 56 18) (hP : ∀ (Z' : xZ) (h' : mx_H), XH n s S Z' h' → GI n S Z' → fr' [(56, 30), (56, 31), (68, (-1)), (69, (-1))] Z Z' → (1 ≤ Z' 56 30 ∧ Z' 56 30 ≤ 385 ∧ 0 ≤ Z' 56 31 ∧ Z' 56 31 < Z' 56 30) → Post (none, h')) : mx_J (tB l D b0 ad Hb tau) mt_227 (d + 0) 0 [some (.ref 56), some (xI x0), none] [] h Post := by
    have a56 : 56 < n := lt83 (GI_n hG) rfl
    have s56 : S 56 = .inl (12, [0, 2, 2, 2, 2, 0, 0, 0, 0, 0, 0, 0, 0, 0, 0, 2, 2, 2, 0, 2, 2, 2, 0, 0, 2, 2, 2, 2, 2, 2, 0, 0, 2, 2, 2, 2, 2, 2, 2, 2, 2, 2]) := GI_s hG 56 rfl
    have a67 : 67 < n := lt83 (GI_n hG) rfl
    have s67 : S 67 = .inr (.int, 385, 0) := GI_s hG 67 rfl
    have a68 : 68 < n := lt83 (GI_n hG) rfl
    have s68 : S 68 = .inr (.int, 385, 0) := GI_s hG 68 rfl
    have a69 : 69 < n := lt83 (GI_n hG) rfl
    have s69 : S 69 = .inr (.int, 386, 0) := GI_s hG 69 rfl
    refine JcI (z := 0) (show mx_Sn _ _ 0 (mx_const (.int 0) 1) from sn_227 0) rfl ?_
    refine mx_J.step (ls2 := [some (.ref 56), some (xI x0), some (xI 0)]) (sn_227 1) (fun _ _ => rfl) ?_
    have c2 : ∀ (m1 : Nat) (w1_2 : Int) (Z2 : xZ) (h2 : mx_H), 385 - w1_2 < (m1 : Int) → 0 ≤ w1_2 ∧ w1_2 ≤ 385 → AB Z2 68 (w1_2) ((-1)) ((-1)) → XH n s S Z2 h2 → GI n S Z2 → fr' [(68, (-1))] Z Z2 → mx_J (tB l D b0 ad Hb tau) mt_227 (d + 0) 2 [some (.ref 56), some (xI x0), some (xI w1_2)] [] h2 Post := by
      intro m1
      induction m1 with
      | zero => intro w1_2 Z2 h2 q1 f1_0 f1_1 hx2 hG2 hf2; exact absurd q1 (by omega)
      | succ m1 ih1 =>
        intro w1_2 Z2 h2 q1 f1_0 f1_1 hx2 hG2 hf2
        refine mx_J.step (sn_227 2) (fun _ _ => rfl) ?_
        refine mx_J.step (sn_227 3) (fun _ _ => rfl) ?_
        have b4 : 0 ≤ Z 56 18 ∧ Z 56 18 ≤ 385 := hG.pr 56 18
        refine JgetI (g := 18) (z := Z 56 18) hx2 (show mx_Sn _ _ 4 (mx_getf 12 18 7) from sn_227 4) a56 s56 rfl rfl (hf2 56 18 rfl) ?_
        refine Jicmp_ge (show mx_Sn _ _ 7 (mx_icmp_ge 23 10) from sn_227 7) (by omega) (by omega) (fun q5 => ?_) (fun q5 => ?_)
        · skip
          have l0 : ai 68 Z2 (Z 56 18) (-1) (-1) = 1 := ai_y (ab_mono (show AB Z2 68 (w1_2) (-1) (-1) from by assumption) (by omega) (by omega) (by omega))
          have l1 : cn 68 (-1) Z2 (Z 56 18) = Z 56 18 := cn_a l0 (by omega)
          refine mx_J.step (sn_227 23) (fun _ _ => rfl) ?_
          refine mx_J.step (ls2 := [some (.ref 56), some (xI x0), some (xI x0)]) (sn_227 24) (fun _ _ => rfl) ?_
          refine mx_J.step (sn_227 25) (fun _ _ => rfl) ?_
          refine JcI (z := 0) (show mx_Sn _ _ 26 (mx_const (.int 0) 27) from sn_227 26) rfl ?_
          refine JputI (g := 30) hx2 (show mx_Sn _ _ 27 (mx_putf 1 12 30 (.int) 30) from sn_227 27) a56 s56 rfl rfl rfl rfl (fun Z6 h6 hx6 hE6 => ?_)
          have hG6 := GI_up hG2 hE6 (show 0 ≤ 0 ∧ 0 ≤ 386 by omega) trivial rfl
          have c30 : ∀ (m7 : Nat) (w7_2 : Int) (Z8 : xZ) (h8 : mx_H), (((cn 68 (-1) Z8 (Z 56 18)).toNat : Nat) : Int) < (m7 : Int) → 0 ≤ w7_2 ∧ w7_2 ≤ 384 → cn 68 (-1) Z8 (Z 56 18) = Z 56 18 - Z8 56 30 → ai 68 Z8 (Z 56 18) (-1) (Z8 56 30 - 1) = 1 → w7_2 < Z 56 18 → XH n s S Z8 h8 → GI n S Z8 → fr' [(56, 30), (68, (-1)), (69, (-1))] Z6 Z8 → mx_J (tB l D b0 ad Hb tau) mt_227 (d + 0) 30 [some (.ref 56), some (xI x0), some (xI w7_2)] [] h8 Post := by
            intro m7
            induction m7 with
            | zero => intro w7_2 Z8 h8 q7 f7_0 f7_1 f7_2 f7_3 hx8 hG8 hf8; exact absurd q7 (by omega)
            | succ m7 ih7 =>
              intro w7_2 Z8 h8 q7 f7_0 f7_1 f7_2 f7_3 hx8 hG8 hf8
              have b9 : 0 ≤ Z8 56 30 ∧ Z8 56 30 ≤ 386 := hG8.pr 56 30
              refine mx_J.step (sn_227 30) (fun _ _ => rfl) ?_
              refine JgetR (g := 25) (b := 68) hx8 (show mx_Sn _ _ 31 (mx_getf 12 25 34) from sn_227 31) a56 s56 rfl rfl (hG8.prr 56 25 rfl) ?_
              refine mx_J.step (sn_227 34) (fun _ _ => rfl) ?_
              have b11 : (-1) ≤ Z8 68 w7_2 ∧ Z8 68 w7_2 ≤ 385 := hG8.pr 68 w7_2
              refine JialdI (z := Z8 68 w7_2) hx8 (show mx_Sn _ _ 35 (mx_iald 36) from sn_227 35) a68 s68 (by omega) rfl ?_
              refine JcI (z := (-1)) (show mx_Sn _ _ 36 (mx_const (.int (-1)) 37) from sn_227 36) rfl ?_
              refine Jicmp_ne (show mx_Sn _ _ 37 (mx_icmp_ne 80 40) from sn_227 37) (by omega) (by omega) (fun q12 => ?_) (fun q12 => ?_)
              · skip
                have cb8 := cn_b (Z := Z8) (c := 68) (v := -1) (m := Z 56 18) (by omega)
                have av := ai_at (Z := Z8) (c := 68) (i := w7_2) (by assumption) (by omega)
                refine mx_J.step (sn_227 80) (fun _ _ => rfl) ?_
                refine mx_J.step (sn_227 81) (fun _ _ => rfl) ?_
                refine JgetR (g := 25) (b := 68) hx8 (show mx_Sn _ _ 82 (mx_getf 12 25 85) from sn_227 82) a56 s56 rfl rfl (hG8.prr 56 25 rfl) ?_
                refine mx_J.step (sn_227 85) (fun _ _ => rfl) ?_
                refine JialdI (z := Z8 68 w7_2) hx8 (show mx_Sn _ _ 86 (mx_iald 87) from sn_227 86) a68 s68 (by omega) rfl ?_
                refine JputI (g := 31) hx8 (show mx_Sn _ _ 87 (mx_putf 1 12 31 (.int) 90) from sn_227 87) a56 s56 rfl rfl rfl rfl (fun Z14 h14 hx14 hE14 => ?_)
                have hG14 := GI_up hG8 hE14 (show 0 ≤ Z8 68 w7_2 ∧ Z8 68 w7_2 ≤ 385 by omega) trivial rfl
                have eq15 : Z14 56 30 = Z8 56 30 := (up_ni hE14 (by decide))
                have eq16 : Z14 56 31 = Z8 68 w7_2 := (up_at hE14)
                have eq17 : Z14 56 18 = Z 56 18 := ((up_ni hE14 (by decide)).trans ((hf8 56 18 rfl).trans ((up_ni hE6 (by decide)).trans (hf2 56 18 rfl))))
                have eq18 : (ai 67) Z14 (Z 56 18) 0 (Z 56 18 - 1) = (ai 67) Z (Z 56 18) 0 (Z 56 18 - 1) := ((ai_c (fun i => up_nk hE14 rfl)).trans ((ai_c (fun i => hf8 67 i rfl)).trans ((ai_c (fun i => up_nk hE6 rfl)).trans (ai_c (fun i => hf2 67 i rfl)))))
                exact mx_J.ret (sn_227 90) (fun _ _ => rfl) (hP Z14 h14 hx14 hG14 (fr_tr (M := [(56, 30), (56, 31), (68, (-1)), (69, (-1))]) (fr_tr (M := [(56, 30), (56, 31), (68, (-1)), (69, (-1))]) (fr_tr (M := [(56, 30), (56, 31), (68, (-1)), (69, (-1))]) (fr_tr (M := [(56, 30), (56, 31), (68, (-1)), (69, (-1))]) fr_rf (hf2) (M1 := []) rfl rfl) (fr_up hE6) rfl rfl) (hf8) rfl rfl) (fr_up hE14) rfl rfl) (by omega))
              · skip
                have cp := cn_p (Z := Z8) (c := 68) (v := -1) (g := w7_2) (m := Z 56 18) (by omega) (by omega)
                have ca := (cn_b (Z := Z8) (c := 68) (v := -1) (m := Z 56 18) (by omega))
                refine mx_J.step (sn_227 40) (fun _ _ => rfl) ?_
                refine JgetR (g := 25) (b := 68) hx8 (show mx_Sn _ _ 41 (mx_getf 12 25 44) from sn_227 41) a56 s56 rfl rfl (hG8.prr 56 25 rfl) ?_
                refine mx_J.step (sn_227 44) (fun _ _ => rfl) ?_
                refine mx_J.step (sn_227 45) (fun _ _ => rfl) ?_
                refine JgetI (g := 30) (z := Z8 56 30) hx8 (show mx_Sn _ _ 46 (mx_getf 12 30 49) from sn_227 46) a56 s56 rfl rfl rfl ?_
                refine JiastI hx8 (show mx_Sn _ _ 49 (mx_iast 1 50) from sn_227 49) a68 s68 rfl (by omega) (fun Z21 h21 hx21 hE21 => ?_)
                have hG21 := GI_up hG8 hE21 (show (-1) ≤ Z8 56 30 ∧ Z8 56 30 ≤ 385 by omega) trivial rfl
                have cu := cn_u (v := -1) (m := Z 56 18) hE21 (by omega) (by omega) (by omega)
                have au : ai 68 Z21 (Z 56 18) (-1) ((Z8 56 30 + 1) - 1) = 1 := ai_u (ai_m (Z := Z8) (by assumption) (by omega) (by omega) (by omega)) hE21 (by omega)
                refine mx_J.step (sn_227 50) (fun _ _ => rfl) ?_
                refine JgetR (g := 26) (b := 69) hx21 (show mx_Sn _ _ 51 (mx_getf 12 26 54) from sn_227 51) a56 s56 rfl rfl (hG21.prr 56 26 rfl) ?_
                refine mx_J.step (sn_227 54) (fun _ _ => rfl) ?_
                refine JgetI (g := 30) (z := Z8 56 30) hx21 (show mx_Sn _ _ 55 (mx_getf 12 30 58) from sn_227 55) a56 s56 rfl rfl (up_nk hE21 rfl) ?_
                refine mx_J.step (sn_227 58) (fun _ _ => rfl) ?_
                refine JiastI hx21 (show mx_Sn _ _ 59 (mx_iast 1 60) from sn_227 59) a69 s69 rfl (by omega) (fun Z24 h24 hx24 hE24 => ?_)
                have hG24 := GI_up hG21 hE24 (show 0 ≤ w7_2 ∧ w7_2 ≤ 384 by omega) trivial rfl
                refine mx_J.step (sn_227 60) (fun _ _ => rfl) ?_
                refine mx_J.step (sn_227 61) (fun _ _ => rfl) ?_
                refine JgetI (g := 30) (z := Z8 56 30) hx24 (show mx_Sn _ _ 62 (mx_getf 12 30 65) from sn_227 62) a56 s56 rfl rfl ((up_nk hE24 rfl).trans (up_nk hE21 rfl)) ?_
                refine JcI (z := 1) (show mx_Sn _ _ 65 (mx_const (.int 1) 66) from sn_227 65) rfl ?_
                refine Jiadd (show mx_Sn _ _ 66 (mx_iadd 67) from sn_227 66) ?_
                refine JputI (g := 30) hx24 (show mx_Sn _ _ 67 (mx_putf 1 12 30 (.int) 70) from sn_227 67) a56 s56 rfl rfl rfl rfl (fun Z26 h26 hx26 hE26 => ?_)
                have hG26 := GI_up hG24 hE26 (show 0 ≤ (Z8 56 30) + 1 ∧ (Z8 56 30) + 1 ≤ 386 by omega) trivial rfl
                refine mx_J.step (sn_227 70) (fun _ _ => rfl) ?_
                refine JgetR (g := 24) (b := 67) hx26 (show mx_Sn _ _ 71 (mx_getf 12 24 74) from sn_227 71) a56 s56 rfl rfl (hG26.prr 56 24 rfl) ?_
                refine mx_J.step (sn_227 74) (fun _ _ => rfl) ?_
                have b28 : 0 ≤ Z 67 w7_2 ∧ Z 67 w7_2 ≤ 384 := hG.pr 67 w7_2
                refine JialdI (z := Z 67 w7_2) hx26 (show mx_Sn _ _ 75 (mx_iald 76) from sn_227 75) a67 s67 (by omega) ((up_nk hE26 rfl).trans ((up_nk hE24 rfl).trans ((up_nk hE21 rfl).trans ((hf8 67 w7_2 rfl).trans ((up_nk hE6 rfl).trans (hf2 67 w7_2 rfl)))))) ?_
                have gg := ai_at (i := w7_2) k0 (by omega)
                refine mx_J.step (ls2 := [some (.ref 56), some (xI x0), some (xI (Z 67 w7_2))]) (sn_227 76) (fun _ _ => rfl) ?_
                refine mx_J.step (sn_227 77) (fun _ _ => rfl) ?_
                have eq29 : (cn 68 (-1)) Z26 (Z 56 18) = (cn 68 (-1)) Z21 (Z 56 18) := ((cn_c (fun i => up_nk hE26 rfl)).trans (cn_c (fun i => up_nk hE24 rfl)))
                have eq30 : Z26 56 30 = (Z8 56 30) + 1 := (up_at hE26)
                have eq31 : (ai 68) Z26 (Z 56 18) (-1) ((Z26 56 30) - 1) = (ai 68) Z21 (Z 56 18) (-1) (((Z8 56 30) + 1) - 1) := by rw [(show Z26 56 30 = (Z8 56 30) + 1 from (up_at hE26))]; exact ((ai_c (fun i => up_nk hE26 rfl)).trans (ai_c (fun i => up_nk hE24 rfl)))
                have eq32 : (ai 68) Z26 (Z 56 18) (-1) (((Z8 56 30) + 1) - 1) = (ai 68) Z21 (Z 56 18) (-1) (((Z8 56 30) + 1) - 1) := ((ai_c (fun i => up_nk hE26 rfl)).trans (ai_c (fun i => up_nk hE24 rfl)))
                have eq33 : (ai 68) Z26 (Z 56 18) (-1) (-1) = (ai 68) Z21 (Z 56 18) (-1) (-1) := ((ai_c (fun i => up_nk hE26 rfl)).trans (ai_c (fun i => up_nk hE24 rfl)))
                have eq34 : (cn 68 (-1)) Z26 (Z 56 18) = (cn 68 (-1)) Z21 (Z 56 18) := ((cn_c (fun i => up_nk hE26 rfl)).trans (cn_c (fun i => up_nk hE24 rfl)))
                exact ih7 (Z 67 w7_2) Z26 h26 (by omega) (by omega) (by omega) (by first | omega | (rw [show (Z26 56 30 - 1 : Int) = -1 by omega]; omega)) (by omega) hx26 hG26 (fr_tr (M := [(56, 30), (68, (-1)), (69, (-1))]) (fr_tr (M := [(56, 30), (68, (-1)), (69, (-1))]) (fr_tr (M := [(56, 30), (68, (-1)), (69, (-1))]) (fr_tr (M := [(56, 30), (68, (-1)), (69, (-1))]) fr_rf (hf8) (M1 := []) rfl rfl) (fr_ua hE21) rfl rfl) (fr_ua hE24) rfl rfl) (fr_up hE26) rfl rfl)
          have eq35 : (cn 68 (-1)) Z6 (Z 56 18) = (cn 68 (-1)) Z2 (Z 56 18) := (cn_c (fun i => up_nk hE6 rfl))
          have eq36 : Z6 56 30 = 0 := (up_at hE6)
          have eq37 : (ai 68) Z6 (Z 56 18) (-1) ((Z6 56 30) - 1) = (ai 68) Z2 (Z 56 18) (-1) (0 - 1) := by rw [(show Z6 56 30 = 0 from (up_at hE6))]; exact (ai_c (fun i => up_nk hE6 rfl))
          have eq38 : (ai 68) Z6 (Z 56 18) (-1) (0 - 1) = (ai 68) Z2 (Z 56 18) (-1) (0 - 1) := (ai_c (fun i => up_nk hE6 rfl))
          have eq39 : (ai 68) Z6 (Z 56 18) (-1) (-1) = (ai 68) Z2 (Z 56 18) (-1) (-1) := (ai_c (fun i => up_nk hE6 rfl))
          have eq40 : (cn 68 (-1)) Z6 (Z 56 18) = (cn 68 (-1)) Z2 (Z 56 18) := (cn_c (fun i => up_nk hE6 rfl))
          exact c30 (Int.toNat ((((cn 68 (-1) Z6 (Z 56 18)).toNat : Nat) : Int)) + 1) x0 Z6 h6 (by omega) (by omega) (by omega) (by first | omega | (rw [show (Z6 56 30 - 1 : Int) = -1 by omega]; omega)) (by omega) hx6 hG6 fr_rf
        · skip
          refine mx_J.step (sn_227 10) (fun _ _ => rfl) ?_
          refine JgetR (g := 25) (b := 68) hx2 (show mx_Sn _ _ 11 (mx_getf 12 25 14) from sn_227 11) a56 s56 rfl rfl (hG2.prr 56 25 rfl) ?_
          refine mx_J.step (sn_227 14) (fun _ _ => rfl) ?_
          refine JcI (z := (-1)) (show mx_Sn _ _ 15 (mx_const (.int (-1)) 16) from sn_227 15) rfl ?_
          refine JiastI hx2 (show mx_Sn _ _ 16 (mx_iast 1 17) from sn_227 16) a68 s68 rfl (by omega) (fun Z42 h42 hx42 hE42 => ?_)
          have hG42 := GI_up hG2 hE42 (show (-1) ≤ (-1) ∧ (-1) ≤ 385 by omega) trivial rfl
          have m42 := fill_up hE42 f1_1 (by omega)
          refine Jiinc (z := w1_2) (cz := 1) (ls2 := [some (.ref 56), some (xI x0), some (xI (w1_2 + 1))]) (show mx_Sn _ _ 17 (mx_iinc 2 1 20) from sn_227 17) rfl rfl rfl rfl ?_
          refine mx_J.step (sn_227 20) (fun _ _ => rfl) ?_
          exact ih1 (w1_2 + 1) Z42 h42 (by omega) (by omega) (ab_mono m42 (by omega) (by omega) (by omega)) hx42 hG42 (fr_tr (M := [(68, (-1))]) (fr_tr (M := [(68, (-1))]) fr_rf (hf2) (M1 := []) rfl rfl) (fr_ua hE42) rfl rfl)
    exact c2 (Int.toNat (385 - 0) + 1) 0 Z h (by omega) (by omega) (ab_nil (by omega)) hx hG fr_rf
theorem ct_227_56 {l : Launch} {D : va_G} {b0 : Nat} {ad : Nat → Nat} {Hb : Heap} {tau : Nat → Int64} {d n s : Nat} {S : Nat → xS} {Z : xZ} {h : mx_H} (hx : XH n s S Z h) (hG : GI n S Z)  {x0 : Int} (p0 : 0 ≤ x0 ∧ x0 ≤ 384) (k0 : ai 67 Z (Z 56 18) 0 (Z 56 18 - 1) = 1) (k1 : x0 < Z 56 18) : ∃ (Z' : xZ) (h' : mx_H), mx_Ca (tB l D b0 ad Hb tau) (d + 1) 227 [.ref 56, xI x0] h (none, h') ∧ XH n s S Z' h' ∧ GI n S Z' ∧ fr' [(56, 30), (56, 31), (68, (-1)), (69, (-1))] Z Z' ∧ ((1 ≤ Z' 56 30 ∧ Z' 56 30 ≤ 385 ∧ 0 ≤ Z' 56 31 ∧ Z' 56 31 < Z' 56 30)) := by
  obtain ⟨r, hca, Z', h', e, q⟩ := Jmt (B := tB l D b0 ad Hb tau) (M := mt_227) (mi := 227) (as := [.ref 56, xI x0]) (d := d + 0) (ls := [some (.ref 56), some (xI x0), none]) rfl rfl rfl rfl rfl rfl (cw_227_56 (l := l) (D := D) (b0 := b0) (ad := ad) (Hb := Hb) (tau := tau) (d := d) (Post := fun r => ∃ (Z' : xZ) (h' : mx_H), r = (none, h') ∧ XH n s S Z' h' ∧ GI n S Z' ∧ fr' [(56, 30), (56, 31), (68, (-1)), (69, (-1))] Z Z' ∧ ((1 ≤ Z' 56 30 ∧ Z' 56 30 ≤ 385 ∧ 0 ≤ Z' 56 31 ∧ Z' 56 31 < Z' 56 30))) hx hG p0 k0 k1 (fun Z' h' q1 q2 q3 q4 => ⟨Z', h', rfl, q1, q2, q3, q4⟩))
  subst e; exact ⟨Z', h', hca, q⟩
set_option maxRecDepth 100000 in
theorem cw_228_56 {l : Launch} {D : va_G} {b0 : Nat} {ad : Nat → Nat} {Hb : Heap} {tau : Nat → Int64} {d n s : Nat} {S : Nat → xS} {Z : xZ} {h : mx_H} {Post : mx_R → Prop} (hx : XH n s S Z h) (hG : GI n S Z)  {x0 : Int} (p0 : (-9223372036854775808) ≤ x0 ∧ x0 ≤ 9223372036854775807) (hP : ∀ (z : Int) (Z' : xZ) (h' : mx_H), XH n s S Z' h' → GI n S Z' → fr' [(56, 0), (56, 30), (56, 31), (62, (-1)), (64, (-1)), (65, (-1)), (67, (-1)), (68, (-1)), (69, (-1))] Z Z' → (-3) ≤ z ∧ z ≤ 384 → Post (some (xI z), h')) : mx_J (tB l D b0 ad Hb tau) mt_228 (d + 6) 0 [some (.ref 56), some (xL x0), none] [] h Post := by
    have a56 : 56 < n := lt83 (GI_n hG) rfl
    have s56 : S 56 = .inl (12, [0, 2, 2, 2, 2, 0, 0, 0, 0, 0, 0, 0, 0, 0, 0, 2, 2, 2, 0, 2, 2, 2, 0, 0, 2, 2, 2, 2, 2, 2, 0, 0, 2, 2, 2, 2, 2, 2, 2, 2, 2, 2]) := GI_s hG 56 rfl
    have a57 : 57 < n := lt83 (GI_n hG) rfl
    have s57 : S 57 = .inr (.int, 2886, 0) := GI_s hG 57 rfl
    have a69 : 69 < n := lt83 (GI_n hG) rfl
    have s69 : S 69 = .inr (.int, 386, 0) := GI_s hG 69 rfl
    refine mx_J.step (sn_228 0) (fun _ _ => rfl) ?_
    refine JcI (z := 0) (show mx_Sn _ _ 1 (mx_const (.int 0) 2) from sn_228 1) rfl ?_
    refine JputI (g := 0) hx (show mx_Sn _ _ 2 (mx_putf 1 12 0 (.int) 5) from sn_228 2) a56 s56 rfl rfl rfl rfl (fun Z1 h1 hx1 hE1 => ?_)
    have hG1 := GI_up hG hE1 (show (-2147483648) ≤ 0 ∧ 0 ≤ 2147483647 by omega) trivial rfl
    refine mx_J.step (sn_228 5) (fun _ _ => rfl) ?_
    refine JcL (z := 0) (show mx_Sn _ _ 6 (mx_const (.long 0) 7) from sn_228 6) rfl ?_
    refine JcL (z := 1000000000000000) (show mx_Sn _ _ 7 (mx_const (.long 1000000000000000) 10) from sn_228 7) rfl ?_
    obtain ⟨z2, hc2, b2⟩ := ct_154_ (d := d + 5) (l := l) (D := D) (b0 := b0) (ad := ad) (Hb := Hb) (tau := tau) hx1 hG1 (show (-9223372036854775808) ≤ x0 ∧ x0 ≤ 9223372036854775807 by omega) (show (-9223372036854775808) ≤ 0 ∧ 0 ≤ 9223372036854775807 by omega) (show (-9223372036854775808) ≤ 1000000000000000 ∧ 1000000000000000 ≤ 9223372036854775807 by omega)
    refine Jcs (show mx_Sn _ _ 10 (mx_calls 154 3 13) from sn_228 10) hc2 rfl rfl rfl ?_
    refine Jif_ne (show mx_Sn _ _ 13 (mx_if_ne 19 16) from sn_228 13) (by omega) (fun q3 => ?_) (fun q3 => ?_)
    · skip
      refine mx_J.step (sn_228 19) (fun _ _ => rfl) ?_
      have eq5 : Z1 56 18 = Z 56 18 := (up_ni hE1 (by decide))
      have b6 : 0 ≤ Z 56 18 ∧ Z 56 18 ≤ 385 := hG.pr 56 18
      obtain ⟨Z4, h4, hc4, hx4, hG4, hf4, b4⟩ := ct_226_56 (d := d + 0) (l := l) (D := D) (b0 := b0) (ad := ad) (Hb := Hb) (tau := tau) hx1 hG1 
      try rw [eq5] at b4
      refine Jcv0 hx1 (show mx_Sn _ _ 20 (mx_callv 226 1 12 23) from sn_228 20) a56 s56 hc4 rfl rfl rfl ?_
      refine mx_J.step (sn_228 23) (fun _ _ => rfl) ?_
      refine mx_J.step (sn_228 24) (fun _ _ => rfl) ?_
      refine JgetR (g := 1) (b := 57) hx4 (show mx_Sn _ _ 25 (mx_getf 12 1 28) from sn_228 25) a56 s56 rfl rfl (hG4.prr 56 1 rfl) ?_
      refine JcI (z := 27) (show mx_Sn _ _ 28 (mx_const (.int 27) 30) from sn_228 28) rfl ?_
      have b8 := GI_st hG 27
      have b9 : 0 ≤ Z 57 27 ∧ Z 57 27 ≤ 384 := by have hq := GI_ex hG 57 27; replace hq : f57 (27 % 962) (Z 57 27) := hq; unfold f57 at hq; omega
      have b10 : (-2147483648) ≤ Z 57 27 ∧ Z 57 27 ≤ 2147483647 := hG.pr 57 27
      refine JialdI (z := Z 57 27) hx4 (show mx_Sn _ _ 30 (mx_iald 31) from sn_228 30) a57 s57 (by omega) ((hf4 57 27 rfl).trans (up_nk hE1 rfl)) ?_
      have eq12 : Z4 56 18 = Z 56 18 := ((hf4 56 18 rfl).trans (up_ni hE1 (by decide)))
      obtain ⟨Z11, h11, hc11, hx11, hG11, hf11, b11⟩ := ct_227_56 (d := d + 5) (l := l) (D := D) (b0 := b0) (ad := ad) (Hb := Hb) (tau := tau) hx4 hG4 (show 0 ≤ Z 57 27 ∧ Z 57 27 ≤ 384 by omega) (show ai 67 Z4 (Z4 56 18) 0 (Z4 56 18 - 1) = 1 by first | omega | (simp only [eq12]; omega)) (show (Z 57 27) < Z4 56 18 by first | omega | (simp only [eq12]; omega))
      try rw [eq12] at b11
      have b13 : 0 ≤ Z11 56 30 ∧ Z11 56 30 ≤ 386 := hG11.pr 56 30
      have b14 : 0 ≤ Z11 56 31 ∧ Z11 56 31 ≤ 385 := hG11.pr 56 31
      refine Jcv0 hx4 (show mx_Sn _ _ 31 (mx_callv 227 2 12 34) from sn_228 31) a56 s56 hc11 rfl rfl rfl ?_
      refine mx_J.step (sn_228 34) (fun _ _ => rfl) ?_
      refine JgetR (g := 26) (b := 69) hx11 (show mx_Sn _ _ 35 (mx_getf 12 26 38) from sn_228 35) a56 s56 rfl rfl (hG11.prr 56 26 rfl) ?_
      refine mx_J.step (sn_228 38) (fun _ _ => rfl) ?_
      refine mx_J.step (sn_228 39) (fun _ _ => rfl) ?_
      refine JgetI (g := 30) (z := Z11 56 30) hx11 (show mx_Sn _ _ 40 (mx_getf 12 30 43) from sn_228 40) a56 s56 rfl rfl rfl ?_
      refine Ji2l (show mx_Sn _ _ 43 (mx_i2l 44) from sn_228 43) (by omega) ?_
      have c77 : ∀ (k17_1 : Int), 0 ≤ k17_1 ∧ k17_1 ≤ 385 → mx_J (tB l D b0 ad Hb tau) mt_228 (d + 6) 77 [some (.ref 56), some (xL x0), none] [xI k17_1, .ref 69] h11 Post := by
        intro k17_1 f17_0
        have b18 : 0 ≤ Z11 69 k17_1 ∧ Z11 69 k17_1 ≤ 384 := hG11.pr 69 k17_1
        refine JialdI (z := Z11 69 k17_1) hx11 (show mx_Sn _ _ 77 (mx_iald 78) from sn_228 77) a69 s69 (by omega) rfl ?_
        exact mx_J.ret (sn_228 78) (fun _ _ => rfl) (hP (Z11 69 k17_1) Z11 h11 hx11 hG11 (fr_tr (M := [(56, 0), (56, 30), (56, 31), (62, (-1)), (64, (-1)), (65, (-1)), (67, (-1)), (68, (-1)), (69, (-1))]) (fr_tr (M := [(56, 0), (56, 30), (56, 31), (62, (-1)), (64, (-1)), (65, (-1)), (67, (-1)), (68, (-1)), (69, (-1))]) (fr_tr (M := [(56, 0), (56, 30), (56, 31), (62, (-1)), (64, (-1)), (65, (-1)), (67, (-1)), (68, (-1)), (69, (-1))]) fr_rf (fr_up hE1) (M1 := []) rfl rfl) (hf4) rfl rfl) (hf11) rfl rfl) (by omega))
      refine Jlif_ge (show mx_Sn _ _ 44 (mx_lif_ge 53 48) from sn_228 44) (by omega) (by omega) (fun q19 => ?_) (fun q19 => ?_)
      · skip
        refine mx_J.step (sn_228 53) (fun _ _ => rfl) ?_
        refine JgetI (g := 31) (z := Z11 56 31) hx11 (show mx_Sn _ _ 54 (mx_getf 12 31 57) from sn_228 54) a56 s56 rfl rfl rfl ?_
        refine mx_J.step (sn_228 57) (fun _ _ => rfl) ?_
        refine mx_J.step (sn_228 58) (fun _ _ => rfl) ?_
        refine JgetI (g := 31) (z := Z11 56 31) hx11 (show mx_Sn _ _ 59 (mx_getf 12 31 62) from sn_228 59) a56 s56 rfl rfl rfl ?_
        refine Ji2l (show mx_Sn _ _ 62 (mx_i2l 63) from sn_228 62) (by omega) ?_
        refine Jlsub (show mx_Sn _ _ 63 (mx_lsub 64) from sn_228 63) ?_
        refine mx_J.step (sn_228 64) (fun _ _ => rfl) ?_
        refine JgetI (g := 30) (z := Z11 56 30) hx11 (show mx_Sn _ _ 65 (mx_getf 12 30 68) from sn_228 65) a56 s56 rfl rfl rfl ?_
        refine mx_J.step (sn_228 68) (fun _ _ => rfl) ?_
        refine JgetI (g := 31) (z := Z11 56 31) hx11 (show mx_Sn _ _ 69 (mx_getf 12 31 72) from sn_228 69) a56 s56 rfl rfl rfl ?_
        refine Jisub (show mx_Sn _ _ 72 (mx_isub 73) from sn_228 72) ?_
        refine Ji2l (show mx_Sn _ _ 73 (mx_i2l 74) from sn_228 73) (by omega) ?_
        refine JlremX (show mx_Sn _ _ 74 (mx_lrem 75) from sn_228 74) (by omega) (by omega) (by omega) (fun y24 hy24 => ?_)
        refine Jl2i (show mx_Sn _ _ 75 (mx_l2i 76) from sn_228 75) ?_
        refine Jiadd (show mx_Sn _ _ 76 (mx_iadd 77) from sn_228 76) ?_
        exact c77 ((Z11 56 31) + y24) (by omega)
      · skip
        refine mx_J.step (sn_228 48) (fun _ _ => rfl) ?_
        refine Jl2i (show mx_Sn _ _ 49 (mx_l2i 50) from sn_228 49) ?_
        refine mx_J.step (sn_228 50) (fun _ _ => rfl) ?_
        exact c77 x0 (by omega)
    · skip
      refine JcI (z := (-3)) (show mx_Sn _ _ 16 (mx_const (.int (-3)) 18) from sn_228 16) rfl ?_
      exact mx_J.ret (sn_228 18) (fun _ _ => rfl) (hP (-3) Z1 h1 hx1 hG1 (fr_tr (M := [(56, 0), (56, 30), (56, 31), (62, (-1)), (64, (-1)), (65, (-1)), (67, (-1)), (68, (-1)), (69, (-1))]) fr_rf (fr_up hE1) (M1 := []) rfl rfl) (by omega))
theorem ct_228_56 {l : Launch} {D : va_G} {b0 : Nat} {ad : Nat → Nat} {Hb : Heap} {tau : Nat → Int64} {d n s : Nat} {S : Nat → xS} {Z : xZ} {h : mx_H} (hx : XH n s S Z h) (hG : GI n S Z)  {x0 : Int} (p0 : (-9223372036854775808) ≤ x0 ∧ x0 ≤ 9223372036854775807) : ∃ (z : Int) (Z' : xZ) (h' : mx_H), mx_Ca (tB l D b0 ad Hb tau) (d + 7) 228 [.ref 56, xL x0] h (some (xI z), h') ∧ XH n s S Z' h' ∧ GI n S Z' ∧ fr' [(56, 0), (56, 30), (56, 31), (62, (-1)), (64, (-1)), (65, (-1)), (67, (-1)), (68, (-1)), (69, (-1))] Z Z' ∧ ((-3) ≤ z ∧ z ≤ 384) := by
  obtain ⟨r, hca, z, Z', h', e, q⟩ := Jmt (B := tB l D b0 ad Hb tau) (M := mt_228) (mi := 228) (as := [.ref 56, xL x0]) (d := d + 6) (ls := [some (.ref 56), some (xL x0), none]) rfl rfl rfl rfl rfl rfl (cw_228_56 (l := l) (D := D) (b0 := b0) (ad := ad) (Hb := Hb) (tau := tau) (d := d) (Post := fun r => ∃ (z : Int) (Z' : xZ) (h' : mx_H), r = (some (xI z), h') ∧ XH n s S Z' h' ∧ GI n S Z' ∧ fr' [(56, 0), (56, 30), (56, 31), (62, (-1)), (64, (-1)), (65, (-1)), (67, (-1)), (68, (-1)), (69, (-1))] Z Z' ∧ ((-3) ≤ z ∧ z ≤ 384)) hx hG p0 (fun z Z' h' q1 q2 q3 q4 => ⟨z, Z', h', rfl, q1, q2, q3, q4⟩))
  subst e; exact ⟨z, Z', h', hca, q⟩
set_option maxRecDepth 100000 in
theorem cw_229_56 {l : Launch} {D : va_G} {b0 : Nat} {ad : Nat → Nat} {Hb : Heap} {tau : Nat → Int64} {d n s : Nat} {S : Nat → xS} {Z : xZ} {h : mx_H} {Post : mx_R → Prop} (hx : XH n s S Z h) (hG : GI n S Z)  {x0 : Int} (p0 : (-2147483648) ≤ x0 ∧ x0 ≤ 2147483647) (hP : ∀ (z : Int) (Z' : xZ) (h' : mx_H), XH n s S Z' h' → GI n S Z' → fr' [(56, 0), (56, 30), (56, 31), (62, (-1)), (64, (-1)), (65, (-1)), (67, (-1)), (68, (-1)), (69, (-1))] Z Z' → (-385) ≤ z ∧ z ≤ 386 → Post (some (xI z), h')) : mx_J (tB l D b0 ad Hb tau) mt_229 (d + 6) 0 [some (.ref 56), some (xI x0)] [] h Post := by
    have a56 : 56 < n := lt83 (GI_n hG) rfl
    have s56 : S 56 = .inl (12, [0, 2, 2, 2, 2, 0, 0, 0, 0, 0, 0, 0, 0, 0, 0, 2, 2, 2, 0, 2, 2, 2, 0, 0, 2, 2, 2, 2, 2, 2, 0, 0, 2, 2, 2, 2, 2, 2, 2, 2, 2, 2]) := GI_s hG 56 rfl
    have a57 : 57 < n := lt83 (GI_n hG) rfl
    have s57 : S 57 = .inr (.int, 2886, 0) := GI_s hG 57 rfl
    refine mx_J.step (sn_229 0) (fun _ _ => rfl) ?_
    refine JcI (z := 0) (show mx_Sn _ _ 1 (mx_const (.int 0) 2) from sn_229 1) rfl ?_
    refine JputI (g := 0) hx (show mx_Sn _ _ 2 (mx_putf 1 12 0 (.int) 5) from sn_229 2) a56 s56 rfl rfl rfl rfl (fun Z1 h1 hx1 hE1 => ?_)
    have hG1 := GI_up hG hE1 (show (-2147483648) ≤ 0 ∧ 0 ≤ 2147483647 by omega) trivial rfl
    refine mx_J.step (sn_229 5) (fun _ _ => rfl) ?_
    refine Ji2l (show mx_Sn _ _ 6 (mx_i2l 7) from sn_229 6) (by omega) ?_
    refine JcL (z := 0) (show mx_Sn _ _ 7 (mx_const (.long 0) 8) from sn_229 7) rfl ?_
    refine JcL (z := 1) (show mx_Sn _ _ 8 (mx_const (.long 1) 9) from sn_229 8) rfl ?_
    obtain ⟨z2, hc2, b2⟩ := ct_154_ (d := d + 5) (l := l) (D := D) (b0 := b0) (ad := ad) (Hb := Hb) (tau := tau) hx1 hG1 (show (-9223372036854775808) ≤ x0 ∧ x0 ≤ 9223372036854775807 by omega) (show (-9223372036854775808) ≤ 0 ∧ 0 ≤ 9223372036854775807 by omega) (show (-9223372036854775808) ≤ 1 ∧ 1 ≤ 9223372036854775807 by omega)
    refine Jcs (show mx_Sn _ _ 9 (mx_calls 154 3 12) from sn_229 9) hc2 rfl rfl rfl ?_
    refine Jif_ne (show mx_Sn _ _ 12 (mx_if_ne 18 15) from sn_229 12) (by omega) (fun q3 => ?_) (fun q3 => ?_)
    · skip
      refine mx_J.step (sn_229 18) (fun _ _ => rfl) ?_
      have eq5 : Z1 56 18 = Z 56 18 := (up_ni hE1 (by decide))
      have b6 : 0 ≤ Z 56 18 ∧ Z 56 18 ≤ 385 := hG.pr 56 18
      obtain ⟨Z4, h4, hc4, hx4, hG4, hf4, b4⟩ := ct_226_56 (d := d + 0) (l := l) (D := D) (b0 := b0) (ad := ad) (Hb := Hb) (tau := tau) hx1 hG1 
      try rw [eq5] at b4
      refine Jcv0 hx1 (show mx_Sn _ _ 19 (mx_callv 226 1 12 22) from sn_229 19) a56 s56 hc4 rfl rfl rfl ?_
      refine mx_J.step (sn_229 22) (fun _ _ => rfl) ?_
      refine mx_J.step (sn_229 23) (fun _ _ => rfl) ?_
      refine JgetR (g := 1) (b := 57) hx4 (show mx_Sn _ _ 24 (mx_getf 12 1 27) from sn_229 24) a56 s56 rfl rfl (hG4.prr 56 1 rfl) ?_
      refine JcI (z := 27) (show mx_Sn _ _ 27 (mx_const (.int 27) 29) from sn_229 27) rfl ?_
      have b8 := GI_st hG 27
      have b9 : 0 ≤ Z 57 27 ∧ Z 57 27 ≤ 384 := by have hq := GI_ex hG 57 27; replace hq : f57 (27 % 962) (Z 57 27) := hq; unfold f57 at hq; omega
      have b10 : (-2147483648) ≤ Z 57 27 ∧ Z 57 27 ≤ 2147483647 := hG.pr 57 27
      refine JialdI (z := Z 57 27) hx4 (show mx_Sn _ _ 29 (mx_iald 30) from sn_229 29) a57 s57 (by omega) ((hf4 57 27 rfl).trans (up_nk hE1 rfl)) ?_
      have eq12 : Z4 56 18 = Z 56 18 := ((hf4 56 18 rfl).trans (up_ni hE1 (by decide)))
      obtain ⟨Z11, h11, hc11, hx11, hG11, hf11, b11⟩ := ct_227_56 (d := d + 5) (l := l) (D := D) (b0 := b0) (ad := ad) (Hb := Hb) (tau := tau) hx4 hG4 (show 0 ≤ Z 57 27 ∧ Z 57 27 ≤ 384 by omega) (show ai 67 Z4 (Z4 56 18) 0 (Z4 56 18 - 1) = 1 by first | omega | (simp only [eq12]; omega)) (show (Z 57 27) < Z4 56 18 by first | omega | (simp only [eq12]; omega))
      try rw [eq12] at b11
      have b13 : 0 ≤ Z11 56 30 ∧ Z11 56 30 ≤ 386 := hG11.pr 56 30
      have b14 : 0 ≤ Z11 56 31 ∧ Z11 56 31 ≤ 385 := hG11.pr 56 31
      refine Jcv0 hx4 (show mx_Sn _ _ 30 (mx_callv 227 2 12 33) from sn_229 30) a56 s56 hc11 rfl rfl rfl ?_
      refine mx_J.step (sn_229 33) (fun _ _ => rfl) ?_
      have c53 : ∀ (k15_0 : Int), (-385) ≤ k15_0 ∧ k15_0 ≤ 386 → mx_J (tB l D b0 ad Hb tau) mt_229 (d + 6) 53 [some (.ref 56), some (xI x0)] [xI k15_0] h11 Post := by
        intro k15_0 f15_0
        exact mx_J.ret (sn_229 53) (fun _ _ => rfl) (hP k15_0 Z11 h11 hx11 hG11 (fr_tr (M := [(56, 0), (56, 30), (56, 31), (62, (-1)), (64, (-1)), (65, (-1)), (67, (-1)), (68, (-1)), (69, (-1))]) (fr_tr (M := [(56, 0), (56, 30), (56, 31), (62, (-1)), (64, (-1)), (65, (-1)), (67, (-1)), (68, (-1)), (69, (-1))]) (fr_tr (M := [(56, 0), (56, 30), (56, 31), (62, (-1)), (64, (-1)), (65, (-1)), (67, (-1)), (68, (-1)), (69, (-1))]) fr_rf (fr_up hE1) (M1 := []) rfl rfl) (hf4) rfl rfl) (hf11) rfl rfl) (by omega))
      refine Jif_ne (show mx_Sn _ _ 34 (mx_if_ne 44 37) from sn_229 34) (by omega) (fun q16 => ?_) (fun q16 => ?_)
      · skip
        refine mx_J.step (sn_229 44) (fun _ _ => rfl) ?_
        refine JgetI (g := 30) (z := Z11 56 30) hx11 (show mx_Sn _ _ 45 (mx_getf 12 30 48) from sn_229 45) a56 s56 rfl rfl rfl ?_
        refine mx_J.step (sn_229 48) (fun _ _ => rfl) ?_
        refine JgetI (g := 31) (z := Z11 56 31) hx11 (show mx_Sn _ _ 49 (mx_getf 12 31 52) from sn_229 49) a56 s56 rfl rfl rfl ?_
        refine Jisub (show mx_Sn _ _ 52 (mx_isub 53) from sn_229 52) ?_
        exact c53 ((Z11 56 30) - (Z11 56 31)) (by omega)
      · skip
        refine mx_J.step (sn_229 37) (fun _ _ => rfl) ?_
        refine JgetI (g := 31) (z := Z11 56 31) hx11 (show mx_Sn _ _ 38 (mx_getf 12 31 41) from sn_229 38) a56 s56 rfl rfl rfl ?_
        refine mx_J.step (sn_229 41) (fun _ _ => rfl) ?_
        exact c53 (Z11 56 31) (by omega)
    · skip
      refine JcI (z := (-2)) (show mx_Sn _ _ 15 (mx_const (.int (-2)) 17) from sn_229 15) rfl ?_
      exact mx_J.ret (sn_229 17) (fun _ _ => rfl) (hP (-2) Z1 h1 hx1 hG1 (fr_tr (M := [(56, 0), (56, 30), (56, 31), (62, (-1)), (64, (-1)), (65, (-1)), (67, (-1)), (68, (-1)), (69, (-1))]) fr_rf (fr_up hE1) (M1 := []) rfl rfl) (by omega))
theorem ct_229_56 {l : Launch} {D : va_G} {b0 : Nat} {ad : Nat → Nat} {Hb : Heap} {tau : Nat → Int64} {d n s : Nat} {S : Nat → xS} {Z : xZ} {h : mx_H} (hx : XH n s S Z h) (hG : GI n S Z)  {x0 : Int} (p0 : (-2147483648) ≤ x0 ∧ x0 ≤ 2147483647) : ∃ (z : Int) (Z' : xZ) (h' : mx_H), mx_Ca (tB l D b0 ad Hb tau) (d + 7) 229 [.ref 56, xI x0] h (some (xI z), h') ∧ XH n s S Z' h' ∧ GI n S Z' ∧ fr' [(56, 0), (56, 30), (56, 31), (62, (-1)), (64, (-1)), (65, (-1)), (67, (-1)), (68, (-1)), (69, (-1))] Z Z' ∧ ((-385) ≤ z ∧ z ≤ 386) := by
  obtain ⟨r, hca, z, Z', h', e, q⟩ := Jmt (B := tB l D b0 ad Hb tau) (M := mt_229) (mi := 229) (as := [.ref 56, xI x0]) (d := d + 6) (ls := [some (.ref 56), some (xI x0)]) rfl rfl rfl rfl rfl rfl (cw_229_56 (l := l) (D := D) (b0 := b0) (ad := ad) (Hb := Hb) (tau := tau) (d := d) (Post := fun r => ∃ (z : Int) (Z' : xZ) (h' : mx_H), r = (some (xI z), h') ∧ XH n s S Z' h' ∧ GI n S Z' ∧ fr' [(56, 0), (56, 30), (56, 31), (62, (-1)), (64, (-1)), (65, (-1)), (67, (-1)), (68, (-1)), (69, (-1))] Z Z' ∧ ((-385) ≤ z ∧ z ≤ 386)) hx hG p0 (fun z Z' h' q1 q2 q3 q4 => ⟨z, Z', h', rfl, q1, q2, q3, q4⟩))
  subst e; exact ⟨z, Z', h', hca, q⟩
set_option maxRecDepth 100000 in
theorem cw_230_56 {l : Launch} {D : va_G} {b0 : Nat} {ad : Nat → Nat} {Hb : Heap} {tau : Nat → Int64} {d n s : Nat} {S : Nat → xS} {Z : xZ} {h : mx_H} {Post : mx_R → Prop} (hx : XH n s S Z h) (hG : GI n S Z)   (hP : ∀ (Z' : xZ) (h' : mx_H), XH n s S Z' h' → GI n S Z' → fr' [(56, 30), (56, 31), (62, (-1)), (64, (-1)), (65, (-1)), (67, (-1)), (68, (-1)), (69, (-1)), (70, (-1))] Z Z' → (ai 67 Z' (Z 56 18) 0 (Z 56 18 - 1) = 1) → Post (none, h')) : mx_J (tB l D b0 ad Hb tau) mt_230 (d + 6) 0 [some (.ref 56), none] [] h Post := by
    have a56 : 56 < n := lt83 (GI_n hG) rfl
    have s56 : S 56 = .inl (12, [0, 2, 2, 2, 2, 0, 0, 0, 0, 0, 0, 0, 0, 0, 0, 2, 2, 2, 0, 2, 2, 2, 0, 0, 2, 2, 2, 2, 2, 2, 0, 0, 2, 2, 2, 2, 2, 2, 2, 2, 2, 2]) := GI_s hG 56 rfl
    have a70 : 70 < n := lt83 (GI_n hG) rfl
    have s70 : S 70 = .inr (.boolean, 385, 0) := GI_s hG 70 rfl
    refine mx_J.step (sn_230 0) (fun _ _ => rfl) ?_
    have b2 : 0 ≤ Z 56 18 ∧ Z 56 18 ≤ 385 := hG.pr 56 18
    obtain ⟨Z1, h1, hc1, hx1, hG1, hf1, b1⟩ := ct_226_56 (d := d + 0) (l := l) (D := D) (b0 := b0) (ad := ad) (Hb := Hb) (tau := tau) hx hG 
    refine Jcv0 hx (show mx_Sn _ _ 1 (mx_callv 226 1 12 4) from sn_230 1) a56 s56 hc1 rfl rfl rfl ?_
    refine JcI (z := 0) (show mx_Sn _ _ 4 (mx_const (.int 0) 5) from sn_230 4) rfl ?_
    refine mx_J.step (ls2 := [some (.ref 56), some (xI 0)]) (sn_230 5) (fun _ _ => rfl) ?_
    have c6 : ∀ (m3 : Nat) (w3_1 : Int) (Z4 : xZ) (h4 : mx_H), 385 - w3_1 < (m3 : Int) → 0 ≤ w3_1 ∧ w3_1 ≤ 385 → XH n s S Z4 h4 → GI n S Z4 → fr' [(56, 30), (56, 31), (68, (-1)), (69, (-1)), (70, (-1))] Z1 Z4 → mx_J (tB l D b0 ad Hb tau) mt_230 (d + 6) 6 [some (.ref 56), some (xI w3_1)] [] h4 Post := by
      intro m3
      induction m3 with
      | zero => intro w3_1 Z4 h4 q3 f3_0 hx4 hG4 hf4; exact absurd q3 (by omega)
      | succ m3 ih3 =>
        intro w3_1 Z4 h4 q3 f3_0 hx4 hG4 hf4
        refine mx_J.step (sn_230 6) (fun _ _ => rfl) ?_
        refine mx_J.step (sn_230 7) (fun _ _ => rfl) ?_
        refine JgetI (g := 18) (z := Z 56 18) hx4 (show mx_Sn _ _ 8 (mx_getf 12 18 11) from sn_230 8) a56 s56 rfl rfl ((hf4 56 18 rfl).trans (hf1 56 18 rfl)) ?_
        refine Jicmp_ge (show mx_Sn _ _ 11 (mx_icmp_ge 43 14) from sn_230 11) (by omega) (by omega) (fun q6 => ?_) (fun q6 => ?_)
        · skip
          have eq7 : (ai 67) Z4 (Z 56 18) 0 (Z 56 18 - 1) = (ai 67) Z1 (Z 56 18) 0 (Z 56 18 - 1) := (ai_c (fun i => hf4 67 i rfl))
          have eq8 : Z4 56 18 = Z 56 18 := ((hf4 56 18 rfl).trans (hf1 56 18 rfl))
          exact mx_J.ret (sn_230 43) (fun _ _ => rfl) (hP Z4 h4 hx4 hG4 (fr_tr (M := [(56, 30), (56, 31), (62, (-1)), (64, (-1)), (65, (-1)), (67, (-1)), (68, (-1)), (69, (-1)), (70, (-1))]) (fr_tr (M := [(56, 30), (56, 31), (62, (-1)), (64, (-1)), (65, (-1)), (67, (-1)), (68, (-1)), (69, (-1)), (70, (-1))]) fr_rf (hf1) (M1 := []) rfl rfl) (hf4) rfl rfl) (by omega))
        · skip
          refine mx_J.step (sn_230 14) (fun _ _ => rfl) ?_
          refine mx_J.step (sn_230 15) (fun _ _ => rfl) ?_
          have eq10 : Z4 56 18 = Z 56 18 := ((hf4 56 18 rfl).trans (hf1 56 18 rfl))
          have eq11 : (ai 67) Z4 (Z 56 18) 0 (Z 56 18 - 1) = (ai 67) Z1 (Z 56 18) 0 (Z 56 18 - 1) := (ai_c (fun i => hf4 67 i rfl))
          obtain ⟨Z9, h9, hc9, hx9, hG9, hf9, b9⟩ := ct_227_56 (d := d + 5) (l := l) (D := D) (b0 := b0) (ad := ad) (Hb := Hb) (tau := tau) hx4 hG4 (show 0 ≤ w3_1 ∧ w3_1 ≤ 384 by omega) (show ai 67 Z4 (Z4 56 18) 0 (Z4 56 18 - 1) = 1 by first | omega | (simp only [eq10]; omega)) (show w3_1 < Z4 56 18 by first | omega | (simp only [eq10]; omega))
          try rw [eq10] at b9
          have b12 : 0 ≤ Z9 56 30 ∧ Z9 56 30 ≤ 386 := hG9.pr 56 30
          have b13 : 0 ≤ Z9 56 31 ∧ Z9 56 31 ≤ 385 := hG9.pr 56 31
          refine Jcv0 hx4 (show mx_Sn _ _ 16 (mx_callv 227 2 12 19) from sn_230 16) a56 s56 hc9 rfl rfl rfl ?_
          refine mx_J.step (sn_230 19) (fun _ _ => rfl) ?_
          refine JgetR (g := 27) (b := 70) hx9 (show mx_Sn _ _ 20 (mx_getf 12 27 23) from sn_230 20) a56 s56 rfl rfl (hG9.prr 56 27 rfl) ?_
          refine mx_J.step (sn_230 23) (fun _ _ => rfl) ?_
          refine mx_J.step (sn_230 24) (fun _ _ => rfl) ?_
          refine JgetI (g := 31) (z := Z9 56 31) hx9 (show mx_Sn _ _ 25 (mx_getf 12 31 28) from sn_230 25) a56 s56 rfl rfl rfl ?_
          have c36 : ∀ (k16_2 : Int), 0 ≤ k16_2 ∧ k16_2 ≤ 1 → mx_J (tB l D b0 ad Hb tau) mt_230 (d + 6) 36 [some (.ref 56), some (xI w3_1)] [xI k16_2, xI w3_1, .ref 70] h9 Post := by
            intro k16_2 f16_0
            refine JzastI hx9 (show mx_Sn _ _ 36 (mx_zast 1 37) from sn_230 36) a70 s70 rfl (by omega) (by omega) (fun Z17 h17 hx17 hE17 => ?_)
            have hG17 := GI_up hG9 hE17 (show 0 ≤ k16_2 ∧ k16_2 ≤ 1 by omega) trivial rfl
            refine Jiinc (z := w3_1) (cz := 1) (ls2 := [some (.ref 56), some (xI (w3_1 + 1))]) (show mx_Sn _ _ 37 (mx_iinc 1 1 40) from sn_230 37) rfl rfl rfl rfl ?_
            refine mx_J.step (sn_230 40) (fun _ _ => rfl) ?_
            exact ih3 (w3_1 + 1) Z17 h17 (by omega) (by omega) hx17 hG17 (fr_tr (M := [(56, 30), (56, 31), (68, (-1)), (69, (-1)), (70, (-1))]) (fr_tr (M := [(56, 30), (56, 31), (68, (-1)), (69, (-1)), (70, (-1))]) (fr_tr (M := [(56, 30), (56, 31), (68, (-1)), (69, (-1)), (70, (-1))]) fr_rf (hf4) (M1 := []) rfl rfl) (hf9) rfl rfl) (fr_ua hE17) rfl rfl)
          refine Jif_ne (show mx_Sn _ _ 28 (mx_if_ne 35 31) from sn_230 28) (by omega) (fun q18 => ?_) (fun q18 => ?_)
          · skip
            refine JcI (z := 0) (show mx_Sn _ _ 35 (mx_const (.int 0) 36) from sn_230 35) rfl ?_
            exact c36 0 (by omega)
          · skip
            refine JcI (z := 1) (show mx_Sn _ _ 31 (mx_const (.int 1) 32) from sn_230 31) rfl ?_
            refine mx_J.step (sn_230 32) (fun _ _ => rfl) ?_
            exact c36 1 (by omega)
    exact c6 (Int.toNat (385 - 0) + 1) 0 Z1 h1 (by omega) (by omega) hx1 hG1 fr_rf
theorem ct_230_56 {l : Launch} {D : va_G} {b0 : Nat} {ad : Nat → Nat} {Hb : Heap} {tau : Nat → Int64} {d n s : Nat} {S : Nat → xS} {Z : xZ} {h : mx_H} (hx : XH n s S Z h) (hG : GI n S Z)   : ∃ (Z' : xZ) (h' : mx_H), mx_Ca (tB l D b0 ad Hb tau) (d + 7) 230 [.ref 56] h (none, h') ∧ XH n s S Z' h' ∧ GI n S Z' ∧ fr' [(56, 30), (56, 31), (62, (-1)), (64, (-1)), (65, (-1)), (67, (-1)), (68, (-1)), (69, (-1)), (70, (-1))] Z Z' ∧ ((ai 67 Z' (Z 56 18) 0 (Z 56 18 - 1) = 1)) := by
  obtain ⟨r, hca, Z', h', e, q⟩ := Jmt (B := tB l D b0 ad Hb tau) (M := mt_230) (mi := 230) (as := [.ref 56]) (d := d + 6) (ls := [some (.ref 56), none]) rfl rfl rfl rfl rfl rfl (cw_230_56 (l := l) (D := D) (b0 := b0) (ad := ad) (Hb := Hb) (tau := tau) (d := d) (Post := fun r => ∃ (Z' : xZ) (h' : mx_H), r = (none, h') ∧ XH n s S Z' h' ∧ GI n S Z' ∧ fr' [(56, 30), (56, 31), (62, (-1)), (64, (-1)), (65, (-1)), (67, (-1)), (68, (-1)), (69, (-1)), (70, (-1))] Z Z' ∧ ((ai 67 Z' (Z 56 18) 0 (Z 56 18 - 1) = 1))) hx hG  (fun Z' h' q1 q2 q3 q4 => ⟨Z', h', rfl, q1, q2, q3, q4⟩))
  subst e; exact ⟨Z', h', hca, q⟩
