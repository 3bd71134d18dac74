set_option maxRecDepth 100000 in
theorem cw_259_56 {l : Launch} {D : va_G} {b0 : Nat} {ad : Nat → Nat} {Hb : Heap} {tau : Nat → Int64} {d n s : Nat} {S : Nat → xS} {Z : xZ} {h : mx_H} {Post : mx_R → Prop} (hx : XH n s S Z h) (hG : GI n S Z)  {x0 x1 : Int} (p0 : (-2147483648) ≤ x0 ∧ x0 ≤ 2147483647) (p1 : (-2147483648) ≤ x1 ∧ x1 ≤ 2147483647) (hP : ∀ (z : Int) (Z' : xZ) (h' : mx_H), XH n s S Z' h' → GI n S Z' → fr' [(56, 0), (62, (-1)), (64, (-1)), (65, (-1)), (73, (-1)), (78, (-1))] Z Z' → (-6) ≤ z ∧ z ≤ 18 → Post (some (xI z), h')) : mx_J (tB l D b0 ad Hb tau) mt_259 (d + 7) 0 [some (.ref 56), some (xI x0), some (xI x1), none, none, none, none] [] h Post := by
    have a56 : 56 < n := lt83 (GI_n hG) rfl
    have s56 : S 56 = .inl (12, [0, 2, 2, 2, 2, 0, 0, 0, 0, 0, 0, 0, 0, 0, 0, 2, 2, 2, 0, 2, 2, 2, 0, 0, 2, 2, 2, 2, 2, 2, 0, 0, 2, 2, 2, 2, 2, 2, 2, 2, 2, 2]) := GI_s hG 56 rfl
    have a57 : 57 < n := lt83 (GI_n hG) rfl
    have s57 : S 57 = .inr (.int, 2886, 0) := GI_s hG 57 rfl
    have a73 : 73 < n := lt83 (GI_n hG) rfl
    have s73 : S 73 = .inr (.int, 7315, 0) := GI_s hG 73 rfl
    have a78 : 78 < n := lt83 (GI_n hG) rfl
    have s78 : S 78 = .inr (.long, 3465, 1) := GI_s hG 78 rfl
    have a81 : 81 < n := lt83 (GI_n hG) rfl
    have s81 : S 81 = .inr (.int, 4, 0) := GI_s hG 81 rfl
    refine mx_J.step (sn_259 0) (fun _ _ => rfl) ?_
    refine JcI (z := 0) (show mx_Sn _ _ 1 (mx_const (.int 0) 2) from sn_259 1) rfl ?_
    refine JputI (g := 0) hx (show mx_Sn _ _ 2 (mx_putf 1 12 0 (.int) 5) from sn_259 2) a56 s56 rfl rfl rfl rfl (fun Z1 h1 hx1 hE1 => ?_)
    have hG1 := GI_up hG hE1 (show (-2147483648) ≤ 0 ∧ 0 ≤ 2147483647 by omega) trivial rfl
    refine mx_J.step (sn_259 5) (fun _ _ => rfl) ?_
    refine mx_J.step (sn_259 6) (fun _ _ => rfl) ?_
    refine JcI (z := 1) (show mx_Sn _ _ 7 (mx_const (.int 1) 8) from sn_259 7) rfl ?_
    have eq3 : Z1 81 x0 = Z 81 x0 := (up_nk hE1 rfl)
    have b4 : 0 ≤ Z 81 x0 ∧ Z 81 x0 ≤ 40 := hG.pr 81 x0
    obtain ⟨z2, hc2, b2⟩ := ct_255_56 (d := d + 4) (l := l) (D := D) (b0 := b0) (ad := ad) (Hb := Hb) (tau := tau) hx1 hG1 (show (-2147483648) ≤ x0 ∧ x0 ≤ 2147483647 by omega) (show 0 ≤ 1 ∧ 1 ≤ 1 by omega)
    try rw [eq3] at b2
    refine Jcv hx1 (show mx_Sn _ _ 8 (mx_callv 255 3 12 11) from sn_259 8) a56 s56 hc2 rfl rfl rfl ?_
    refine mx_J.step (ls2 := [some (.ref 56), some (xI x0), some (xI x1), some (xI z2), none, none, none]) (sn_259 11) (fun _ _ => rfl) ?_
    refine mx_J.step (sn_259 12) (fun _ _ => rfl) ?_
    refine Jif_eq (show mx_Sn _ _ 13 (mx_if_eq 18 16) from sn_259 13) (by omega) (fun q5 => ?_) (fun q5 => ?_)
    · skip
      refine mx_J.step (sn_259 18) (fun _ _ => rfl) ?_
      refine Jif_ge (show mx_Sn _ _ 19 (mx_if_ge 25 22) from sn_259 19) (by omega) (fun q6 => ?_) (fun q6 => ?_)
      · skip
        refine mx_J.step (sn_259 25) (fun _ _ => rfl) ?_
        refine mx_J.step (sn_259 26) (fun _ _ => rfl) ?_
        have eq8 : Z1 56 18 = Z 56 18 := (up_ni hE1 (by decide))
        have b9 : 0 ≤ Z 56 18 ∧ Z 56 18 ≤ 385 := hG.pr 56 18
        have eq10 : Z1 81 x0 = Z 81 x0 := (up_nk hE1 rfl)
        have eq11 : Z1 57 27 = Z 57 27 := (up_nk hE1 rfl)
        have b12 := GI_st hG 27
        have b13 : 0 ≤ Z 57 27 ∧ Z 57 27 ≤ 384 := by have hq := GI_ex hG 57 27; replace hq : f57 (27 % 962) (Z 57 27) := hq; unfold f57 at hq; omega
        have b14 : (-2147483648) ≤ Z 57 27 ∧ Z 57 27 ≤ 2147483647 := hG.pr 57 27
        obtain ⟨z7, Z7, h7, hc7, hx7, hG7, hf7, b7⟩ := ct_257_56 (g0 := 385 * 0 + Z 57 27) (d := d + 0) (l := l) (D := D) (b0 := b0) (ad := ad) (Hb := Hb) (tau := tau) hx1 hG1 (show 0 ≤ x0 ∧ x0 ≤ 3 by omega) (show 1 ≤ Z1 81 x0 by first | omega | (simp only [eq8, eq10, eq11]; omega)) (show Z1 81 x0 ≤ 8 by first | omega | (simp only [eq8, eq10, eq11]; omega)) (show (385 * 0 + Z 57 27) = Z1 57 27 by first | omega | (simp only [eq8, eq10, eq11]; omega))
        try rw [eq8] at b7
        try rw [eq10] at b7
        try rw [eq11] at b7
        refine Jcv hx1 (show mx_Sn _ _ 27 (mx_callv 257 2 12 30) from sn_259 27) a56 s56 hc7 rfl rfl rfl ?_
        refine JcL (z := 0) (show mx_Sn _ _ 30 (mx_const (.long 0) 31) from sn_259 30) rfl ?_
        have c45 : mx_J (tB l D b0 ad Hb tau) mt_259 (d + 7) 45 [some (.ref 56), some (xI x0), some (xI x1), some (xI z2), none, none, none] [] h7 Post := by
          refine JcI (z := (-1)) (show mx_Sn _ _ 45 (mx_const (.int (-1)) 46) from sn_259 45) rfl ?_
          exact mx_J.ret (sn_259 46) (fun _ _ => rfl) (hP (-1) Z7 h7 hx7 hG7 (fr_tr (M := [(56, 0), (62, (-1)), (64, (-1)), (65, (-1)), (73, (-1)), (78, (-1))]) (fr_tr (M := [(56, 0), (62, (-1)), (64, (-1)), (65, (-1)), (73, (-1)), (78, (-1))]) fr_rf (fr_up hE1) (M1 := []) rfl rfl) (hf7) rfl rfl) (by omega))
        refine Jlif_eq (show mx_Sn _ _ 31 (mx_lif_eq 45 35) from sn_259 31) (by omega) (by omega) (fun q16 => ?_) (fun q16 => ?_)
        · skip
          exact c45 
        · skip
          refine mx_J.step (sn_259 35) (fun _ _ => rfl) ?_
          refine mx_J.step (sn_259 36) (fun _ _ => rfl) ?_
          refine JgetR (g := 40) (b := 81) hx7 (show mx_Sn _ _ 37 (mx_getf 12 40 40) from sn_259 37) a56 s56 rfl rfl (hG7.prr 56 40 rfl) ?_
          refine mx_J.step (sn_259 40) (fun _ _ => rfl) ?_
          refine JialdI (z := Z 81 x0) hx7 (show mx_Sn _ _ 41 (mx_iald 42) from sn_259 41) a81 s81 (by omega) ((hf7 81 x0 rfl).trans (up_nk hE1 rfl)) ?_
          refine Jicmp_lt (show mx_Sn _ _ 42 (mx_icmp_lt 47 45) from sn_259 42) (by omega) (by omega) (fun q18 => ?_) (fun q18 => ?_)
          · skip
            refine mx_J.step (sn_259 47) (fun _ _ => rfl) ?_
            refine JgetR (g := 1) (b := 57) hx7 (show mx_Sn _ _ 48 (mx_getf 12 1 51) from sn_259 48) a56 s56 rfl rfl (hG7.prr 56 1 rfl) ?_
            refine JcI (z := 27) (show mx_Sn _ _ 51 (mx_const (.int 27) 53) from sn_259 51) rfl ?_
            refine JialdI (z := Z 57 27) hx7 (show mx_Sn _ _ 53 (mx_iald 54) from sn_259 53) a57 s57 (by omega) ((hf7 57 27 rfl).trans (up_nk hE1 rfl)) ?_
            refine mx_J.step (ls2 := [some (.ref 56), some (xI x0), some (xI x1), some (xI z2), some (xI (Z 57 27)), none, none]) (sn_259 54) (fun _ _ => rfl) ?_
            refine JcI (z := 0) (show mx_Sn _ _ 56 (mx_const (.int 0) 57) from sn_259 56) rfl ?_
            refine mx_J.step (ls2 := [some (.ref 56), some (xI x0), some (xI x1), some (xI z2), some (xI (Z 57 27)), some (xI 0), none]) (sn_259 57) (fun _ _ => rfl) ?_
            have c59 : ∀ (m20 : Nat) (w20_4 : Int) (w20_5 : Int) (u20_6 : Option Value), x1 - w20_5 < (m20 : Int) → 0 ≤ w20_4 ∧ w20_4 ≤ 384 → 0 ≤ w20_5 ∧ w20_5 ≤ 7 → (w20_4 < Z 56 18 ∧ ¬ Z7 78 (385 * w20_5 + w20_4) = 0 ∧ w20_5 ≤ x1) → mx_J (tB l D b0 ad Hb tau) mt_259 (d + 7) 59 [some (.ref 56), some (xI x0), some (xI x1), some (xI z2), some (xI w20_4), some (xI w20_5), u20_6] [] h7 Post := by
              intro m20
              induction m20 with
              | zero => intro w20_4 w20_5 u20_6 q20 f20_0 f20_1 f20_2; exact absurd q20 (by omega)
              | succ m20 ih20 =>
                intro w20_4 w20_5 u20_6 q20 f20_0 f20_1 f20_2
                refine JcI (z := 0) (show mx_Sn _ _ 59 (mx_const (.int 0) 60) from sn_259 59) rfl ?_
                refine mx_J.step (ls2 := [some (.ref 56), some (xI x0), some (xI x1), some (xI z2), some (xI w20_4), some (xI w20_5), some (xI 0)]) (sn_259 60) (fun _ _ => rfl) ?_
                have c62 : ∀ (m21 : Nat) (w21_6 : Int), 19 - w21_6 < (m21 : Int) → 0 ≤ w21_6 ∧ w21_6 ≤ 18 → ND Z7 x0 w20_5 w20_4 w21_6 → mx_J (tB l D b0 ad Hb tau) mt_259 (d + 7) 62 [some (.ref 56), some (xI x0), some (xI x1), some (xI z2), some (xI w20_4), some (xI w20_5), some (xI w21_6)] [] h7 Post := by
                  intro m21
                  induction m21 with
                  | zero => intro w21_6 q21 f21_0 f21_1; exact absurd q21 (by omega)
                  | succ m21 ih21 =>
                    intro w21_6 q21 f21_0 f21_1
                    refine mx_J.step (sn_259 62) (fun _ _ => rfl) ?_
                    refine mx_J.step (sn_259 63) (fun _ _ => rfl) ?_
                    refine mx_J.step (sn_259 64) (fun _ _ => rfl) ?_
                    refine mx_J.step (sn_259 66) (fun _ _ => rfl) ?_
                    refine JgetR (g := 32) (b := 73) hx7 (show mx_Sn _ _ 67 (mx_getf 12 32 70) from sn_259 67) a56 s56 rfl rfl (hG7.prr 56 32 rfl) ?_
                    refine JcI (z := 19) (show mx_Sn _ _ 70 (mx_const (.int 19) 72) from sn_259 70) rfl ?_
                    refine mx_J.step (sn_259 72) (fun _ _ => rfl) ?_
                    refine Jimul (show mx_Sn _ _ 74 (mx_imul 75) from sn_259 74) ?_
                    refine mx_J.step (sn_259 75) (fun _ _ => rfl) ?_
                    refine Jiadd (show mx_Sn _ _ 77 (mx_iadd 78) from sn_259 77) ?_
                    have b23 : (-1) ≤ Z7 73 ((19 * w20_4) + w21_6) ∧ Z7 73 ((19 * w20_4) + w21_6) ≤ 384 := hG7.pr 73 ((19 * w20_4) + w21_6)
                    refine JialdI (z := Z7 73 ((19 * w20_4) + w21_6)) hx7 (show mx_Sn _ _ 78 (mx_iald 79) from sn_259 78) a73 s73 (by omega) rfl ?_
                    have eq25 : io Z7 x0 w20_5 (Z7 73 ((19 * w20_4) + w21_6)) = io Z x0 w20_5 (Z7 73 ((19 * w20_4) + w21_6)) := ((io_c (fun i => hf7 61 i rfl) (fun i => hf7 82 i rfl)).trans (io_c (fun i => up_nk hE1 rfl) (fun i => up_nk hE1 rfl)))
                    obtain ⟨z24, hc24, b24⟩ := ct_256_56 (d := d + 4) (l := l) (D := D) (b0 := b0) (ad := ad) (Hb := Hb) (tau := tau) hx7 hG7 (show 0 ≤ x0 ∧ x0 ≤ 3 by omega) (show 0 ≤ w20_5 ∧ w20_5 ≤ 7 by omega) (show (-1) ≤ Z7 73 ((19 * w20_4) + w21_6) ∧ Z7 73 ((19 * w20_4) + w21_6) ≤ 384 by omega)
                    refine Jcv hx7 (show mx_Sn _ _ 79 (mx_callv 256 4 12 82) from sn_259 79) a56 s56 hc24 rfl rfl rfl ?_
                    have c117 : ¬ GO Z7 x0 w20_5 w20_4 w21_6 → mx_J (tB l D b0 ad Hb tau) mt_259 (d + 7) 117 [some (.ref 56), some (xI x0), some (xI x1), some (xI z2), some (xI w20_4), some (xI w20_5), some (xI w21_6)] [] h7 Post := by
                      intro f26_0
                      have ns : ND Z7 x0 w20_5 w20_4 (w21_6 + 1) := nd_s (by assumption) (by assumption)
                      have nl := nd_l (Z := Z7) (t := x0) (m := Z 56 18) (n := Z 81 x0) (by omega) ns (by omega) (by omega) (by omega)
                      refine Jiinc (z := w21_6) (cz := 1) (ls2 := [some (.ref 56), some (xI x0), some (xI x1), some (xI z2), some (xI w20_4), some (xI w20_5), some (xI (w21_6 + 1))]) (show mx_Sn _ _ 117 (mx_iinc 6 1 120) from sn_259 117) rfl rfl rfl rfl ?_
                      refine mx_J.step (sn_259 120) (fun _ _ => rfl) ?_
                      exact ih21 (w21_6 + 1) (by omega) (by omega) (by first | exact nd_0 (by omega) | assumption)
                    refine Jif_eq (show mx_Sn _ _ 82 (mx_if_eq 117 85) from sn_259 82) (by omega) (fun q27 => ?_) (fun q27 => ?_)
                    · skip
                      exact c117 (by first | exact (fun hq => by have h1 := hq.1; omega) | exact (fun hq => hq.2 (by omega)))
                    · skip
                      have ie := io_e Z7 x0 w20_5 (Z7 73 (19 * w20_4 + w21_6))
                      refine mx_J.step (sn_259 85) (fun _ _ => rfl) ?_
                      refine JgetR (g := 37) (b := 78) hx7 (show mx_Sn _ _ 86 (mx_getf 12 37 89) from sn_259 86) a56 s56 rfl rfl (hG7.prr 56 37 rfl) ?_
                      refine JcI (z := 385) (show mx_Sn _ _ 89 (mx_const (.int 385) 92) from sn_259 89) rfl ?_
                      refine mx_J.step (sn_259 92) (fun _ _ => rfl) ?_
                      refine JcI (z := 1) (show mx_Sn _ _ 94 (mx_const (.int 1) 95) from sn_259 94) rfl ?_
                      refine Jiadd (show mx_Sn _ _ 95 (mx_iadd 96) from sn_259 95) ?_
                      refine Jimul (show mx_Sn _ _ 96 (mx_imul 97) from sn_259 96) ?_
                      refine mx_J.step (sn_259 97) (fun _ _ => rfl) ?_
                      refine JgetR (g := 32) (b := 73) hx7 (show mx_Sn _ _ 98 (mx_getf 12 32 101) from sn_259 98) a56 s56 rfl rfl (hG7.prr 56 32 rfl) ?_
                      refine JcI (z := 19) (show mx_Sn _ _ 101 (mx_const (.int 19) 103) from sn_259 101) rfl ?_
                      refine mx_J.step (sn_259 103) (fun _ _ => rfl) ?_
                      refine Jimul (show mx_Sn _ _ 105 (mx_imul 106) from sn_259 105) ?_
                      refine mx_J.step (sn_259 106) (fun _ _ => rfl) ?_
                      refine Jiadd (show mx_Sn _ _ 108 (mx_iadd 109) from sn_259 108) ?_
                      refine JialdI (z := Z7 73 ((19 * w20_4) + w21_6)) hx7 (show mx_Sn _ _ 109 (mx_iald 110) from sn_259 109) a73 s73 (by omega) rfl ?_
                      refine Jiadd (show mx_Sn _ _ 110 (mx_iadd 111) from sn_259 110) ?_
                      have b30 : (-9223372036854775808) ≤ Z7 78 ((385 * (w20_5 + 1)) + (Z7 73 ((19 * w20_4) + w21_6))) ∧ Z7 78 ((385 * (w20_5 + 1)) + (Z7 73 ((19 * w20_4) + w21_6))) ≤ 9223372036854775807 := hG7.pr 78 ((385 * (w20_5 + 1)) + (Z7 73 ((19 * w20_4) + w21_6)))
                      refine JlaldL (z := Z7 78 ((385 * (w20_5 + 1)) + (Z7 73 ((19 * w20_4) + w21_6)))) hx7 (show mx_Sn _ _ 111 (mx_lald 112) from sn_259 111) a78 s78 (by omega) rfl ?_
                      refine JcL (z := 0) (show mx_Sn _ _ 112 (mx_const (.long 0) 113) from sn_259 112) rfl ?_
                      refine Jlif_ne (show mx_Sn _ _ 113 (mx_lif_ne 123 117) from sn_259 113) (by omega) (by omega) (fun q31 => ?_) (fun q31 => ?_)
                      · skip
                        refine mx_J.step (sn_259 123) (fun _ _ => rfl) ?_
                        refine mx_J.step (sn_259 125) (fun _ _ => rfl) ?_
                        refine Jicmp_ne (show mx_Sn _ _ 126 (mx_icmp_ne 132 129) from sn_259 126) (by omega) (by omega) (fun q32 => ?_) (fun q32 => ?_)
                        · skip
                          have a7 := ai_at (Z := Z7) (c := 73) (i := 19 * w20_4 + w21_6) (len := 19 * Z 56 18) (lo := -1) (hi := Z 56 18 - 1) (by omega) (by omega)
                          have ie := io_e Z7 x0 w20_5 (Z7 73 (19 * w20_4 + w21_6))
                          refine mx_J.step (sn_259 132) (fun _ _ => rfl) ?_
                          refine JgetR (g := 32) (b := 73) hx7 (show mx_Sn _ _ 133 (mx_getf 12 32 136) from sn_259 133) a56 s56 rfl rfl (hG7.prr 56 32 rfl) ?_
                          refine JcI (z := 19) (show mx_Sn _ _ 136 (mx_const (.int 19) 138) from sn_259 136) rfl ?_
                          refine mx_J.step (sn_259 138) (fun _ _ => rfl) ?_
                          refine Jimul (show mx_Sn _ _ 140 (mx_imul 141) from sn_259 140) ?_
                          refine mx_J.step (sn_259 141) (fun _ _ => rfl) ?_
                          refine Jiadd (show mx_Sn _ _ 143 (mx_iadd 144) from sn_259 143) ?_
                          refine JialdI (z := Z7 73 ((19 * w20_4) + w21_6)) hx7 (show mx_Sn _ _ 144 (mx_iald 145) from sn_259 144) a73 s73 (by omega) rfl ?_
                          refine mx_J.step (ls2 := [some (.ref 56), some (xI x0), some (xI x1), some (xI z2), some (xI (Z7 73 ((19 * w20_4) + w21_6))), some (xI w20_5), some (xI w21_6)]) (sn_259 145) (fun _ _ => rfl) ?_
                          refine Jiinc (z := w20_5) (cz := 1) (ls2 := [some (.ref 56), some (xI x0), some (xI x1), some (xI z2), some (xI (Z7 73 ((19 * w20_4) + w21_6))), some (xI (w20_5 + 1)), some (xI w21_6)]) (show mx_Sn _ _ 147 (mx_iinc 5 1 150) from sn_259 147) rfl rfl rfl rfl ?_
                          refine mx_J.step (sn_259 150) (fun _ _ => rfl) ?_
                          exact ih20 (Z7 73 ((19 * w20_4) + w21_6)) (w20_5 + 1) (some (xI w21_6)) (by omega) (by omega) (by omega) (by omega)
                        · skip
                          refine mx_J.step (sn_259 129) (fun _ _ => rfl) ?_
                          exact mx_J.ret (sn_259 131) (fun _ _ => rfl) (hP w21_6 Z7 h7 hx7 hG7 (fr_tr (M := [(56, 0), (62, (-1)), (64, (-1)), (65, (-1)), (73, (-1)), (78, (-1))]) (fr_tr (M := [(56, 0), (62, (-1)), (64, (-1)), (65, (-1)), (73, (-1)), (78, (-1))]) fr_rf (fr_up hE1) (M1 := []) rfl rfl) (hf7) rfl rfl) (by omega))
                      · skip
                        exact c117 (by first | exact (fun hq => by have h1 := hq.1; omega) | exact (fun hq => hq.2 (by omega)))
                exact c62 (Int.toNat (19 - 0) + 1) 0 (by omega) (by omega) (by first | exact nd_0 (by omega) | assumption)
            exact c59 (Int.toNat (x1 - 0) + 1) (Z 57 27) 0 none (by omega) (by omega) (by omega) (by omega)
          · skip
            exact c45 
      · skip
        refine JcI (z := (-3)) (show mx_Sn _ _ 22 (mx_const (.int (-3)) 24) from sn_259 22) rfl ?_
        exact mx_J.ret (sn_259 24) (fun _ _ => rfl) (hP (-3) Z1 h1 hx1 hG1 (fr_tr (M := [(56, 0), (62, (-1)), (64, (-1)), (65, (-1)), (73, (-1)), (78, (-1))]) fr_rf (fr_up hE1) (M1 := []) rfl rfl) (by omega))
    · skip
      refine mx_J.step (sn_259 16) (fun _ _ => rfl) ?_
      exact mx_J.ret (sn_259 17) (fun _ _ => rfl) (hP z2 Z1 h1 hx1 hG1 (fr_tr (M := [(56, 0), (62, (-1)), (64, (-1)), (65, (-1)), (73, (-1)), (78, (-1))]) fr_rf (fr_up hE1) (M1 := []) rfl rfl) (by omega))
theorem ct_259_56 {l : Launch} {D : va_G} {b0 : Nat} {ad : Nat → Nat} {Hb : Heap} {tau : Nat → Int64} {d n s : Nat} {S : Nat → xS} {Z : xZ} {h : mx_H} (hx : XH n s S Z h) (hG : GI n S Z)  {x0 x1 : Int} (p0 : (-2147483648) ≤ x0 ∧ x0 ≤ 2147483647) (p1 : (-2147483648) ≤ x1 ∧ x1 ≤ 2147483647) : ∃ (z : Int) (Z' : xZ) (h' : mx_H), mx_Ca (tB l D b0 ad Hb tau) (d + 8) 259 [.ref 56, xI x0, xI x1] h (some (xI z), h') ∧ XH n s S Z' h' ∧ GI n S Z' ∧ fr' [(56, 0), (62, (-1)), (64, (-1)), (65, (-1)), (73, (-1)), (78, (-1))] Z Z' ∧ ((-6) ≤ z ∧ z ≤ 18) := by
  obtain ⟨r, hca, z, Z', h', e, q⟩ := Jmt (B := tB l D b0 ad Hb tau) (M := mt_259) (mi := 259) (as := [.ref 56, xI x0, xI x1]) (d := d + 7) (ls := [some (.ref 56), some (xI x0), some (xI x1), none, none, none, none]) rfl rfl rfl rfl rfl rfl (cw_259_56 (l := l) (D := D) (b0 := b0) (ad := ad) (Hb := Hb) (tau := tau) (d := d) (Post := fun r => ∃ (z : Int) (Z' : xZ) (h' : mx_H), r = (some (xI z), h') ∧ XH n s S Z' h' ∧ GI n S Z' ∧ fr' [(56, 0), (62, (-1)), (64, (-1)), (65, (-1)), (73, (-1)), (78, (-1))] Z Z' ∧ ((-6) ≤ z ∧ z ≤ 18)) hx hG p0 p1 (fun z Z' h' q1 q2 q3 q4 => ⟨z, Z', h', rfl, q1, q2, q3, q4⟩))
  subst e; exact ⟨z, Z', h', hca, q⟩
set_option maxRecDepth 100000 in
theorem cw_260_56 {l : Launch} {D : va_G} {b0 : Nat} {ad : Nat → Nat} {Hb : Heap} {tau : Nat → Int64} {d n s : Nat} {S : Nat → xS} {Z : xZ} {h : mx_H} {Post : mx_R → Prop} (hx : XH n s S Z h) (hG : GI n S Z)  {x0 x1 : Int} (p0 : (-2147483648) ≤ x0 ∧ x0 ≤ 2147483647) (p1 : (-2147483648) ≤ x1 ∧ x1 ≤ 2147483647) (hP : ∀ (z : Int) (Z' : xZ) (h' : mx_H), XH n s S Z' h' → GI n S Z' → fr' [(56, 0), (62, (-1)), (64, (-1)), (65, (-1)), (73, (-1)), (76, (-1)), (77, (-1)), (78, (-1))] Z Z' → (-2147483648) ≤ z ∧ z ≤ 2147483647 → Post (some (xI z), h')) : mx_J (tB l D b0 ad Hb tau) mt_260 (d + 7) 0 [some (.ref 56), some (xI x0), some (xI x1), none, none, none, none, none, none] [] h Post := by
    have a56 : 56 < n := lt83 (GI_n hG) rfl
    have s56 : S 56 = .inl (12, [0, 2, 2, 2, 2, 0, 0, 0, 0, 0, 0, 0, 0, 0, 0, 2, 2, 2, 0, 2, 2, 2, 0, 0, 2, 2, 2, 2, 2, 2, 0, 0, 2, 2, 2, 2, 2, 2, 2, 2, 2, 2]) := GI_s hG 56 rfl
    have a73 : 73 < n := lt83 (GI_n hG) rfl
    have s73 : S 73 = .inr (.int, 7315, 0) := GI_s hG 73 rfl
    have a76 : 76 < n := lt83 (GI_n hG) rfl
    have s76 : S 76 = .inr (.long, 385, 1) := GI_s hG 76 rfl
    have a77 : 77 < n := lt83 (GI_n hG) rfl
    have s77 : S 77 = .inr (.long, 385, 1) := GI_s hG 77 rfl
    have a78 : 78 < n := lt83 (GI_n hG) rfl
    have s78 : S 78 = .inr (.long, 3465, 1) := GI_s hG 78 rfl
    have a81 : 81 < n := lt83 (GI_n hG) rfl
    have s81 : S 81 = .inr (.int, 4, 0) := GI_s hG 81 rfl
    refine mx_J.step (sn_260 0) (fun _ _ => rfl) ?_
    refine JcI (z := 0) (show mx_Sn _ _ 1 (mx_const (.int 0) 2) from sn_260 1) rfl ?_
    refine JputI (g := 0) hx (show mx_Sn _ _ 2 (mx_putf 1 12 0 (.int) 5) from sn_260 2) a56 s56 rfl rfl rfl rfl (fun Z1 h1 hx1 hE1 => ?_)
    have hG1 := GI_up hG hE1 (show (-2147483648) ≤ 0 ∧ 0 ≤ 2147483647 by omega) trivial rfl
    refine mx_J.step (sn_260 5) (fun _ _ => rfl) ?_
    refine mx_J.step (sn_260 6) (fun _ _ => rfl) ?_
    refine JcI (z := 1) (show mx_Sn _ _ 7 (mx_const (.int 1) 8) from sn_260 7) rfl ?_
    have eq3 : Z1 81 x0 = Z 81 x0 := (up_nk hE1 rfl)
    have b4 : 0 ≤ Z 81 x0 ∧ Z 81 x0 ≤ 40 := hG.pr 81 x0
    obtain ⟨z2, hc2, b2⟩ := ct_255_56 (d := d + 4) (l := l) (D := D) (b0 := b0) (ad := ad) (Hb := Hb) (tau := tau) hx1 hG1 (show (-2147483648) ≤ x0 ∧ x0 ≤ 2147483647 by omega) (show 0 ≤ 1 ∧ 1 ≤ 1 by omega)
    try rw [eq3] at b2
    refine Jcv hx1 (show mx_Sn _ _ 8 (mx_callv 255 3 12 11) from sn_260 8) a56 s56 hc2 rfl rfl rfl ?_
    refine mx_J.step (ls2 := [some (.ref 56), some (xI x0), some (xI x1), some (xI z2), none, none, none, none, none]) (sn_260 11) (fun _ _ => rfl) ?_
    refine mx_J.step (sn_260 12) (fun _ _ => rfl) ?_
    refine Jif_eq (show mx_Sn _ _ 13 (mx_if_eq 18 16) from sn_260 13) (by omega) (fun q5 => ?_) (fun q5 => ?_)
    · skip
      refine mx_J.step (sn_260 18) (fun _ _ => rfl) ?_
      refine Jif_ge (show mx_Sn _ _ 19 (mx_if_ge 25 22) from sn_260 19) (by omega) (fun q6 => ?_) (fun q6 => ?_)
      · skip
        refine mx_J.step (sn_260 25) (fun _ _ => rfl) ?_
        refine mx_J.step (sn_260 26) (fun _ _ => rfl) ?_
        refine JgetR (g := 40) (b := 81) hx1 (show mx_Sn _ _ 27 (mx_getf 12 40 30) from sn_260 27) a56 s56 rfl rfl (hG1.prr 56 40 rfl) ?_
        refine mx_J.step (sn_260 30) (fun _ _ => rfl) ?_
        refine JialdI (z := Z 81 x0) hx1 (show mx_Sn _ _ 31 (mx_iald 32) from sn_260 31) a81 s81 (by omega) (up_nk hE1 rfl) ?_
        refine Jicmp_lt (show mx_Sn _ _ 32 (mx_icmp_lt 38 35) from sn_260 32) (by omega) (by omega) (fun q8 => ?_) (fun q8 => ?_)
        · skip
          refine JcI (z := 0) (show mx_Sn _ _ 38 (mx_const (.int 0) 39) from sn_260 38) rfl ?_
          refine mx_J.step (ls2 := [some (.ref 56), some (xI x0), some (xI x1), some (xI z2), some (xI 0), none, none, none, none]) (sn_260 39) (fun _ _ => rfl) ?_
          refine mx_J.step (sn_260 41) (fun _ _ => rfl) ?_
          refine mx_J.step (sn_260 42) (fun _ _ => rfl) ?_
          have eq10 : Z1 56 18 = Z 56 18 := (up_ni hE1 (by decide))
          have b11 : 0 ≤ Z 56 18 ∧ Z 56 18 ≤ 385 := hG.pr 56 18
          have eq12 : Z1 81 x0 = Z 81 x0 := (up_nk hE1 rfl)
          have eq13 : Z1 57 27 = Z 57 27 := (up_nk hE1 rfl)
          have b14 := GI_st hG 27
          have b15 : 0 ≤ Z 57 27 ∧ Z 57 27 ≤ 384 := by have hq := GI_ex hG 57 27; replace hq : f57 (27 % 962) (Z 57 27) := hq; unfold f57 at hq; omega
          have b16 : (-2147483648) ≤ Z 57 27 ∧ Z 57 27 ≤ 2147483647 := hG.pr 57 27
          obtain ⟨z9, Z9, h9, hc9, hx9, hG9, hf9, b9⟩ := ct_257_56 (g0 := Z 57 27) (d := d + 0) (l := l) (D := D) (b0 := b0) (ad := ad) (Hb := Hb) (tau := tau) hx1 hG1 (show 0 ≤ x0 ∧ x0 ≤ 3 by omega) (show 1 ≤ Z1 81 x0 by first | omega | (simp only [eq10, eq12, eq13]; omega)) (show Z1 81 x0 ≤ 8 by first | omega | (simp only [eq10, eq12, eq13]; omega)) (show (Z 57 27) = Z1 57 27 by first | omega | (simp only [eq10, eq12, eq13]; omega))
          try rw [eq10] at b9
          try rw [eq12] at b9
          try rw [eq13] at b9
          refine Jcv hx1 (show mx_Sn _ _ 43 (mx_callv 257 2 12 46) from sn_260 43) a56 s56 hc9 rfl rfl rfl ?_
          refine JcL (z := 0) (show mx_Sn _ _ 46 (mx_const (.long 0) 47) from sn_260 46) rfl ?_
          refine Jlif_ne (show mx_Sn _ _ 47 (mx_lif_ne 54 51) from sn_260 47) (by omega) (by omega) (fun q17 => ?_) (fun q17 => ?_)
          · skip
            refine mx_J.step (sn_260 54) (fun _ _ => rfl) ?_
            obtain ⟨Z18, h18, hc18, hx18, hG18, hf18⟩ := ct_243_56 (d := d + 6) (l := l) (D := D) (b0 := b0) (ad := ad) (Hb := Hb) (tau := tau) hx9 hG9 
            refine Jcv0 hx9 (show mx_Sn _ _ 55 (mx_callv 243 1 12 58) from sn_260 55) a56 s56 hc18 rfl rfl rfl ?_
            refine JcI (z := 0) (show mx_Sn _ _ 58 (mx_const (.int 0) 59) from sn_260 58) rfl ?_
            refine mx_J.step (ls2 := [some (.ref 56), some (xI x0), some (xI x1), some (xI z2), some (xI 0), some (xI 0), none, none, none]) (sn_260 59) (fun _ _ => rfl) ?_
            have c61 : ∀ (m19 : Nat) (w19_4 : Int) (w19_5 : Int) (u19_6 : Option Value) (u19_7 : Option Value) (u19_8 : Option Value) (Z20 : xZ) (h20 : mx_H), 8 - w19_5 < (m19 : Int) → (-2147483648) ≤ w19_4 ∧ w19_4 ≤ 2147483647 → 0 ≤ w19_5 ∧ w19_5 ≤ 8 → XH n s S Z20 h20 → GI n S Z20 → fr' [(76, (-1)), (77, (-1))] Z18 Z20 → mx_J (tB l D b0 ad Hb tau) mt_260 (d + 7) 61 [some (.ref 56), some (xI x0), some (xI x1), some (xI z2), some (xI w19_4), some (xI w19_5), u19_6, u19_7, u19_8] [] h20 Post := by
              intro m19
              induction m19 with
              | zero => intro w19_4 w19_5 u19_6 u19_7 u19_8 Z20 h20 q19 f19_0 f19_1 hx20 hG20 hf20; exact absurd q19 (by omega)
              | succ m19 ih19 =>
                intro w19_4 w19_5 u19_6 u19_7 u19_8 Z20 h20 q19 f19_0 f19_1 hx20 hG20 hf20
                refine mx_J.step (sn_260 61) (fun _ _ => rfl) ?_
                refine mx_J.step (sn_260 63) (fun _ _ => rfl) ?_
                refine Jicmp_gt (show mx_Sn _ _ 64 (mx_icmp_gt 194 67) from sn_260 64) (by omega) (by omega) (fun q21 => ?_) (fun q21 => ?_)
                · skip
                  refine mx_J.step (sn_260 194) (fun _ _ => rfl) ?_
                  exact mx_J.ret (sn_260 196) (fun _ _ => rfl) (hP w19_4 Z20 h20 hx20 hG20 (fr_tr (M := [(56, 0), (62, (-1)), (64, (-1)), (65, (-1)), (73, (-1)), (76, (-1)), (77, (-1)), (78, (-1))]) (fr_tr (M := [(56, 0), (62, (-1)), (64, (-1)), (65, (-1)), (73, (-1)), (76, (-1)), (77, (-1)), (78, (-1))]) (fr_tr (M := [(56, 0), (62, (-1)), (64, (-1)), (65, (-1)), (73, (-1)), (76, (-1)), (77, (-1)), (78, (-1))]) (fr_tr (M := [(56, 0), (62, (-1)), (64, (-1)), (65, (-1)), (73, (-1)), (76, (-1)), (77, (-1)), (78, (-1))]) fr_rf (fr_up hE1) (M1 := []) rfl rfl) (hf9) rfl rfl) (hf18) rfl rfl) (hf20) rfl rfl) (by omega))
                · skip
                  refine JcI (z := 0) (show mx_Sn _ _ 67 (mx_const (.int 0) 68) from sn_260 67) rfl ?_
                  refine mx_J.step (ls2 := [some (.ref 56), some (xI x0), some (xI x1), some (xI z2), some (xI 0), some (xI w19_5), u19_6, u19_7, u19_8]) (sn_260 68) (fun _ _ => rfl) ?_
                  refine JcI (z := 0) (show mx_Sn _ _ 70 (mx_const (.int 0) 71) from sn_260 70) rfl ?_
                  refine mx_J.step (ls2 := [some (.ref 56), some (xI x0), some (xI x1), some (xI z2), some (xI 0), some (xI w19_5), some (xI 0), u19_7, u19_8]) (sn_260 71) (fun _ _ => rfl) ?_
                  have c73 : ∀ (m22 : Nat) (w22_4 : Int) (w22_6 : Int) (u22_7 : Option Value) (u22_8 : Option Value) (Z23 : xZ) (h23 : mx_H), 385 - w22_6 < (m22 : Int) → (-2147483648) ≤ w22_4 ∧ w22_4 ≤ 2147483647 → 0 ≤ w22_6 ∧ w22_6 ≤ 385 → XH n s S Z23 h23 → GI n S Z23 → fr' [(77, (-1))] Z20 Z23 → mx_J (tB l D b0 ad Hb tau) mt_260 (d + 7) 73 [some (.ref 56), some (xI x0), some (xI x1), some (xI z2), some (xI w22_4), some (xI w19_5), some (xI w22_6), u22_7, u22_8] [] h23 Post := by
                    intro m22
                    induction m22 with
                    | zero => intro w22_4 w22_6 u22_7 u22_8 Z23 h23 q22 f22_0 f22_1 hx23 hG23 hf23; exact absurd q22 (by omega)
                    | succ m22 ih22 =>
                      intro w22_4 w22_6 u22_7 u22_8 Z23 h23 q22 f22_0 f22_1 hx23 hG23 hf23
                      refine mx_J.step (sn_260 73) (fun _ _ => rfl) ?_
                      refine mx_J.step (sn_260 75) (fun _ _ => rfl) ?_
                      refine JgetI (g := 18) (z := Z 56 18) hx23 (show mx_Sn _ _ 76 (mx_getf 12 18 79) from sn_260 76) a56 s56 rfl rfl ((hf23 56 18 rfl).trans ((hf20 56 18 rfl).trans ((hf18 56 18 rfl).trans ((hf9 56 18 rfl).trans (up_ni hE1 (by decide)))))) ?_
                      refine Jicmp_ge (show mx_Sn _ _ 79 (mx_icmp_ge 184 82) from sn_260 79) (by omega) (by omega) (fun q25 => ?_) (fun q25 => ?_)
                      · skip
                        refine mx_J.step (sn_260 184) (fun _ _ => rfl) ?_
                        obtain ⟨Z26, h26, hc26, hx26, hG26, hf26⟩ := ct_244_56 (d := d + 6) (l := l) (D := D) (b0 := b0) (ad := ad) (Hb := Hb) (tau := tau) hx23 hG23 
                        refine Jcv0 hx23 (show mx_Sn _ _ 185 (mx_callv 244 1 12 188) from sn_260 185) a56 s56 hc26 rfl rfl rfl ?_
                        refine Jiinc (z := w19_5) (cz := 1) (ls2 := [some (.ref 56), some (xI x0), some (xI x1), some (xI z2), some (xI w22_4), some (xI (w19_5 + 1)), some (xI w22_6), u22_7, u22_8]) (show mx_Sn _ _ 188 (mx_iinc 5 1 191) from sn_260 188) rfl rfl rfl rfl ?_
                        refine mx_J.step (sn_260 191) (fun _ _ => rfl) ?_
                        exact ih19 w22_4 (w19_5 + 1) (some (xI w22_6)) u22_7 u22_8 Z26 h26 (by omega) (by omega) (by omega) hx26 hG26 (fr_tr (M := [(76, (-1)), (77, (-1))]) (fr_tr (M := [(76, (-1)), (77, (-1))]) (fr_tr (M := [(76, (-1)), (77, (-1))]) fr_rf (hf20) (M1 := []) rfl rfl) (hf23) rfl rfl) (hf26) rfl rfl)
                      · skip
                        refine JcI (z := 0) (show mx_Sn _ _ 82 (mx_const (.int 0) 83) from sn_260 82) rfl ?_
                        refine mx_J.step (ls2 := [some (.ref 56), some (xI x0), some (xI x1), some (xI z2), some (xI w22_4), some (xI w19_5), some (xI w22_6), some (xI 0), u22_8]) (sn_260 83) (fun _ _ => rfl) ?_
                        have c85 : ∀ (m27 : Nat) (w27_4 : Int) (w27_7 : Int) (u27_8 : Option Value) (Z28 : xZ) (h28 : mx_H), 19 - w27_7 < (m27 : Int) → (-2147483648) ≤ w27_4 ∧ w27_4 ≤ 2147483647 → 0 ≤ w27_7 ∧ w27_7 ≤ 19 → XH n s S Z28 h28 → GI n S Z28 → fr' [(77, (-1))] Z23 Z28 → mx_J (tB l D b0 ad Hb tau) mt_260 (d + 7) 85 [some (.ref 56), some (xI x0), some (xI x1), some (xI z2), some (xI w27_4), some (xI w19_5), some (xI w22_6), some (xI w27_7), u27_8] [] h28 Post := by
                          intro m27
                          induction m27 with
                          | zero => intro w27_4 w27_7 u27_8 Z28 h28 q27 f27_0 f27_1 hx28 hG28 hf28; exact absurd q27 (by omega)
                          | succ m27 ih27 =>
                            intro w27_4 w27_7 u27_8 Z28 h28 q27 f27_0 f27_1 hx28 hG28 hf28
                            refine mx_J.step (sn_260 85) (fun _ _ => rfl) ?_
                            refine JcI (z := 19) (show mx_Sn _ _ 87 (mx_const (.int 19) 89) from sn_260 87) rfl ?_
                            have c178 : mx_J (tB l D b0 ad Hb tau) mt_260 (d + 7) 178 [some (.ref 56), some (xI x0), some (xI x1), some (xI z2), some (xI w27_4), some (xI w19_5), some (xI w22_6), some (xI w27_7), u27_8] [] h28 Post := by
                              refine Jiinc (z := w22_6) (cz := 1) (ls2 := [some (.ref 56), some (xI x0), some (xI x1), some (xI z2), some (xI w27_4), some (xI w19_5), some (xI (w22_6 + 1)), some (xI w27_7), u27_8]) (show mx_Sn _ _ 178 (mx_iinc 6 1 181) from sn_260 178) rfl rfl rfl rfl ?_
                              refine mx_J.step (sn_260 181) (fun _ _ => rfl) ?_
                              exact ih22 w27_4 (w22_6 + 1) (some (xI w27_7)) u27_8 Z28 h28 (by omega) (by omega) (by omega) hx28 hG28 (fr_tr (M := [(77, (-1))]) (fr_tr (M := [(77, (-1))]) fr_rf (hf23) (M1 := []) rfl rfl) (hf28) rfl rfl)
                            refine Jicmp_ge (show mx_Sn _ _ 89 (mx_icmp_ge 178 92) from sn_260 89) (by omega) (by omega) (fun q30 => ?_) (fun q30 => ?_)
                            · skip
                              exact c178 
                            · skip
                              refine mx_J.step (sn_260 92) (fun _ _ => rfl) ?_
                              refine JgetR (g := 35) (b := 76) hx28 (show mx_Sn _ _ 93 (mx_getf 12 35 96) from sn_260 93) a56 s56 rfl rfl (hG28.prr 56 35 rfl) ?_
                              refine mx_J.step (sn_260 96) (fun _ _ => rfl) ?_
                              have b32 : (-9223372036854775808) ≤ Z20 76 w22_6 ∧ Z20 76 w22_6 ≤ 9223372036854775807 := hG20.pr 76 w22_6
                              refine JlaldL (z := Z20 76 w22_6) hx28 (show mx_Sn _ _ 98 (mx_lald 99) from sn_260 98) a76 s76 (by omega) ((hf28 76 w22_6 rfl).trans (hf23 76 w22_6 rfl)) ?_
                              refine JcL (z := 0) (show mx_Sn _ _ 99 (mx_const (.long 0) 100) from sn_260 99) rfl ?_
                              refine Jlif_le (show mx_Sn _ _ 100 (mx_lif_le 178 104) from sn_260 100) (by omega) (by omega) (fun q33 => ?_) (fun q33 => ?_)
                              · skip
                                exact c178 
                              · skip
                                refine mx_J.step (sn_260 104) (fun _ _ => rfl) ?_
                                refine JgetR (g := 32) (b := 73) hx28 (show mx_Sn _ _ 105 (mx_getf 12 32 108) from sn_260 105) a56 s56 rfl rfl (hG28.prr 56 32 rfl) ?_
                                refine JcI (z := 19) (show mx_Sn _ _ 108 (mx_const (.int 19) 110) from sn_260 108) rfl ?_
                                refine mx_J.step (sn_260 110) (fun _ _ => rfl) ?_
                                refine Jimul (show mx_Sn _ _ 112 (mx_imul 113) from sn_260 112) ?_
                                refine mx_J.step (sn_260 113) (fun _ _ => rfl) ?_
                                refine Jiadd (show mx_Sn _ _ 115 (mx_iadd 116) from sn_260 115) ?_
                                have b35 : (-1) ≤ Z9 73 ((19 * w22_6) + w27_7) ∧ Z9 73 ((19 * w22_6) + w27_7) ≤ 384 := hG9.pr 73 ((19 * w22_6) + w27_7)
                                refine JialdI (z := Z9 73 ((19 * w22_6) + w27_7)) hx28 (show mx_Sn _ _ 116 (mx_iald 117) from sn_260 116) a73 s73 (by omega) ((hf28 73 ((19 * w22_6) + w27_7) rfl).trans ((hf23 73 ((19 * w22_6) + w27_7) rfl).trans ((hf20 73 ((19 * w22_6) + w27_7) rfl).trans (hf18 73 ((19 * w22_6) + w27_7) rfl)))) ?_
                                refine mx_J.step (ls2 := [some (.ref 56), some (xI x0), some (xI x1), some (xI z2), some (xI w27_4), some (xI w19_5), some (xI w22_6), some (xI w27_7), some (xI (Z9 73 ((19 * w22_6) + w27_7)))]) (sn_260 117) (fun _ _ => rfl) ?_
                                refine mx_J.step (sn_260 119) (fun _ _ => rfl) ?_
                                refine mx_J.step (sn_260 120) (fun _ _ => rfl) ?_
                                refine mx_J.step (sn_260 121) (fun _ _ => rfl) ?_
                                refine mx_J.step (sn_260 123) (fun _ _ => rfl) ?_
                                have eq37 : io Z28 x0 w19_5 (Z9 73 ((19 * w22_6) + w27_7)) = io Z x0 w19_5 (Z9 73 ((19 * w22_6) + w27_7)) := ((io_c (fun i => hf28 61 i rfl) (fun i => hf28 82 i rfl)).trans ((io_c (fun i => hf23 61 i rfl) (fun i => hf23 82 i rfl)).trans ((io_c (fun i => hf20 61 i rfl) (fun i => hf20 82 i rfl)).trans ((io_c (fun i => hf18 61 i rfl) (fun i => hf18 82 i rfl)).trans ((io_c (fun i => hf9 61 i rfl) (fun i => hf9 82 i rfl)).trans (io_c (fun i => up_nk hE1 rfl) (fun i => up_nk hE1 rfl)))))))
                                obtain ⟨z36, hc36, b36⟩ := ct_256_56 (d := d + 4) (l := l) (D := D) (b0 := b0) (ad := ad) (Hb := Hb) (tau := tau) hx28 hG28 (show 0 ≤ x0 ∧ x0 ≤ 3 by omega) (show 0 ≤ w19_5 ∧ w19_5 ≤ 7 by omega) (show (-1) ≤ Z9 73 ((19 * w22_6) + w27_7) ∧ Z9 73 ((19 * w22_6) + w27_7) ≤ 384 by omega)
                                refine Jcv hx28 (show mx_Sn _ _ 125 (mx_callv 256 4 12 128) from sn_260 125) a56 s56 hc36 rfl rfl rfl ?_
                                have c172 : ∀ (w38_4 : Int) (Z39 : xZ) (h39 : mx_H), (-2147483648) ≤ w38_4 ∧ w38_4 ≤ 2147483647 → XH n s S Z39 h39 → GI n S Z39 → fr' [(77, (-1))] Z28 Z39 → mx_J (tB l D b0 ad Hb tau) mt_260 (d + 7) 172 [some (.ref 56), some (xI x0), some (xI x1), some (xI z2), some (xI w38_4), some (xI w19_5), some (xI w22_6), some (xI w27_7), some (xI (Z9 73 ((19 * w22_6) + w27_7)))] [] h39 Post := by
                                  intro w38_4 Z39 h39 f38_0 hx39 hG39 hf39
                                  refine Jiinc (z := w27_7) (cz := 1) (ls2 := [some (.ref 56), some (xI x0), some (xI x1), some (xI z2), some (xI w38_4), some (xI w19_5), some (xI w22_6), some (xI (w27_7 + 1)), some (xI (Z9 73 ((19 * w22_6) + w27_7)))]) (show mx_Sn _ _ 172 (mx_iinc 7 1 175) from sn_260 172) rfl rfl rfl rfl ?_
                                  refine mx_J.step (sn_260 175) (fun _ _ => rfl) ?_
                                  exact ih27 w38_4 (w27_7 + 1) (some (xI (Z9 73 ((19 * w22_6) + w27_7)))) Z39 h39 (by omega) (by omega) (by omega) hx39 hG39 (fr_tr (M := [(77, (-1))]) (fr_tr (M := [(77, (-1))]) fr_rf (hf28) (M1 := []) rfl rfl) (hf39) rfl rfl)
                                refine Jif_eq (show mx_Sn _ _ 128 (mx_if_eq 172 131) from sn_260 128) (by omega) (fun q40 => ?_) (fun q40 => ?_)
                                · skip
                                  exact c172 w27_4 Z28 h28 (by omega) hx28 hG28 fr_rf
                                · skip
                                  have ie := io_e Z28 x0 w19_5 (Z9 73 ((19 * w22_6) + w27_7))
                                  refine mx_J.step (sn_260 131) (fun _ _ => rfl) ?_
                                  refine JgetR (g := 37) (b := 78) hx28 (show mx_Sn _ _ 132 (mx_getf 12 37 135) from sn_260 132) a56 s56 rfl rfl (hG28.prr 56 37 rfl) ?_
                                  refine JcI (z := 385) (show mx_Sn _ _ 135 (mx_const (.int 385) 138) from sn_260 135) rfl ?_
                                  refine mx_J.step (sn_260 138) (fun _ _ => rfl) ?_
                                  refine JcI (z := 1) (show mx_Sn _ _ 140 (mx_const (.int 1) 141) from sn_260 140) rfl ?_
                                  refine Jiadd (show mx_Sn _ _ 141 (mx_iadd 142) from sn_260 141) ?_
                                  refine Jimul (show mx_Sn _ _ 142 (mx_imul 143) from sn_260 142) ?_
                                  refine mx_J.step (sn_260 143) (fun _ _ => rfl) ?_
                                  refine Jiadd (show mx_Sn _ _ 145 (mx_iadd 146) from sn_260 145) ?_
                                  have b42 : (-9223372036854775808) ≤ Z9 78 ((385 * (w19_5 + 1)) + (Z9 73 ((19 * w22_6) + w27_7))) ∧ Z9 78 ((385 * (w19_5 + 1)) + (Z9 73 ((19 * w22_6) + w27_7))) ≤ 9223372036854775807 := hG9.pr 78 ((385 * (w19_5 + 1)) + (Z9 73 ((19 * w22_6) + w27_7)))
                                  refine JlaldL (z := Z9 78 ((385 * (w19_5 + 1)) + (Z9 73 ((19 * w22_6) + w27_7)))) hx28 (show mx_Sn _ _ 146 (mx_lald 147) from sn_260 146) a78 s78 (by omega) ((hf28 78 ((385 * (w19_5 + 1)) + (Z9 73 ((19 * w22_6) + w27_7))) rfl).trans ((hf23 78 ((385 * (w19_5 + 1)) + (Z9 73 ((19 * w22_6) + w27_7))) rfl).trans ((hf20 78 ((385 * (w19_5 + 1)) + (Z9 73 ((19 * w22_6) + w27_7))) rfl).trans (hf18 78 ((385 * (w19_5 + 1)) + (Z9 73 ((19 * w22_6) + w27_7))) rfl)))) ?_
                                  refine JcL (z := 0) (show mx_Sn _ _ 147 (mx_const (.long 0) 148) from sn_260 147) rfl ?_
                                  refine Jlif_ne (show mx_Sn _ _ 148 (mx_lif_ne 155 152) from sn_260 148) (by omega) (by omega) (fun q43 => ?_) (fun q43 => ?_)
                                  · skip
                                    have ie2 := io_e Z28 x0 w19_5 (Z9 73 ((19 * w22_6) + w27_7))
                                    refine mx_J.step (sn_260 155) (fun _ _ => rfl) ?_
                                    refine JgetR (g := 36) (b := 77) hx28 (show mx_Sn _ _ 156 (mx_getf 12 36 159) from sn_260 156) a56 s56 rfl rfl (hG28.prr 56 36 rfl) ?_
                                    refine mx_J.step (sn_260 159) (fun _ _ => rfl) ?_
                                    refine JcL (z := 1) (show mx_Sn _ _ 161 (mx_const (.long 1) 162) from sn_260 161) rfl ?_
                                    refine JlastL hx28 (show mx_Sn _ _ 162 (mx_last 1 163) from sn_260 162) a77 s77 rfl (by omega) (fun Z45 h45 hx45 hE45 => ?_)
                                    have hG45 := GI_up hG28 hE45 (show (-9223372036854775808) ≤ 1 ∧ 1 ≤ 9223372036854775807 by omega) trivial rfl
                                    refine mx_J.step (sn_260 163) (fun _ _ => rfl) ?_
                                    refine JcI (z := 1) (show mx_Sn _ _ 165 (mx_const (.int 1) 166) from sn_260 165) rfl ?_
                                    refine mx_J.step (sn_260 166) (fun _ _ => rfl) ?_
                                    refine JishlX (show mx_Sn _ _ 168 (mx_ishl 169) from sn_260 168) (fun y46 hy46 => ?_)
                                    refine JiorX (show mx_Sn _ _ 169 (mx_ior 170) from sn_260 169) (fun y47 hy47 => ?_)
                                    refine mx_J.step (ls2 := [some (.ref 56), some (xI x0), some (xI x1), some (xI z2), some (xI y47), some (xI w19_5), some (xI w22_6), some (xI w27_7), some (xI (Z9 73 ((19 * w22_6) + w27_7)))]) (sn_260 170) (fun _ _ => rfl) ?_
                                    exact c172 y47 Z45 h45 (by omega) hx45 hG45 (fr_tr (M := [(77, (-1))]) fr_rf (fr_ua hE45) (M1 := []) rfl rfl)
                                  · skip
                                    refine mx_J.step (sn_260 152) (fun _ _ => rfl) ?_
                                    exact c172 w27_4 Z28 h28 (by omega) hx28 hG28 fr_rf
                        exact c85 (Int.toNat (19 - 0) + 1) w22_4 0 u22_8 Z23 h23 (by omega) (by omega) (by omega) hx23 hG23 fr_rf
                  exact c73 (Int.toNat (385 - 0) + 1) 0 0 u19_7 u19_8 Z20 h20 (by omega) (by omega) (by omega) hx20 hG20 fr_rf
            exact c61 (Int.toNat (8 - 0) + 1) 0 0 none none none Z18 h18 (by omega) (by omega) (by omega) hx18 hG18 fr_rf
          · skip
            refine mx_J.step (sn_260 51) (fun _ _ => rfl) ?_
            exact mx_J.ret (sn_260 53) (fun _ _ => rfl) (hP 0 Z9 h9 hx9 hG9 (fr_tr (M := [(56, 0), (62, (-1)), (64, (-1)), (65, (-1)), (73, (-1)), (76, (-1)), (77, (-1)), (78, (-1))]) (fr_tr (M := [(56, 0), (62, (-1)), (64, (-1)), (65, (-1)), (73, (-1)), (76, (-1)), (77, (-1)), (78, (-1))]) fr_rf (fr_up hE1) (M1 := []) rfl rfl) (hf9) rfl rfl) (by omega))
        · skip
          refine JcI (z := (-7)) (show mx_Sn _ _ 35 (mx_const (.int (-7)) 37) from sn_260 35) rfl ?_
          exact mx_J.ret (sn_260 37) (fun _ _ => rfl) (hP (-7) Z1 h1 hx1 hG1 (fr_tr (M := [(56, 0), (62, (-1)), (64, (-1)), (65, (-1)), (73, (-1)), (76, (-1)), (77, (-1)), (78, (-1))]) fr_rf (fr_up hE1) (M1 := []) rfl rfl) (by omega))
      · skip
        refine JcI (z := (-3)) (show mx_Sn _ _ 22 (mx_const (.int (-3)) 24) from sn_260 22) rfl ?_
        exact mx_J.ret (sn_260 24) (fun _ _ => rfl) (hP (-3) Z1 h1 hx1 hG1 (fr_tr (M := [(56, 0), (62, (-1)), (64, (-1)), (65, (-1)), (73, (-1)), (76, (-1)), (77, (-1)), (78, (-1))]) fr_rf (fr_up hE1) (M1 := []) rfl rfl) (by omega))
    · skip
      refine mx_J.step (sn_260 16) (fun _ _ => rfl) ?_
      exact mx_J.ret (sn_260 17) (fun _ _ => rfl) (hP z2 Z1 h1 hx1 hG1 (fr_tr (M := [(56, 0), (62, (-1)), (64, (-1)), (65, (-1)), (73, (-1)), (76, (-1)), (77, (-1)), (78, (-1))]) fr_rf (fr_up hE1) (M1 := []) rfl rfl) (by omega))
theorem ct_260_56 {l : Launch} {D : va_G} {b0 : Nat} {ad : Nat → Nat} {Hb : Heap} {tau : Nat → Int64} {d n s : Nat} {S : Nat → xS} {Z : xZ} {h : mx_H} (hx : XH n s S Z h) (hG : GI n S Z)  {x0 x1 : Int} (p0 : (-2147483648) ≤ x0 ∧ x0 ≤ 2147483647) (p1 : (-2147483648) ≤ x1 ∧ x1 ≤ 2147483647) : ∃ (z : Int) (Z' : xZ) (h' : mx_H), mx_Ca (tB l D b0 ad Hb tau) (d + 8) 260 [.ref 56, xI x0, xI x1] h (some (xI z), h') ∧ XH n s S Z' h' ∧ GI n S Z' ∧ fr' [(56, 0), (62, (-1)), (64, (-1)), (65, (-1)), (73, (-1)), (76, (-1)), (77, (-1)), (78, (-1))] Z Z' ∧ ((-2147483648) ≤ z ∧ z ≤ 2147483647) := by
  obtain ⟨r, hca, z, Z', h', e, q⟩ := Jmt (B := tB l D b0 ad Hb tau) (M := mt_260) (mi := 260) (as := [.ref 56, xI x0, xI x1]) (d := d + 7) (ls := [some (.ref 56), some (xI x0), some (xI x1), none, none, none, none, none, none]) rfl rfl rfl rfl rfl rfl (cw_260_56 (l := l) (D := D) (b0 := b0) (ad := ad) (Hb := Hb) (tau := tau) (d := d) (Post := fun r => ∃ (z : Int) (Z' : xZ) (h' : mx_H), r = (some (xI z), h') ∧ XH n s S Z' h' ∧ GI n S Z' ∧ fr' [(56, 0), (62, (-1)), (64, (-1)), (65, (-1)), (73, (-1)), (76, (-1)), (77, (-1)), (78, (-1))] Z Z' ∧ ((-2147483648) ≤ z ∧ z ≤ 2147483647)) hx hG p0 p1 (fun z Z' h' q1 q2 q3 q4 => ⟨z, Z', h', rfl, q1, q2, q3, q4⟩))
  subst e; exact ⟨z, Z', h', hca, q⟩
set_option maxRecDepth 100000 in
theorem cw_261_56 {l : Launch} {D : va_G} {b0 : Nat} {ad : Nat → Nat} {Hb : Heap} {tau : Nat → Int64} {d n s : Nat} {S : Nat → xS} {Z : xZ} {h : mx_H} {Post : mx_R → Prop} (hx : XH n s S Z h) (hG : GI n S Z)  {x0 : Int} (p0 : 0 ≤ x0 ∧ x0 ≤ 3) (hP : ∀ (z : Int) (Z' : xZ) (h' : mx_H), XH n s S Z' h' → GI n S Z' → fr' [(62, (-1)), (64, (-1)), (65, (-1))] Z Z' → (-2147483648) ≤ z ∧ z ≤ 2147483647 → Post (some (xI z), h')) : mx_J (tB l D b0 ad Hb tau) mt_261 (d + 5) 0 [some (.ref 56), some (xI x0), none, none, none, none, none] [] h Post := by
    have a56 : 56 < n := lt83 (GI_n hG) rfl
    have s56 : S 56 = .inl (12, [0, 2, 2, 2, 2, 0, 0, 0, 0, 0, 0, 0, 0, 0, 0, 2, 2, 2, 0, 2, 2, 2, 0, 0, 2, 2, 2, 2, 2, 2, 0, 0, 2, 2, 2, 2, 2, 2, 2, 2, 2, 2]) := GI_s hG 56 rfl
    have a57 : 57 < n := lt83 (GI_n hG) rfl
    have s57 : S 57 = .inr (.int, 2886, 0) := GI_s hG 57 rfl
    have a81 : 81 < n := lt83 (GI_n hG) rfl
    have s81 : S 81 = .inr (.int, 4, 0) := GI_s hG 81 rfl
    have a82 : 82 < n := lt83 (GI_n hG) rfl
    have s82 : S 82 = .inr (.long, 160, 1) := GI_s hG 82 rfl
    refine JcI (z := 0) (show mx_Sn _ _ 0 (mx_const (.int 0) 1) from sn_261 0) rfl ?_
    refine mx_J.step (ls2 := [some (.ref 56), some (xI x0), some (xI 0), none, none, none, none]) (sn_261 1) (fun _ _ => rfl) ?_
    refine JcI (z := 0) (show mx_Sn _ _ 2 (mx_const (.int 0) 3) from sn_261 2) rfl ?_
    refine mx_J.step (ls2 := [some (.ref 56), some (xI x0), some (xI 0), some (xI 0), none, none, none]) (sn_261 3) (fun _ _ => rfl) ?_
    have c4 : ∀ (m1 : Nat) (w1_2 : Int) (w1_3 : Int) (u1_4 : Option Value) (u1_5 : Option Value) (u1_6 : Option Value) (Z2 : xZ) (h2 : mx_H), 10 - w1_3 < (m1 : Int) → (-2147483648) ≤ w1_2 ∧ w1_2 ≤ 2147483647 → 0 ≤ w1_3 ∧ w1_3 ≤ 10 → XH n s S Z2 h2 → GI n S Z2 → fr' [(62, (-1)), (64, (-1)), (65, (-1))] Z Z2 → mx_J (tB l D b0 ad Hb tau) mt_261 (d + 5) 4 [some (.ref 56), some (xI x0), some (xI w1_2), some (xI w1_3), u1_4, u1_5, u1_6] [] h2 Post := by
      intro m1
      induction m1 with
      | zero => intro w1_2 w1_3 u1_4 u1_5 u1_6 Z2 h2 q1 f1_0 f1_1 hx2 hG2 hf2; exact absurd q1 (by omega)
      | succ m1 ih1 =>
        intro w1_2 w1_3 u1_4 u1_5 u1_6 Z2 h2 q1 f1_0 f1_1 hx2 hG2 hf2
        refine mx_J.step (sn_261 4) (fun _ _ => rfl) ?_
        refine JcI (z := 10) (show mx_Sn _ _ 5 (mx_const (.int 10) 7) from sn_261 5) rfl ?_
        refine Jicmp_ge (show mx_Sn _ _ 7 (mx_icmp_ge 106 10) from sn_261 7) (by omega) (by omega) (fun q3 => ?_) (fun q3 => ?_)
        · skip
          refine mx_J.step (sn_261 106) (fun _ _ => rfl) ?_
          exact mx_J.ret (sn_261 107) (fun _ _ => rfl) (hP w1_2 Z2 h2 hx2 hG2 (fr_tr (M := [(62, (-1)), (64, (-1)), (65, (-1))]) fr_rf (hf2) (M1 := []) rfl rfl) (by omega))
        · skip
          refine mx_J.step (sn_261 10) (fun _ _ => rfl) ?_
          refine JgetR (g := 1) (b := 57) hx2 (show mx_Sn _ _ 11 (mx_getf 12 1 14) from sn_261 11) a56 s56 rfl rfl (hG2.prr 56 1 rfl) ?_
          refine JcI (z := 27) (show mx_Sn _ _ 14 (mx_const (.int 27) 16) from sn_261 14) rfl ?_
          have b5 := GI_st hG 27
          have b6 : 0 ≤ Z 56 18 ∧ Z 56 18 ≤ 385 := hG.pr 56 18
          have b7 : 0 ≤ Z 57 27 ∧ Z 57 27 ≤ 384 := by have hq := GI_ex hG 57 27; replace hq : f57 (27 % 962) (Z 57 27) := hq; unfold f57 at hq; omega
          have b8 : (-2147483648) ≤ Z 57 27 ∧ Z 57 27 ≤ 2147483647 := hG.pr 57 27
          refine JialdI (z := Z 57 27) hx2 (show mx_Sn _ _ 16 (mx_iald 17) from sn_261 16) a57 s57 (by omega) (hf2 57 27 rfl) ?_
          refine mx_J.step (ls2 := [some (.ref 56), some (xI x0), some (xI w1_2), some (xI w1_3), some (xI (Z 57 27)), u1_5, u1_6]) (sn_261 17) (fun _ _ => rfl) ?_
          refine JcI (z := 1) (show mx_Sn _ _ 19 (mx_const (.int 1) 20) from sn_261 19) rfl ?_
          refine mx_J.step (ls2 := [some (.ref 56), some (xI x0), some (xI w1_2), some (xI w1_3), some (xI (Z 57 27)), some (xI 1), u1_6]) (sn_261 20) (fun _ _ => rfl) ?_
          refine JcI (z := 0) (show mx_Sn _ _ 22 (mx_const (.int 0) 23) from sn_261 22) rfl ?_
          refine mx_J.step (ls2 := [some (.ref 56), some (xI x0), some (xI w1_2), some (xI w1_3), some (xI (Z 57 27)), some (xI 1), some (xI 0)]) (sn_261 23) (fun _ _ => rfl) ?_
          have c25 : ∀ (m9 : Nat) (w9_4 : Int) (w9_5 : Int) (w9_6 : Int) (Z10 : xZ) (h10 : mx_H), 40 - w9_6 < (m9 : Int) → 0 ≤ w9_4 ∧ w9_4 ≤ 384 → 0 ≤ w9_5 ∧ w9_5 ≤ 1 → 0 ≤ w9_6 ∧ w9_6 ≤ 40 → XH n s S Z10 h10 → GI n S Z10 → fr' [(62, (-1)), (64, (-1)), (65, (-1))] Z2 Z10 → mx_J (tB l D b0 ad Hb tau) mt_261 (d + 5) 25 [some (.ref 56), some (xI x0), some (xI w1_2), some (xI w1_3), some (xI w9_4), some (xI w9_5), some (xI w9_6)] [] h10 Post := by
            intro m9
            induction m9 with
            | zero => intro w9_4 w9_5 w9_6 Z10 h10 q9 f9_0 f9_1 f9_2 hx10 hG10 hf10; exact absurd q9 (by omega)
            | succ m9 ih9 =>
              intro w9_4 w9_5 w9_6 Z10 h10 q9 f9_0 f9_1 f9_2 hx10 hG10 hf10
              refine mx_J.step (sn_261 25) (fun _ _ => rfl) ?_
              refine mx_J.step (sn_261 27) (fun _ _ => rfl) ?_
              refine JgetR (g := 40) (b := 81) hx10 (show mx_Sn _ _ 28 (mx_getf 12 40 31) from sn_261 28) a56 s56 rfl rfl (hG10.prr 56 40 rfl) ?_
              refine mx_J.step (sn_261 31) (fun _ _ => rfl) ?_
              have b12 : 0 ≤ Z 81 x0 ∧ Z 81 x0 ≤ 40 := hG.pr 81 x0
              refine JialdI (z := Z 81 x0) hx10 (show mx_Sn _ _ 32 (mx_iald 33) from sn_261 32) a81 s81 (by omega) ((hf10 81 x0 rfl).trans (hf2 81 x0 rfl)) ?_
              refine Jicmp_ge (show mx_Sn _ _ 33 (mx_icmp_ge 85 36) from sn_261 33) (by omega) (by omega) (fun q13 => ?_) (fun q13 => ?_)
              · skip
                refine mx_J.step (sn_261 85) (fun _ _ => rfl) ?_
                refine mx_J.step (sn_261 86) (fun _ _ => rfl) ?_
                have c98 : ∀ (k14_1 : Int), (-2147483648) ≤ k14_1 ∧ k14_1 ≤ 2147483647 → mx_J (tB l D b0 ad Hb tau) mt_261 (d + 5) 98 [some (.ref 56), some (xI x0), some (xI w1_2), some (xI w1_3), some (xI w9_4), some (xI w9_5), some (xI w9_6)] [xI k14_1, xI w1_2] h10 Post := by
                  intro k14_1 f14_0
                  refine JiorX (show mx_Sn _ _ 98 (mx_ior 99) from sn_261 98) (fun y15 hy15 => ?_)
                  refine mx_J.step (ls2 := [some (.ref 56), some (xI x0), some (xI y15), some (xI w1_3), some (xI w9_4), some (xI w9_5), some (xI w9_6)]) (sn_261 99) (fun _ _ => rfl) ?_
                  refine Jiinc (z := w1_3) (cz := 1) (ls2 := [some (.ref 56), some (xI x0), some (xI y15), some (xI (w1_3 + 1)), some (xI w9_4), some (xI w9_5), some (xI w9_6)]) (show mx_Sn _ _ 100 (mx_iinc 3 1 103) from sn_261 100) rfl rfl rfl rfl ?_
                  refine mx_J.step (sn_261 103) (fun _ _ => rfl) ?_
                  exact ih1 y15 (w1_3 + 1) (some (xI w9_4)) (some (xI w9_5)) (some (xI w9_6)) Z10 h10 (by omega) (by omega) (by omega) hx10 hG10 (fr_tr (M := [(62, (-1)), (64, (-1)), (65, (-1))]) (fr_tr (M := [(62, (-1)), (64, (-1)), (65, (-1))]) fr_rf (hf2) (M1 := []) rfl rfl) (hf10) rfl rfl)
                refine Jif_eq (show mx_Sn _ _ 88 (mx_if_eq 97 91) from sn_261 88) (by omega) (fun q16 => ?_) (fun q16 => ?_)
                · skip
                  refine JcI (z := 0) (show mx_Sn _ _ 97 (mx_const (.int 0) 98) from sn_261 97) rfl ?_
                  exact c98 0 (by omega)
                · skip
                  refine JcI (z := 1) (show mx_Sn _ _ 91 (mx_const (.int 1) 92) from sn_261 91) rfl ?_
                  refine mx_J.step (sn_261 92) (fun _ _ => rfl) ?_
                  refine JishlX (show mx_Sn _ _ 93 (mx_ishl 94) from sn_261 93) (fun y17 hy17 => ?_)
                  refine mx_J.step (sn_261 94) (fun _ _ => rfl) ?_
                  exact c98 y17 (by omega)
              · skip
                refine mx_J.step (sn_261 36) (fun _ _ => rfl) ?_
                refine mx_J.step (sn_261 37) (fun _ _ => rfl) ?_
                refine JcI (z := 0) (show mx_Sn _ _ 39 (mx_const (.int 0) 40) from sn_261 39) rfl ?_
                refine mx_J.step (sn_261 40) (fun _ _ => rfl) ?_
                have eq19 : Z10 56 18 = Z 56 18 := ((hf10 56 18 rfl).trans (hf2 56 18 rfl))
                obtain ⟨z18, Z18, h18, hc18, hx18, hG18, hf18, b18⟩ := ct_198_56 (d := d + 0) (l := l) (D := D) (b0 := b0) (ad := ad) (Hb := Hb) (tau := tau) hx10 hG10 (show 0 ≤ w9_4 ∧ w9_4 ≤ 384 by omega) (show (-2147483648) ≤ 0 ∧ 0 ≤ 2147483647 by omega) (show 0 ≤ w1_3 ∧ w1_3 ≤ 9 by omega)
                try rw [eq19] at b18
                refine Jcv hx10 (show mx_Sn _ _ 41 (mx_callv 198 4 12 44) from sn_261 41) a56 s56 hc18 rfl rfl rfl ?_
                refine mx_J.step (ls2 := [some (.ref 56), some (xI x0), some (xI w1_2), some (xI w1_3), some (xI z18), some (xI w9_5), some (xI w9_6)]) (sn_261 44) (fun _ _ => rfl) ?_
                refine mx_J.step (sn_261 46) (fun _ _ => rfl) ?_
                refine mx_J.step (sn_261 48) (fun _ _ => rfl) ?_
                refine mx_J.step (sn_261 49) (fun _ _ => rfl) ?_
                have eq21 : mn Z18 z18 = mn Z z18 := ((mn_c (fun i => hf18 61 i rfl)).trans ((mn_c (fun i => hf10 61 i rfl)).trans (mn_c (fun i => hf2 61 i rfl))))
                obtain ⟨z20, hc20, b20⟩ := ct_191_56 (d := d + 3) (l := l) (D := D) (b0 := b0) (ad := ad) (Hb := Hb) (tau := tau) hx18 hG18 (show 0 ≤ z18 ∧ z18 ≤ 384 by omega)
                refine Jcv hx18 (show mx_Sn _ _ 51 (mx_callv 191 2 12 54) from sn_261 51) a56 s56 hc20 rfl rfl rfl ?_
                refine Ji2l (show mx_Sn _ _ 54 (mx_i2l 55) from sn_261 54) (by omega) ?_
                refine mx_J.step (sn_261 55) (fun _ _ => rfl) ?_
                refine JgetR (g := 41) (b := 82) hx18 (show mx_Sn _ _ 56 (mx_getf 12 41 59) from sn_261 56) a56 s56 rfl rfl (hG18.prr 56 41 rfl) ?_
                refine JcI (z := 40) (show mx_Sn _ _ 59 (mx_const (.int 40) 61) from sn_261 59) rfl ?_
                refine mx_J.step (sn_261 61) (fun _ _ => rfl) ?_
                refine Jimul (show mx_Sn _ _ 62 (mx_imul 63) from sn_261 62) ?_
                refine mx_J.step (sn_261 63) (fun _ _ => rfl) ?_
                refine Jiadd (show mx_Sn _ _ 65 (mx_iadd 66) from sn_261 65) ?_
                have b23 : (-9223372036854775808) ≤ Z 82 ((40 * x0) + w9_6) ∧ Z 82 ((40 * x0) + w9_6) ≤ 9223372036854775807 := hG.pr 82 ((40 * x0) + w9_6)
                refine JlaldL (z := Z 82 ((40 * x0) + w9_6)) hx18 (show mx_Sn _ _ 66 (mx_lald 67) from sn_261 66) a82 s82 (by omega) ((hf18 82 ((40 * x0) + w9_6) rfl).trans ((hf10 82 ((40 * x0) + w9_6) rfl).trans (hf2 82 ((40 * x0) + w9_6) rfl))) ?_
                have c76 : ∀ (k24_1 : Int), 0 ≤ k24_1 ∧ k24_1 ≤ 1 → mx_J (tB l D b0 ad Hb tau) mt_261 (d + 5) 76 [some (.ref 56), some (xI x0), some (xI w1_2), some (xI w1_3), some (xI z18), some (xI w9_5), some (xI w9_6)] [xI k24_1, xI w9_5] h18 Post := by
                  intro k24_1 f24_0
                  refine Jiand01 (show mx_Sn _ _ 76 (mx_iand 77) from sn_261 76) (by omega) (by omega) (fun y25 hy25 => ?_)
                  refine mx_J.step (ls2 := [some (.ref 56), some (xI x0), some (xI w1_2), some (xI w1_3), some (xI z18), some (xI y25), some (xI w9_6)]) (sn_261 77) (fun _ _ => rfl) ?_
                  refine Jiinc (z := w9_6) (cz := 1) (ls2 := [some (.ref 56), some (xI x0), some (xI w1_2), some (xI w1_3), some (xI z18), some (xI y25), some (xI (w9_6 + 1))]) (show mx_Sn _ _ 79 (mx_iinc 6 1 82) from sn_261 79) rfl rfl rfl rfl ?_
                  refine mx_J.step (sn_261 82) (fun _ _ => rfl) ?_
                  exact ih9 z18 y25 (w9_6 + 1) Z18 h18 (by omega) (by omega) (by omega) (by omega) hx18 hG18 (fr_tr (M := [(62, (-1)), (64, (-1)), (65, (-1))]) (fr_tr (M := [(62, (-1)), (64, (-1)), (65, (-1))]) fr_rf (hf10) (M1 := []) rfl rfl) (hf18) rfl rfl)
                refine Jlif_ne (show mx_Sn _ _ 67 (mx_lif_ne 75 71) from sn_261 67) (by omega) (by omega) (fun q26 => ?_) (fun q26 => ?_)
                · skip
                  refine JcI (z := 0) (show mx_Sn _ _ 75 (mx_const (.int 0) 76) from sn_261 75) rfl ?_
                  exact c76 0 (by omega)
                · skip
                  refine JcI (z := 1) (show mx_Sn _ _ 71 (mx_const (.int 1) 72) from sn_261 71) rfl ?_
                  refine mx_J.step (sn_261 72) (fun _ _ => rfl) ?_
                  exact c76 1 (by omega)
          exact c25 (Int.toNat (40 - 0) + 1) (Z 57 27) 1 0 Z2 h2 (by omega) (by omega) (by omega) (by omega) hx2 hG2 fr_rf
    exact c4 (Int.toNat (10 - 0) + 1) 0 0 none none none Z h (by omega) (by omega) (by omega) hx hG fr_rf
theorem ct_261_56 {l : Launch} {D : va_G} {b0 : Nat} {ad : Nat → Nat} {Hb : Heap} {tau : Nat → Int64} {d n s : Nat} {S : Nat → xS} {Z : xZ} {h : mx_H} (hx : XH n s S Z h) (hG : GI n S Z)  {x0 : Int} (p0 : 0 ≤ x0 ∧ x0 ≤ 3) : ∃ (z : Int) (Z' : xZ) (h' : mx_H), mx_Ca (tB l D b0 ad Hb tau) (d + 6) 261 [.ref 56, xI x0] h (some (xI z), h') ∧ XH n s S Z' h' ∧ GI n S Z' ∧ fr' [(62, (-1)), (64, (-1)), (65, (-1))] Z Z' ∧ ((-2147483648) ≤ z ∧ z ≤ 2147483647) := by
  obtain ⟨r, hca, z, Z', h', e, q⟩ := Jmt (B := tB l D b0 ad Hb tau) (M := mt_261) (mi := 261) (as := [.ref 56, xI x0]) (d := d + 5) (ls := [some (.ref 56), some (xI x0), none, none, none, none, none]) rfl rfl rfl rfl rfl rfl (cw_261_56 (l := l) (D := D) (b0 := b0) (ad := ad) (Hb := Hb) (tau := tau) (d := d) (Post := fun r => ∃ (z : Int) (Z' : xZ) (h' : mx_H), r = (some (xI z), h') ∧ XH n s S Z' h' ∧ GI n S Z' ∧ fr' [(62, (-1)), (64, (-1)), (65, (-1))] Z Z' ∧ ((-2147483648) ≤ z ∧ z ≤ 2147483647)) hx hG p0 (fun z Z' h' q1 q2 q3 q4 => ⟨z, Z', h', rfl, q1, q2, q3, q4⟩))
  subst e; exact ⟨z, Z', h', hca, q⟩
set_option maxRecDepth 100000 in
theorem cw_262_56 {l : Launch} {D : va_G} {b0 : Nat} {ad : Nat → Nat} {Hb : Heap} {tau : Nat → Int64} {d n s : Nat} {S : Nat → xS} {Z : xZ} {h : mx_H} {Post : mx_R → Prop} (hx : XH n s S Z h) (hG : GI n S Z)  {x0 : Int} (p0 : (-2147483648) ≤ x0 ∧ x0 ≤ 2147483647) (hP : ∀ (z : Int) (Z' : xZ) (h' : mx_H), XH n s S Z' h' → GI n S Z' → fr' [(56, 0), (62, (-1)), (64, (-1)), (65, (-1))] Z Z' → (-2147483648) ≤ z ∧ z ≤ 2147483647 → Post (some (xI z), h')) : mx_J (tB l D b0 ad Hb tau) mt_262 (d + 6) 0 [some (.ref 56), some (xI x0), none] [] h Post := by
    have a56 : 56 < n := lt83 (GI_n hG) rfl
    have s56 : S 56 = .inl (12, [0, 2, 2, 2, 2, 0, 0, 0, 0, 0, 0, 0, 0, 0, 0, 2, 2, 2, 0, 2, 2, 2, 0, 0, 2, 2, 2, 2, 2, 2, 0, 0, 2, 2, 2, 2, 2, 2, 2, 2, 2, 2]) := GI_s hG 56 rfl
    refine mx_J.step (sn_262 0) (fun _ _ => rfl) ?_
    refine JcI (z := 0) (show mx_Sn _ _ 1 (mx_const (.int 0) 2) from sn_262 1) rfl ?_
    refine JputI (g := 0) hx (show mx_Sn _ _ 2 (mx_putf 1 12 0 (.int) 5) from sn_262 2) a56 s56 rfl rfl rfl rfl (fun Z1 h1 hx1 hE1 => ?_)
    have hG1 := GI_up hG hE1 (show (-2147483648) ≤ 0 ∧ 0 ≤ 2147483647 by omega) trivial rfl
    refine mx_J.step (sn_262 5) (fun _ _ => rfl) ?_
    refine mx_J.step (sn_262 6) (fun _ _ => rfl) ?_
    refine JcI (z := 0) (show mx_Sn _ _ 7 (mx_const (.int 0) 8) from sn_262 7) rfl ?_
    have eq3 : Z1 81 x0 = Z 81 x0 := (up_nk hE1 rfl)
    have b4 : 0 ≤ Z 81 x0 ∧ Z 81 x0 ≤ 40 := hG.pr 81 x0
    obtain ⟨z2, hc2, b2⟩ := ct_255_56 (d := d + 3) (l := l) (D := D) (b0 := b0) (ad := ad) (Hb := Hb) (tau := tau) hx1 hG1 (show (-2147483648) ≤ x0 ∧ x0 ≤ 2147483647 by omega) (show 0 ≤ 0 ∧ 0 ≤ 1 by omega)
    try rw [eq3] at b2
    refine Jcv hx1 (show mx_Sn _ _ 8 (mx_callv 255 3 12 11) from sn_262 8) a56 s56 hc2 rfl rfl rfl ?_
    refine mx_J.step (ls2 := [some (.ref 56), some (xI x0), some (xI z2)]) (sn_262 11) (fun _ _ => rfl) ?_
    refine mx_J.step (sn_262 12) (fun _ _ => rfl) ?_
    have c25 : ∀ (k5_0 : Int) (Z6 : xZ) (h6 : mx_H), (-2147483648) ≤ k5_0 ∧ k5_0 ≤ 2147483647 → XH n s S Z6 h6 → GI n S Z6 → fr' [(62, (-1)), (64, (-1)), (65, (-1))] Z1 Z6 → mx_J (tB l D b0 ad Hb tau) mt_262 (d + 6) 25 [some (.ref 56), some (xI x0), some (xI z2)] [xI k5_0] h6 Post := by
      intro k5_0 Z6 h6 f5_0 hx6 hG6 hf6
      exact mx_J.ret (sn_262 25) (fun _ _ => rfl) (hP k5_0 Z6 h6 hx6 hG6 (fr_tr (M := [(56, 0), (62, (-1)), (64, (-1)), (65, (-1))]) (fr_tr (M := [(56, 0), (62, (-1)), (64, (-1)), (65, (-1))]) fr_rf (fr_up hE1) (M1 := []) rfl rfl) (hf6) rfl rfl) (by omega))
    refine Jif_eq (show mx_Sn _ _ 13 (mx_if_eq 20 16) from sn_262 13) (by omega) (fun q7 => ?_) (fun q7 => ?_)
    · skip
      refine mx_J.step (sn_262 20) (fun _ _ => rfl) ?_
      refine mx_J.step (sn_262 21) (fun _ _ => rfl) ?_
      obtain ⟨z8, Z8, h8, hc8, hx8, hG8, hf8, b8⟩ := ct_261_56 (d := d + 0) (l := l) (D := D) (b0 := b0) (ad := ad) (Hb := Hb) (tau := tau) hx1 hG1 (show 0 ≤ x0 ∧ x0 ≤ 3 by omega)
      refine Jcv hx1 (show mx_Sn _ _ 22 (mx_callv 261 2 12 25) from sn_262 22) a56 s56 hc8 rfl rfl rfl ?_
      exact c25 z8 Z8 h8 (by omega) hx8 hG8 (fr_tr (M := [(62, (-1)), (64, (-1)), (65, (-1))]) fr_rf (hf8) (M1 := []) rfl rfl)
    · skip
      refine mx_J.step (sn_262 16) (fun _ _ => rfl) ?_
      refine mx_J.step (sn_262 17) (fun _ _ => rfl) ?_
      exact c25 z2 Z1 h1 (by omega) hx1 hG1 fr_rf
theorem ct_262_56 {l : Launch} {D : va_G} {b0 : Nat} {ad : Nat → Nat} {Hb : Heap} {tau : Nat → Int64} {d n s : Nat} {S : Nat → xS} {Z : xZ} {h : mx_H} (hx : XH n s S Z h) (hG : GI n S Z)  {x0 : Int} (p0 : (-2147483648) ≤ x0 ∧ x0 ≤ 2147483647) : ∃ (z : Int) (Z' : xZ) (h' : mx_H), mx_Ca (tB l D b0 ad Hb tau) (d + 7) 262 [.ref 56, xI x0] h (some (xI z), h') ∧ XH n s S Z' h' ∧ GI n S Z' ∧ fr' [(56, 0), (62, (-1)), (64, (-1)), (65, (-1))] Z Z' ∧ ((-2147483648) ≤ z ∧ z ≤ 2147483647) := by
  obtain ⟨r, hca, z, Z', h', e, q⟩ := Jmt (B := tB l D b0 ad Hb tau) (M := mt_262) (mi := 262) (as := [.ref 56, xI x0]) (d := d + 6) (ls := [some (.ref 56), some (xI x0), none]) rfl rfl rfl rfl rfl rfl (cw_262_56 (l := l) (D := D) (b0 := b0) (ad := ad) (Hb := Hb) (tau := tau) (d := d) (Post := fun r => ∃ (z : Int) (Z' : xZ) (h' : mx_H), r = (some (xI z), h') ∧ XH n s S Z' h' ∧ GI n S Z' ∧ fr' [(56, 0), (62, (-1)), (64, (-1)), (65, (-1))] Z Z' ∧ ((-2147483648) ≤ z ∧ z ≤ 2147483647)) hx hG p0 (fun z Z' h' q1 q2 q3 q4 => ⟨z, Z', h', rfl, q1, q2, q3, q4⟩))
  subst e; exact ⟨z, Z', h', hca, q⟩
set_option maxRecDepth 100000 in
theorem cw_167_ {l : Launch} {D : va_G} {b0 : Nat} {ad : Nat → Nat} {Hb : Heap} {tau : Nat → Int64} {d n s : Nat} {S : Nat → xS} {Z : xZ} {h : mx_H} {Post : mx_R → Prop} (hx : XH n s S Z h) (hG : GI n S Z)  {x0 x1 : Int} (p0 : (-9223372036854775808) ≤ x0 ∧ x0 ≤ 9223372036854775807) (p1 : 0 ≤ x1 ∧ x1 ≤ 9) (hP : ∀ z : Int, 0 ≤ z ∧ z ≤ 1 → Post (some (xI z), h)) : mx_J (tB l D b0 ad Hb tau) mt_167 (d + 0) 0 [some (xL x0), none, some (xI x1)] [] h Post := by
    refine mx_J.step (sn_167 0) (fun _ _ => rfl) ?_
    refine mx_J.step (sn_167 1) (fun _ _ => rfl) ?_
    refine JlshrX (show mx_Sn _ _ 2 (mx_lshr 3) from sn_167 2) (fun y1 hy1 => ?_)
    refine JcL (z := 1) (show mx_Sn _ _ 3 (mx_const (.long 1) 4) from sn_167 3) rfl ?_
    refine JlandX (show mx_Sn _ _ 4 (mx_land 5) from sn_167 4) (fun y2 hy2 => ?_)
    refine JcL (z := 1) (show mx_Sn _ _ 5 (mx_const (.long 1) 6) from sn_167 5) rfl ?_
    have c15 : ∀ (k3_0 : Int), 0 ≤ k3_0 ∧ k3_0 ≤ 1 → mx_J (tB l D b0 ad Hb tau) mt_167 (d + 0) 15 [some (xL x0), none, some (xI x1)] [xI k3_0] h Post := by
      intro k3_0 f3_0
      exact mx_J.ret (show mx_Sn _ _ 15 (mx_zret) from sn_167 15) (fun _ _ => zr_ok (by omega)) (hP k3_0 (by omega))
    refine Jlif_ne (show mx_Sn _ _ 6 (mx_lif_ne 14 10) from sn_167 6) (by omega) (by omega) (fun q4 => ?_) (fun q4 => ?_)
    · skip
      refine JcI (z := 0) (show mx_Sn _ _ 14 (mx_const (.int 0) 15) from sn_167 14) rfl ?_
      exact c15 0 (by omega)
    · skip
      refine JcI (z := 1) (show mx_Sn _ _ 10 (mx_const (.int 1) 11) from sn_167 10) rfl ?_
      refine mx_J.step (sn_167 11) (fun _ _ => rfl) ?_
      exact c15 1 (by omega)
theorem ct_167_ {l : Launch} {D : va_G} {b0 : Nat} {ad : Nat → Nat} {Hb : Heap} {tau : Nat → Int64} {d n s : Nat} {S : Nat → xS} {Z : xZ} {h : mx_H} (hx : XH n s S Z h) (hG : GI n S Z)  {x0 x1 : Int} (p0 : (-9223372036854775808) ≤ x0 ∧ x0 ≤ 9223372036854775807) (p1 : 0 ≤ x1 ∧ x1 ≤ 9) : ∃ z : Int, mx_Ca (tB l D b0 ad Hb tau) (d + 1) 167 [xL x0, xI x1] h (some (xI z), h) ∧ (0 ≤ z ∧ z ≤ 1) := by
  obtain ⟨r, hca, z, e, hp⟩ := Jmt (B := tB l D b0 ad Hb tau) (M := mt_167) (mi := 167) (as := [xL x0, xI x1]) (d := d + 0) (ls := [some (xL x0), none, some (xI x1)]) rfl rfl rfl rfl rfl rfl (cw_167_ (l := l) (D := D) (b0 := b0) (ad := ad) (Hb := Hb) (tau := tau) (d := d) (Post := fun r => ∃ z : Int, r = (some (xI z), h) ∧ (0 ≤ z ∧ z ≤ 1)) hx hG p0 p1 (fun z hz => ⟨z, rfl, hz⟩))
  subst e; exact ⟨z, hca, hp⟩
set_option maxRecDepth 100000 in
theorem cw_263_56 {l : Launch} {D : va_G} {b0 : Nat} {ad : Nat → Nat} {Hb : Heap} {tau : Nat → Int64} {d n s : Nat} {S : Nat → xS} {Z : xZ} {h : mx_H} {Post : mx_R → Prop} (hx : XH n s S Z h) (hG : GI n S Z)  {x0 x1 : Int} (p0 : 0 ≤ x0 ∧ x0 ≤ 18) (p1 : (-2147483648) ≤ x1 ∧ x1 ≤ 2147483647) (hP : ∀ (z : Int) (Z' : xZ) (h' : mx_H), XH n s S Z' h' → GI n S Z' → fr' [(62, (-1)), (64, (-1)), (65, (-1)), (79, (-1))] Z Z' → (-2147483648) ≤ z ∧ z ≤ 2147483647 → Post (some (xI z), h')) : mx_J (tB l D b0 ad Hb tau) mt_263 (d + 5) 0 [some (.ref 56), some (xI x0), some (xI x1), none, none, none] [] h Post := by
    have a56 : 56 < n := lt83 (GI_n hG) rfl
    have s56 : S 56 = .inl (12, [0, 2, 2, 2, 2, 0, 0, 0, 0, 0, 0, 0, 0, 0, 0, 2, 2, 2, 0, 2, 2, 2, 0, 0, 2, 2, 2, 2, 2, 2, 0, 0, 2, 2, 2, 2, 2, 2, 2, 2, 2, 2]) := GI_s hG 56 rfl
    have a57 : 57 < n := lt83 (GI_n hG) rfl
    have s57 : S 57 = .inr (.int, 2886, 0) := GI_s hG 57 rfl
    have a79 : 79 < n := lt83 (GI_n hG) rfl
    have s79 : S 79 = .inr (.int, 19, 0) := GI_s hG 79 rfl
    refine JcI (z := 0) (show mx_Sn _ _ 0 (mx_const (.int 0) 1) from sn_263 0) rfl ?_
    refine mx_J.step (ls2 := [some (.ref 56), some (xI x0), some (xI x1), some (xI 0), none, none]) (sn_263 1) (fun _ _ => rfl) ?_
    refine JcI (z := 0) (show mx_Sn _ _ 2 (mx_const (.int 0) 3) from sn_263 2) rfl ?_
    refine mx_J.step (ls2 := [some (.ref 56), some (xI x0), some (xI x1), some (xI 0), some (xI 0), none]) (sn_263 3) (fun _ _ => rfl) ?_
    have c5 : ∀ (m1 : Nat) (w1_4 : Int) (Z2 : xZ) (h2 : mx_H), 19 - w1_4 < (m1 : Int) → 0 ≤ w1_4 ∧ w1_4 ≤ 19 → XH n s S Z2 h2 → GI n S Z2 → fr' [(79, (-1))] Z Z2 → mx_J (tB l D b0 ad Hb tau) mt_263 (d + 5) 5 [some (.ref 56), some (xI x0), some (xI x1), some (xI 0), some (xI w1_4), none] [] h2 Post := by
      intro m1
      induction m1 with
      | zero => intro w1_4 Z2 h2 q1 f1_0 hx2 hG2 hf2; exact absurd q1 (by omega)
      | succ m1 ih1 =>
        intro w1_4 Z2 h2 q1 f1_0 hx2 hG2 hf2
        refine mx_J.step (sn_263 5) (fun _ _ => rfl) ?_
        refine JcI (z := 18) (show mx_Sn _ _ 7 (mx_const (.int 18) 9) from sn_263 7) rfl ?_
        refine Jicmp_gt (show mx_Sn _ _ 9 (mx_icmp_gt 26 12) from sn_263 9) (by omega) (by omega) (fun q3 => ?_) (fun q3 => ?_)
        · skip
          refine JcI (z := 0) (show mx_Sn _ _ 26 (mx_const (.int 0) 27) from sn_263 26) rfl ?_
          refine mx_J.step (ls2 := [some (.ref 56), some (xI x0), some (xI x1), some (xI 0), some (xI 0), none]) (sn_263 27) (fun _ _ => rfl) ?_
          have c29 : ∀ (m4 : Nat) (w4_3 : Int) (w4_4 : Int) (u4_5 : Option Value) (Z5 : xZ) (h5 : mx_H), 10 - w4_4 < (m4 : Int) → (-2147483648) ≤ w4_3 ∧ w4_3 ≤ 2147483647 → 0 ≤ w4_4 ∧ w4_4 ≤ 10 → XH n s S Z5 h5 → GI n S Z5 → fr' [(62, (-1)), (64, (-1)), (65, (-1)), (79, (-1))] Z2 Z5 → mx_J (tB l D b0 ad Hb tau) mt_263 (d + 5) 29 [some (.ref 56), some (xI x0), some (xI x1), some (xI w4_3), some (xI w4_4), u4_5] [] h5 Post := by
            intro m4
            induction m4 with
            | zero => intro w4_3 w4_4 u4_5 Z5 h5 q4 f4_0 f4_1 hx5 hG5 hf5; exact absurd q4 (by omega)
            | succ m4 ih4 =>
              intro w4_3 w4_4 u4_5 Z5 h5 q4 f4_0 f4_1 hx5 hG5 hf5
              refine mx_J.step (sn_263 29) (fun _ _ => rfl) ?_
              refine JcI (z := 10) (show mx_Sn _ _ 31 (mx_const (.int 10) 33) from sn_263 31) rfl ?_
              refine Jicmp_ge (show mx_Sn _ _ 33 (mx_icmp_ge 128 36) from sn_263 33) (by omega) (by omega) (fun q6 => ?_) (fun q6 => ?_)
              · skip
                refine mx_J.step (sn_263 128) (fun _ _ => rfl) ?_
                exact mx_J.ret (sn_263 129) (fun _ _ => rfl) (hP w4_3 Z5 h5 hx5 hG5 (fr_tr (M := [(62, (-1)), (64, (-1)), (65, (-1)), (79, (-1))]) (fr_tr (M := [(62, (-1)), (64, (-1)), (65, (-1)), (79, (-1))]) fr_rf (hf2) (M1 := []) rfl rfl) (hf5) rfl rfl) (by omega))
              · skip
                refine mx_J.step (sn_263 36) (fun _ _ => rfl) ?_
                refine Ji2l (show mx_Sn _ _ 37 (mx_i2l 38) from sn_263 37) (by omega) ?_
                refine mx_J.step (sn_263 38) (fun _ _ => rfl) ?_
                obtain ⟨z7, hc7, b7⟩ := ct_167_ (d := d + 4) (l := l) (D := D) (b0 := b0) (ad := ad) (Hb := Hb) (tau := tau) hx5 hG5 (show (-9223372036854775808) ≤ x1 ∧ x1 ≤ 9223372036854775807 by omega) (show 0 ≤ w4_4 ∧ w4_4 ≤ 9 by omega)
                refine Jcs (show mx_Sn _ _ 40 (mx_calls 167 2 43) from sn_263 40) hc7 rfl rfl rfl ?_
                have c122 : ∀ (w8_3 : Int) (u8_5 : Option Value) (Z9 : xZ) (h9 : mx_H), (-2147483648) ≤ w8_3 ∧ w8_3 ≤ 2147483647 → XH n s S Z9 h9 → GI n S Z9 → fr' [(62, (-1)), (64, (-1)), (65, (-1)), (79, (-1))] Z5 Z9 → mx_J (tB l D b0 ad Hb tau) mt_263 (d + 5) 122 [some (.ref 56), some (xI x0), some (xI x1), some (xI w8_3), some (xI w4_4), u8_5] [] h9 Post := by
                  intro w8_3 u8_5 Z9 h9 f8_0 hx9 hG9 hf9
                  refine Jiinc (z := w4_4) (cz := 1) (ls2 := [some (.ref 56), some (xI x0), some (xI x1), some (xI w8_3), some (xI (w4_4 + 1)), u8_5]) (show mx_Sn _ _ 122 (mx_iinc 4 1 125) from sn_263 122) rfl rfl rfl rfl ?_
                  refine mx_J.step (sn_263 125) (fun _ _ => rfl) ?_
                  exact ih4 w8_3 (w4_4 + 1) u8_5 Z9 h9 (by omega) (by omega) (by omega) hx9 hG9 (fr_tr (M := [(62, (-1)), (64, (-1)), (65, (-1)), (79, (-1))]) (fr_tr (M := [(62, (-1)), (64, (-1)), (65, (-1)), (79, (-1))]) fr_rf (hf5) (M1 := []) rfl rfl) (hf9) rfl rfl)
                refine Jif_ne (show mx_Sn _ _ 43 (mx_if_ne 49 46) from sn_263 43) (by omega) (fun q10 => ?_) (fun q10 => ?_)
                · skip
                  refine mx_J.step (sn_263 49) (fun _ _ => rfl) ?_
                  refine mx_J.step (sn_263 50) (fun _ _ => rfl) ?_
                  refine JgetR (g := 1) (b := 57) hx5 (show mx_Sn _ _ 51 (mx_getf 12 1 54) from sn_263 51) a56 s56 rfl rfl (hG5.prr 56 1 rfl) ?_
                  refine JcI (z := 27) (show mx_Sn _ _ 54 (mx_const (.int 27) 56) from sn_263 54) rfl ?_
                  have b12 := GI_st hG 27
                  have b13 : 0 ≤ Z 56 18 ∧ Z 56 18 ≤ 385 := hG.pr 56 18
                  have b14 : 0 ≤ Z 57 27 ∧ Z 57 27 ≤ 384 := by have hq := GI_ex hG 57 27; replace hq : f57 (27 % 962) (Z 57 27) := hq; unfold f57 at hq; omega
                  have b15 : (-2147483648) ≤ Z 57 27 ∧ Z 57 27 ≤ 2147483647 := hG.pr 57 27
                  refine JialdI (z := Z 57 27) hx5 (show mx_Sn _ _ 56 (mx_iald 57) from sn_263 56) a57 s57 (by omega) ((hf5 57 27 rfl).trans (hf2 57 27 rfl)) ?_
                  refine mx_J.step (sn_263 57) (fun _ _ => rfl) ?_
                  have eq17 : hv Z5 (Z 57 27) x0 = hv Z (Z 57 27) x0 := ((hv_c (fun i => hf5 61 i rfl)).trans (hv_c (fun i => hf2 61 i rfl)))
                  obtain ⟨z16, hc16, b16⟩ := ct_197_56 (d := d + 2) (l := l) (D := D) (b0 := b0) (ad := ad) (Hb := Hb) (tau := tau) hx5 hG5 (show 0 ≤ Z 57 27 ∧ Z 57 27 ≤ 384 by omega) (show (-2147483648) ≤ x0 ∧ x0 ≤ 2147483647 by omega)
                  refine Jcv hx5 (show mx_Sn _ _ 58 (mx_callv 197 3 12 61) from sn_263 58) a56 s56 hc16 rfl rfl rfl ?_
                  have c86 : ∀ (k18_0 : Int) (Z19 : xZ) (h19 : mx_H), 0 ≤ k18_0 ∧ k18_0 ≤ 18 → XH n s S Z19 h19 → GI n S Z19 → fr' [(62, (-1)), (64, (-1)), (65, (-1))] Z5 Z19 → mx_J (tB l D b0 ad Hb tau) mt_263 (d + 5) 86 [some (.ref 56), some (xI x0), some (xI x1), some (xI w4_3), some (xI w4_4), u4_5] [xI k18_0] h19 Post := by
                    intro k18_0 Z19 h19 f18_0 hx19 hG19 hf19
                    refine mx_J.step (ls2 := [some (.ref 56), some (xI x0), some (xI x1), some (xI w4_3), some (xI w4_4), some (xI k18_0)]) (sn_263 86) (fun _ _ => rfl) ?_
                    refine mx_J.step (sn_263 88) (fun _ _ => rfl) ?_
                    refine JgetR (g := 38) (b := 79) hx19 (show mx_Sn _ _ 89 (mx_getf 12 38 92) from sn_263 89) a56 s56 rfl rfl (hG19.prr 56 38 rfl) ?_
                    refine mx_J.step (sn_263 92) (fun _ _ => rfl) ?_
                    refine mx_J.step (sn_263 94) (fun _ _ => rfl) ?_
                    have b21 : (-2147483648) ≤ Z5 79 k18_0 ∧ Z5 79 k18_0 ≤ 2147483647 := hG5.pr 79 k18_0
                    refine JialdI (z := Z5 79 k18_0) hx19 (show mx_Sn _ _ 95 (mx_iald 96) from sn_263 95) a79 s79 (by omega) (hf19 79 k18_0 rfl) ?_
                    refine JcI (z := 1) (show mx_Sn _ _ 96 (mx_const (.int 1) 97) from sn_263 96) rfl ?_
                    refine JiaddN (show mx_Sn _ _ 97 (mx_iadd 98) from sn_263 97) (fun y22 hy22 hq22 => ?_)
                    refine JiastI hx19 (show mx_Sn _ _ 98 (mx_iast 1 99) from sn_263 98) a79 s79 rfl (by omega) (fun Z23 h23 hx23 hE23 => ?_)
                    have hG23 := GI_up hG19 hE23 (show (-2147483648) ≤ y22 ∧ y22 ≤ 2147483647 by omega) trivial rfl
                    refine mx_J.step (sn_263 99) (fun _ _ => rfl) ?_
                    refine JgetR (g := 38) (b := 79) hx23 (show mx_Sn _ _ 100 (mx_getf 12 38 103) from sn_263 100) a56 s56 rfl rfl (hG23.prr 56 38 rfl) ?_
                    refine mx_J.step (sn_263 103) (fun _ _ => rfl) ?_
                    have b25 : (-2147483648) ≤ Z23 79 k18_0 ∧ Z23 79 k18_0 ≤ 2147483647 := hG23.pr 79 k18_0
                    refine JialdI (z := Z23 79 k18_0) hx23 (show mx_Sn _ _ 105 (mx_iald 106) from sn_263 105) a79 s79 (by omega) rfl ?_
                    refine mx_J.step (sn_263 106) (fun _ _ => rfl) ?_
                    have c121 : ∀ (k26_0 : Int), (-2147483648) ≤ k26_0 ∧ k26_0 ≤ 2147483647 → mx_J (tB l D b0 ad Hb tau) mt_263 (d + 5) 121 [some (.ref 56), some (xI x0), some (xI x1), some (xI w4_3), some (xI w4_4), some (xI k18_0)] [xI k26_0] h23 Post := by
                      intro k26_0 f26_0
                      refine mx_J.step (ls2 := [some (.ref 56), some (xI x0), some (xI x1), some (xI k26_0), some (xI w4_4), some (xI k18_0)]) (sn_263 121) (fun _ _ => rfl) ?_
                      exact c122 k26_0 (some (xI k18_0)) Z23 h23 (by omega) hx23 hG23 (fr_tr (M := [(62, (-1)), (64, (-1)), (65, (-1)), (79, (-1))]) (fr_tr (M := [(62, (-1)), (64, (-1)), (65, (-1)), (79, (-1))]) fr_rf (hf19) (M1 := []) rfl rfl) (fr_ua hE23) rfl rfl)
                    refine Jicmp_le (show mx_Sn _ _ 107 (mx_icmp_le 120 110) from sn_263 107) (by omega) (by omega) (fun q27 => ?_) (fun q27 => ?_)
                    · skip
                      refine mx_J.step (sn_263 120) (fun _ _ => rfl) ?_
                      exact c121 w4_3 (by omega)
                    · skip
                      refine mx_J.step (sn_263 110) (fun _ _ => rfl) ?_
                      refine JgetR (g := 38) (b := 79) hx23 (show mx_Sn _ _ 111 (mx_getf 12 38 114) from sn_263 111) a56 s56 rfl rfl (hG23.prr 56 38 rfl) ?_
                      refine mx_J.step (sn_263 114) (fun _ _ => rfl) ?_
                      refine JialdI (z := Z23 79 k18_0) hx23 (show mx_Sn _ _ 116 (mx_iald 117) from sn_263 116) a79 s79 (by omega) rfl ?_
                      refine mx_J.step (sn_263 117) (fun _ _ => rfl) ?_
                      exact c121 (Z23 79 k18_0) (by omega)
                  refine Jif_eq (show mx_Sn _ _ 61 (mx_if_eq 85 64) from sn_263 61) (by omega) (fun q29 => ?_) (fun q29 => ?_)
                  · skip
                    refine JcI (z := 0) (show mx_Sn _ _ 85 (mx_const (.int 0) 86) from sn_263 85) rfl ?_
                    exact c86 0 Z5 h5 (by omega) hx5 hG5 fr_rf
                  · skip
                    refine mx_J.step (sn_263 64) (fun _ _ => rfl) ?_
                    refine mx_J.step (sn_263 65) (fun _ _ => rfl) ?_
                    refine mx_J.step (sn_263 66) (fun _ _ => rfl) ?_
                    refine JgetR (g := 1) (b := 57) hx5 (show mx_Sn _ _ 67 (mx_getf 12 1 70) from sn_263 67) a56 s56 rfl rfl (hG5.prr 56 1 rfl) ?_
                    refine JcI (z := 27) (show mx_Sn _ _ 70 (mx_const (.int 27) 72) from sn_263 70) rfl ?_
                    refine JialdI (z := Z 57 27) hx5 (show mx_Sn _ _ 72 (mx_iald 73) from sn_263 72) a57 s57 (by omega) ((hf5 57 27 rfl).trans (hf2 57 27 rfl)) ?_
                    refine mx_J.step (sn_263 73) (fun _ _ => rfl) ?_
                    refine mx_J.step (sn_263 74) (fun _ _ => rfl) ?_
                    have eq32 : Z5 56 18 = Z 56 18 := ((hf5 56 18 rfl).trans (hf2 56 18 rfl))
                    obtain ⟨z31, Z31, h31, hc31, hx31, hG31, hf31, b31⟩ := ct_198_56 (d := d + 0) (l := l) (D := D) (b0 := b0) (ad := ad) (Hb := Hb) (tau := tau) hx5 hG5 (show 0 ≤ Z 57 27 ∧ Z 57 27 ≤ 384 by omega) (show (-2147483648) ≤ x0 ∧ x0 ≤ 2147483647 by omega) (show 0 ≤ w4_4 ∧ w4_4 ≤ 9 by omega)
                    try rw [eq32] at b31
                    refine Jcv hx5 (show mx_Sn _ _ 76 (mx_callv 198 4 12 79) from sn_263 76) a56 s56 hc31 rfl rfl rfl ?_
                    have eq34 : mn Z31 z31 = mn Z z31 := ((mn_c (fun i => hf31 61 i rfl)).trans ((mn_c (fun i => hf5 61 i rfl)).trans (mn_c (fun i => hf2 61 i rfl))))
                    obtain ⟨z33, hc33, b33⟩ := ct_191_56 (d := d + 3) (l := l) (D := D) (b0 := b0) (ad := ad) (Hb := Hb) (tau := tau) hx31 hG31 (show 0 ≤ z31 ∧ z31 ≤ 384 by omega)
                    refine Jcv hx31 (show mx_Sn _ _ 79 (mx_callv 191 2 12 82) from sn_263 79) a56 s56 hc33 rfl rfl rfl ?_
                    refine mx_J.step (sn_263 82) (fun _ _ => rfl) ?_
                    exact c86 z33 Z31 h31 (by omega) hx31 hG31 (fr_tr (M := [(62, (-1)), (64, (-1)), (65, (-1))]) fr_rf (hf31) (M1 := []) rfl rfl)
                · skip
                  refine mx_J.step (sn_263 46) (fun _ _ => rfl) ?_
                  exact c122 w4_3 u4_5 Z5 h5 (by omega) hx5 hG5 fr_rf
          exact c29 (Int.toNat (10 - 0) + 1) 0 0 none Z2 h2 (by omega) (by omega) (by omega) hx2 hG2 fr_rf
        · skip
          refine mx_J.step (sn_263 12) (fun _ _ => rfl) ?_
          refine JgetR (g := 38) (b := 79) hx2 (show mx_Sn _ _ 13 (mx_getf 12 38 16) from sn_263 13) a56 s56 rfl rfl (hG2.prr 56 38 rfl) ?_
          refine mx_J.step (sn_263 16) (fun _ _ => rfl) ?_
          refine JcI (z := 0) (show mx_Sn _ _ 18 (mx_const (.int 0) 19) from sn_263 18) rfl ?_
          refine JiastI hx2 (show mx_Sn _ _ 19 (mx_iast 1 20) from sn_263 19) a79 s79 rfl (by omega) (fun Z36 h36 hx36 hE36 => ?_)
          have hG36 := GI_up hG2 hE36 (show (-2147483648) ≤ 0 ∧ 0 ≤ 2147483647 by omega) trivial rfl
          refine Jiinc (z := w1_4) (cz := 1) (ls2 := [some (.ref 56), some (xI x0), some (xI x1), some (xI 0), some (xI (w1_4 + 1)), none]) (show mx_Sn _ _ 20 (mx_iinc 4 1 23) from sn_263 20) rfl rfl rfl rfl ?_
          refine mx_J.step (sn_263 23) (fun _ _ => rfl) ?_
          exact ih1 (w1_4 + 1) Z36 h36 (by omega) (by omega) hx36 hG36 (fr_tr (M := [(79, (-1))]) (fr_tr (M := [(79, (-1))]) fr_rf (hf2) (M1 := []) rfl rfl) (fr_ua hE36) rfl rfl)
    exact c5 (Int.toNat (19 - 0) + 1) 0 Z h (by omega) (by omega) hx hG fr_rf
theorem ct_263_56 {l : Launch} {D : va_G} {b0 : Nat} {ad : Nat → Nat} {Hb : Heap} {tau : Nat → Int64} {d n s : Nat} {S : Nat → xS} {Z : xZ} {h : mx_H} (hx : XH n s S Z h) (hG : GI n S Z)  {x0 x1 : Int} (p0 : 0 ≤ x0 ∧ x0 ≤ 18) (p1 : (-2147483648) ≤ x1 ∧ x1 ≤ 2147483647) : ∃ (z : Int) (Z' : xZ) (h' : mx_H), mx_Ca (tB l D b0 ad Hb tau) (d + 6) 263 [.ref 56, xI x0, xI x1] h (some (xI z), h') ∧ XH n s S Z' h' ∧ GI n S Z' ∧ fr' [(62, (-1)), (64, (-1)), (65, (-1)), (79, (-1))] Z Z' ∧ ((-2147483648) ≤ z ∧ z ≤ 2147483647) := by
  obtain ⟨r, hca, z, Z', h', e, q⟩ := Jmt (B := tB l D b0 ad Hb tau) (M := mt_263) (mi := 263) (as := [.ref 56, xI x0, xI x1]) (d := d + 5) (ls := [some (.ref 56), some (xI x0), some (xI x1), none, none, none]) rfl rfl rfl rfl rfl rfl (cw_263_56 (l := l) (D := D) (b0 := b0) (ad := ad) (Hb := Hb) (tau := tau) (d := d) (Post := fun r => ∃ (z : Int) (Z' : xZ) (h' : mx_H), r = (some (xI z), h') ∧ XH n s S Z' h' ∧ GI n S Z' ∧ fr' [(62, (-1)), (64, (-1)), (65, (-1)), (79, (-1))] Z Z' ∧ ((-2147483648) ≤ z ∧ z ≤ 2147483647)) hx hG p0 p1 (fun z Z' h' q1 q2 q3 q4 => ⟨z, Z', h', rfl, q1, q2, q3, q4⟩))
  subst e; exact ⟨z, Z', h', hca, q⟩
set_option maxRecDepth 100000 in
theorem cw_264_56 {l : Launch} {D : va_G} {b0 : Nat} {ad : Nat → Nat} {Hb : Heap} {tau : Nat → Int64} {d n s : Nat} {S : Nat → xS} {Z : xZ} {h : mx_H} {Post : mx_R → Prop} (hx : XH n s S Z h) (hG : GI n S Z)  {x0 : Int} (p0 : (-2147483648) ≤ x0 ∧ x0 ≤ 2147483647) (hP : ∀ (z : Int) (Z' : xZ) (h' : mx_H), XH n s S Z' h' → GI n S Z' → fr' [(56, 0), (62, (-1)), (64, (-1)), (65, (-1)), (79, (-1))] Z Z' → (-6) ≤ z ∧ z ≤ 18 → Post (some (xI z), h')) : mx_J (tB l D b0 ad Hb tau) mt_264 (d + 6) 0 [some (.ref 56), some (xI x0), none, none, none, none, none, none] [] h Post := by
    have a56 : 56 < n := lt83 (GI_n hG) rfl
    have s56 : S 56 = .inl (12, [0, 2, 2, 2, 2, 0, 0, 0, 0, 0, 0, 0, 0, 0, 0, 2, 2, 2, 0, 2, 2, 2, 0, 0, 2, 2, 2, 2, 2, 2, 0, 0, 2, 2, 2, 2, 2, 2, 2, 2, 2, 2]) := GI_s hG 56 rfl
    refine mx_J.step (sn_264 0) (fun _ _ => rfl) ?_
    refine JcI (z := 0) (show mx_Sn _ _ 1 (mx_const (.int 0) 2) from sn_264 1) rfl ?_
    refine JputI (g := 0) hx (show mx_Sn _ _ 2 (mx_putf 1 12 0 (.int) 5) from sn_264 2) a56 s56 rfl rfl rfl rfl (fun Z1 h1 hx1 hE1 => ?_)
    have hG1 := GI_up hG hE1 (show (-2147483648) ≤ 0 ∧ 0 ≤ 2147483647 by omega) trivial rfl
    refine mx_J.step (sn_264 5) (fun _ _ => rfl) ?_
    refine mx_J.step (sn_264 6) (fun _ _ => rfl) ?_
    refine JcI (z := 0) (show mx_Sn _ _ 7 (mx_const (.int 0) 8) from sn_264 7) rfl ?_
    have eq3 : Z1 81 x0 = Z 81 x0 := (up_nk hE1 rfl)
    have b4 : 0 ≤ Z 81 x0 ∧ Z 81 x0 ≤ 40 := hG.pr 81 x0
    obtain ⟨z2, hc2, b2⟩ := ct_255_56 (d := d + 3) (l := l) (D := D) (b0 := b0) (ad := ad) (Hb := Hb) (tau := tau) hx1 hG1 (show (-2147483648) ≤ x0 ∧ x0 ≤ 2147483647 by omega) (show 0 ≤ 0 ∧ 0 ≤ 1 by omega)
    try rw [eq3] at b2
    refine Jcv hx1 (show mx_Sn _ _ 8 (mx_callv 255 3 12 11) from sn_264 8) a56 s56 hc2 rfl rfl rfl ?_
    refine mx_J.step (ls2 := [some (.ref 56), some (xI x0), some (xI z2), none, none, none, none, none]) (sn_264 11) (fun _ _ => rfl) ?_
    refine mx_J.step (sn_264 12) (fun _ _ => rfl) ?_
    refine Jif_eq (show mx_Sn _ _ 13 (mx_if_eq 18 16) from sn_264 13) (by omega) (fun q5 => ?_) (fun q5 => ?_)
    · skip
      refine mx_J.step (sn_264 18) (fun _ _ => rfl) ?_
      refine mx_J.step (sn_264 19) (fun _ _ => rfl) ?_
      obtain ⟨z6, Z6, h6, hc6, hx6, hG6, hf6, b6⟩ := ct_261_56 (d := d + 0) (l := l) (D := D) (b0 := b0) (ad := ad) (Hb := Hb) (tau := tau) hx1 hG1 (show 0 ≤ x0 ∧ x0 ≤ 3 by omega)
      refine Jcv hx1 (show mx_Sn _ _ 20 (mx_callv 261 2 12 23) from sn_264 20) a56 s56 hc6 rfl rfl rfl ?_
      refine mx_J.step (ls2 := [some (.ref 56), some (xI x0), some (xI z2), some (xI z6), none, none, none, none]) (sn_264 23) (fun _ _ => rfl) ?_
      refine JcI (z := (-1)) (show mx_Sn _ _ 24 (mx_const (.int (-1)) 25) from sn_264 24) rfl ?_
      refine mx_J.step (ls2 := [some (.ref 56), some (xI x0), some (xI z2), some (xI z6), some (xI (-1)), none, none, none]) (sn_264 25) (fun _ _ => rfl) ?_
      refine JcI (z := 268435456) (show mx_Sn _ _ 27 (mx_const (.int 268435456) 30) from sn_264 27) rfl ?_
      refine mx_J.step (ls2 := [some (.ref 56), some (xI x0), some (xI z2), some (xI z6), some (xI (-1)), some (xI 268435456), none, none]) (sn_264 30) (fun _ _ => rfl) ?_
      refine JcI (z := 0) (show mx_Sn _ _ 32 (mx_const (.int 0) 33) from sn_264 32) rfl ?_
      refine mx_J.step (ls2 := [some (.ref 56), some (xI x0), some (xI z2), some (xI z6), some (xI (-1)), some (xI 268435456), some (xI 0), none]) (sn_264 33) (fun _ _ => rfl) ?_
      have c35 : ∀ (m7 : Nat) (w7_4 : Int) (w7_5 : Int) (w7_6 : Int) (u7_7 : Option Value) (Z8 : xZ) (h8 : mx_H), 19 - w7_6 < (m7 : Int) → (-1) ≤ w7_4 ∧ w7_4 ≤ 18 → (-2147483648) ≤ w7_5 ∧ w7_5 ≤ 268435456 → 0 ≤ w7_6 ∧ w7_6 ≤ 19 → XH n s S Z8 h8 → GI n S Z8 → fr' [(62, (-1)), (64, (-1)), (65, (-1)), (79, (-1))] Z6 Z8 → mx_J (tB l D b0 ad Hb tau) mt_264 (d + 6) 35 [some (.ref 56), some (xI x0), some (xI z2), some (xI z6), some (xI w7_4), some (xI w7_5), some (xI w7_6), u7_7] [] h8 Post := by
        intro m7
        induction m7 with
        | zero => intro w7_4 w7_5 w7_6 u7_7 Z8 h8 q7 f7_0 f7_1 f7_2 hx8 hG8 hf8; exact absurd q7 (by omega)
        | succ m7 ih7 =>
          intro w7_4 w7_5 w7_6 u7_7 Z8 h8 q7 f7_0 f7_1 f7_2 hx8 hG8 hf8
          refine mx_J.step (sn_264 35) (fun _ _ => rfl) ?_
          refine JcI (z := 19) (show mx_Sn _ _ 37 (mx_const (.int 19) 39) from sn_264 37) rfl ?_
          have c79 : mx_J (tB l D b0 ad Hb tau) mt_264 (d + 6) 79 [some (.ref 56), some (xI x0), some (xI z2), some (xI z6), some (xI w7_4), some (xI w7_5), some (xI w7_6), u7_7] [] h8 Post := by
            refine mx_J.step (sn_264 79) (fun _ _ => rfl) ?_
            exact mx_J.ret (sn_264 81) (fun _ _ => rfl) (hP w7_4 Z8 h8 hx8 hG8 (fr_tr (M := [(56, 0), (62, (-1)), (64, (-1)), (65, (-1)), (79, (-1))]) (fr_tr (M := [(56, 0), (62, (-1)), (64, (-1)), (65, (-1)), (79, (-1))]) (fr_tr (M := [(56, 0), (62, (-1)), (64, (-1)), (65, (-1)), (79, (-1))]) fr_rf (fr_up hE1) (M1 := []) rfl rfl) (hf6) rfl rfl) (hf8) rfl rfl) (by omega))
          refine Jicmp_ge (show mx_Sn _ _ 39 (mx_icmp_ge 79 42) from sn_264 39) (by omega) (by omega) (fun q10 => ?_) (fun q10 => ?_)
          · skip
            exact c79 
          · skip
            refine mx_J.step (sn_264 42) (fun _ _ => rfl) ?_
            refine Jif_eq (show mx_Sn _ _ 43 (mx_if_eq 79 46) from sn_264 43) (by omega) (fun q11 => ?_) (fun q11 => ?_)
            · skip
              exact c79 
            · skip
              refine mx_J.step (sn_264 46) (fun _ _ => rfl) ?_
              refine mx_J.step (sn_264 47) (fun _ _ => rfl) ?_
              refine mx_J.step (sn_264 49) (fun _ _ => rfl) ?_
              obtain ⟨z12, Z12, h12, hc12, hx12, hG12, hf12, b12⟩ := ct_263_56 (d := d + 0) (l := l) (D := D) (b0 := b0) (ad := ad) (Hb := Hb) (tau := tau) hx8 hG8 (show 0 ≤ w7_6 ∧ w7_6 ≤ 18 by omega) (show (-2147483648) ≤ z6 ∧ z6 ≤ 2147483647 by omega)
              refine Jcv hx8 (show mx_Sn _ _ 50 (mx_callv 263 3 12 53) from sn_264 50) a56 s56 hc12 rfl rfl rfl ?_
              refine mx_J.step (ls2 := [some (.ref 56), some (xI x0), some (xI z2), some (xI z6), some (xI w7_4), some (xI w7_5), some (xI w7_6), some (xI z12)]) (sn_264 53) (fun _ _ => rfl) ?_
              refine mx_J.step (sn_264 55) (fun _ _ => rfl) ?_
              refine mx_J.step (sn_264 57) (fun _ _ => rfl) ?_
              have c73 : ∀ (w13_4 : Int) (w13_5 : Int), (-1) ≤ w13_4 ∧ w13_4 ≤ 18 → (-2147483648) ≤ w13_5 ∧ w13_5 ≤ 268435456 → mx_J (tB l D b0 ad Hb tau) mt_264 (d + 6) 73 [some (.ref 56), some (xI x0), some (xI z2), some (xI z6), some (xI w13_4), some (xI w13_5), some (xI w7_6), some (xI z12)] [] h12 Post := by
                intro w13_4 w13_5 f13_0 f13_1
                refine Jiinc (z := w7_6) (cz := 1) (ls2 := [some (.ref 56), some (xI x0), some (xI z2), some (xI z6), some (xI w13_4), some (xI w13_5), some (xI (w7_6 + 1)), some (xI z12)]) (show mx_Sn _ _ 73 (mx_iinc 6 1 76) from sn_264 73) rfl rfl rfl rfl ?_
                refine mx_J.step (sn_264 76) (fun _ _ => rfl) ?_
                exact ih7 w13_4 w13_5 (w7_6 + 1) (some (xI z12)) Z12 h12 (by omega) (by omega) (by omega) (by omega) hx12 hG12 (fr_tr (M := [(62, (-1)), (64, (-1)), (65, (-1)), (79, (-1))]) (fr_tr (M := [(62, (-1)), (64, (-1)), (65, (-1)), (79, (-1))]) fr_rf (hf8) (M1 := []) rfl rfl) (hf12) rfl rfl)
              refine Jicmp_lt (show mx_Sn _ _ 59 (mx_icmp_lt 65 62) from sn_264 59) (by omega) (by omega) (fun q14 => ?_) (fun q14 => ?_)
              · skip
                refine mx_J.step (sn_264 65) (fun _ _ => rfl) ?_
                refine mx_J.step (ls2 := [some (.ref 56), some (xI x0), some (xI z2), some (xI z6), some (xI w7_6), some (xI w7_5), some (xI w7_6), some (xI z12)]) (sn_264 67) (fun _ _ => rfl) ?_
                refine mx_J.step (sn_264 69) (fun _ _ => rfl) ?_
                refine mx_J.step (ls2 := [some (.ref 56), some (xI x0), some (xI z2), some (xI z6), some (xI w7_6), some (xI z12), some (xI w7_6), some (xI z12)]) (sn_264 71) (fun _ _ => rfl) ?_
                exact c73 w7_6 z12 (by omega) (by omega)
              · skip
                refine mx_J.step (sn_264 62) (fun _ _ => rfl) ?_
                exact c73 w7_4 w7_5 (by omega) (by omega)
      exact c35 (Int.toNat (19 - 0) + 1) (-1) 268435456 0 none Z6 h6 (by omega) (by omega) (by omega) (by omega) hx6 hG6 fr_rf
    · skip
      refine mx_J.step (sn_264 16) (fun _ _ => rfl) ?_
      exact mx_J.ret (sn_264 17) (fun _ _ => rfl) (hP z2 Z1 h1 hx1 hG1 (fr_tr (M := [(56, 0), (62, (-1)), (64, (-1)), (65, (-1)), (79, (-1))]) fr_rf (fr_up hE1) (M1 := []) rfl rfl) (by omega))
theorem ct_264_56 {l : Launch} {D : va_G} {b0 : Nat} {ad : Nat → Nat} {Hb : Heap} {tau : Nat → Int64} {d n s : Nat} {S : Nat → xS} {Z : xZ} {h : mx_H} (hx : XH n s S Z h) (hG : GI n S Z)  {x0 : Int} (p0 : (-2147483648) ≤ x0 ∧ x0 ≤ 2147483647) : ∃ (z : Int) (Z' : xZ) (h' : mx_H), mx_Ca (tB l D b0 ad Hb tau) (d + 7) 264 [.ref 56, xI x0] h (some (xI z), h') ∧ XH n s S Z' h' ∧ GI n S Z' ∧ fr' [(56, 0), (62, (-1)), (64, (-1)), (65, (-1)), (79, (-1))] Z Z' ∧ ((-6) ≤ z ∧ z ≤ 18) := by
  obtain ⟨r, hca, z, Z', h', e, q⟩ := Jmt (B := tB l D b0 ad Hb tau) (M := mt_264) (mi := 264) (as := [.ref 56, xI x0]) (d := d + 6) (ls := [some (.ref 56), some (xI x0), none, none, none, none, none, none]) rfl rfl rfl rfl rfl rfl (cw_264_56 (l := l) (D := D) (b0 := b0) (ad := ad) (Hb := Hb) (tau := tau) (d := d) (Post := fun r => ∃ (z : Int) (Z' : xZ) (h' : mx_H), r = (some (xI z), h') ∧ XH n s S Z' h' ∧ GI n S Z' ∧ fr' [(56, 0), (62, (-1)), (64, (-1)), (65, (-1)), (79, (-1))] Z Z' ∧ ((-6) ≤ z ∧ z ≤ 18)) hx hG p0 (fun z Z' h' q1 q2 q3 q4 => ⟨z, Z', h', rfl, q1, q2, q3, q4⟩))
  subst e; exact ⟨z, Z', h', hca, q⟩
set_option maxRecDepth 100000 in
theorem cw_185_56_i0 {l : Launch} {D : va_G} {b0 : Nat} {ad : Nat → Nat} {Hb : Heap} {tau : Nat → Int64} {d n s : Nat} {S : Nat → xS} {Z : xZ} {h : mx_H} {Post : mx_R → Prop} (hx : XH n s S Z h) (hG : GB n S Z)  {x1 x2 : Int} (p1 : 0 ≤ x1 ∧ x1 ≤ 18) (p2 : 0 ≤ x2 ∧ x2 ≤ 18) (k0 : Z 56 18 + wy (0 * 19 + x1) ≤ 385) (k1 : x2 + 0 ≤ 18) (hP : ∀ (Z' : xZ) (h' : mx_H), XH n s S Z' h' → GB n S Z' → fr' [(56, 18), (61, (-1))] Z Z' → GAp Z Z' 0 x1 x2 ∧ Z' 56 18 = Z 56 18 + wy (0 * 19 + x1) → Post (none, h')) : mx_J (tB l D b0 ad Hb tau) mt_185 (d + 0) 0 [some (.ref 56), some (xI 0), some (xI x1), some (xI x2), none] [] h Post := by
    have a56 : 56 < n := lt83 (GB_n hG) rfl
    have s56 : S 56 = .inl (12, [0, 2, 2, 2, 2, 0, 0, 0, 0, 0, 0, 0, 0, 0, 0, 2, 2, 2, 0, 2, 2, 2, 0, 0, 2, 2, 2, 2, 2, 2, 0, 0, 2, 2, 2, 2, 2, 2, 2, 2, 2, 2]) := GB_s hG 56 rfl
    have a61 : 61 < n := lt83 (GB_n hG) rfl
    have s61 : S 61 = .inr (.int, 6930, 0) := GB_s hG 61 rfl
    have a63 : 63 < n := lt83 (GB_n hG) rfl
    have s63 : S 63 = .inr (.int, 18, 0) := GB_s hG 63 rfl
    refine mx_J.step (sn_185 0) (fun _ _ => rfl) ?_
    refine Jif_ne (show mx_Sn _ _ 1 (mx_if_ne 63 4) from sn_185 1) (by omega) (fun q1 => ?_) (fun q1 => ?_)
    · skip
      exfalso; omega
    · skip
      have wz := Wz (m := x1) (by omega)
      refine JcI (z := 0) (show mx_Sn _ _ 4 (mx_const (.int 0) 5) from sn_185 4) rfl ?_
      refine mx_J.step (ls2 := [some (.ref 56), some (xI 0), some (xI x1), some (xI x2), some (xI 0)]) (sn_185 5) (fun _ _ => rfl) ?_
      have c7 : ∀ (m2 : Nat) (w2_4 : Int) (Z3 : xZ) (h3 : mx_H), 18 - w2_4 < (m2 : Int) → 0 ≤ w2_4 ∧ w2_4 ≤ 18 → RW1 Z Z3 (Z 56 18) x2 w2_4 → XH n s S Z3 h3 → GB n S Z3 → fr' [(61, (-1))] Z Z3 → mx_J (tB l D b0 ad Hb tau) mt_185 (d + 0) 7 [some (.ref 56), some (xI 0), some (xI x1), some (xI x2), some (xI w2_4)] [] h3 Post := by
        intro m2
        induction m2 with
        | zero => intro w2_4 Z3 h3 q2 f2_0 f2_1 hx3 hG3 hf3; exact absurd q2 (by omega)
        | succ m2 ih2 =>
          intro w2_4 Z3 h3 q2 f2_0 f2_1 hx3 hG3 hf3
          refine mx_J.step (sn_185 7) (fun _ _ => rfl) ?_
          refine JcI (z := 18) (show mx_Sn _ _ 9 (mx_const (.int 18) 11) from sn_185 9) rfl ?_
          refine Jicmp_ge (show mx_Sn _ _ 11 (mx_icmp_ge 52 14) from sn_185 11) (by omega) (by omega) (fun q4 => ?_) (fun q4 => ?_)
          · skip
            refine mx_J.step (sn_185 52) (fun _ _ => rfl) ?_
            refine mx_J.step (sn_185 53) (fun _ _ => rfl) ?_
            have b6 : 0 ≤ Z 56 18 ∧ Z 56 18 ≤ 385 := hG.pr 56 18
            refine JgetI (g := 18) (z := Z 56 18) hx3 (show mx_Sn _ _ 54 (mx_getf 12 18 57) from sn_185 54) a56 s56 rfl rfl (hf3 56 18 rfl) ?_
            refine JcI (z := 1) (show mx_Sn _ _ 57 (mx_const (.int 1) 58) from sn_185 57) rfl ?_
            refine Jiadd (show mx_Sn _ _ 58 (mx_iadd 59) from sn_185 58) ?_
            refine JputI (g := 18) hx3 (show mx_Sn _ _ 59 (mx_putf 1 12 18 (.int) 62) from sn_185 59) a56 s56 rfl rfl rfl rfl (fun Z7 h7 hx7 hE7 => ?_)
            have hG7 := GB_up hG3 hE7 (show 0 ≤ (Z 56 18) + 1 ∧ (Z 56 18) + 1 ≤ 385 by omega) trivial rfl
            have eq8 : Z7 56 18 = (Z 56 18) + 1 := (up_at hE7)
            have eq9 : Z7 56 18 = (Z 56 18) + 1 := (up_at hE7)
            exact mx_J.ret (sn_185 62) (fun _ _ => rfl) (hP Z7 h7 hx7 hG7 (fr_tr (M := [(56, 18), (61, (-1))]) (fr_tr (M := [(56, 18), (61, (-1))]) fr_rf (hf3) (M1 := []) rfl rfl) (fr_up hE7) rfl rfl) ⟨(ga_0 (k := w2_4) (by assumption) (by omega) (by omega) (fun i => (up_nk hE7 rfl)) (fun i => ((up_nk hE7 rfl).trans (hf3 63 i rfl))) (up_at hE7)), by omega⟩)
          · skip
            refine mx_J.step (sn_185 14) (fun _ _ => rfl) ?_
            refine JgetR (g := 15) (b := 61) hx3 (show mx_Sn _ _ 15 (mx_getf 12 15 18) from sn_185 15) a56 s56 rfl rfl (hG3.prr 56 15 rfl) ?_
            refine JcI (z := 18) (show mx_Sn _ _ 18 (mx_const (.int 18) 20) from sn_185 18) rfl ?_
            refine mx_J.step (sn_185 20) (fun _ _ => rfl) ?_
            have b12 : 0 ≤ Z 56 18 ∧ Z 56 18 ≤ 385 := hG.pr 56 18
            refine JgetI (g := 18) (z := Z 56 18) hx3 (show mx_Sn _ _ 21 (mx_getf 12 18 24) from sn_185 21) a56 s56 rfl rfl (hf3 56 18 rfl) ?_
            refine Jimul (show mx_Sn _ _ 24 (mx_imul 25) from sn_185 24) ?_
            refine mx_J.step (sn_185 25) (fun _ _ => rfl) ?_
            refine Jiadd (show mx_Sn _ _ 27 (mx_iadd 28) from sn_185 27) ?_
            refine mx_J.step (sn_185 28) (fun _ _ => rfl) ?_
            refine mx_J.step (sn_185 30) (fun _ _ => rfl) ?_
            have c45 : ∀ (k13_2 : Int), 0 ≤ k13_2 ∧ k13_2 ≤ 18 → ((w2_4 < x2 → k13_2 = Z 63 w2_4) ∧ (¬ w2_4 < x2 → k13_2 = 0)) → mx_J (tB l D b0 ad Hb tau) mt_185 (d + 0) 45 [some (.ref 56), some (xI 0), some (xI x1), some (xI x2), some (xI w2_4)] [xI k13_2, xI ((18 * (Z 56 18)) + w2_4), .ref 61] h3 Post := by
              intro k13_2 f13_0 f13_1
              refine JiastI hx3 (show mx_Sn _ _ 45 (mx_iast 1 46) from sn_185 45) a61 s61 rfl (by omega) (fun Z14 h14 hx14 hE14 => ?_)
              have hG14 := GB_up hG3 hE14 (show 0 ≤ k13_2 ∧ k13_2 ≤ 18 by omega) trivial rfl
              have rw1a := rw1_s (Z := Z) (m0 := Z 56 18) (n := x2) (k := w2_4) (by assumption) hE14 (by omega) (by omega) (by omega)
              refine Jiinc (z := w2_4) (cz := 1) (ls2 := [some (.ref 56), some (xI 0), some (xI x1), some (xI x2), some (xI (w2_4 + 1))]) (show mx_Sn _ _ 46 (mx_iinc 4 1 49) from sn_185 46) rfl rfl rfl rfl ?_
              refine mx_J.step (sn_185 49) (fun _ _ => rfl) ?_
              exact ih2 (w2_4 + 1) Z14 h14 (by omega) (by omega) (rw1a) hx14 hG14 (fr_tr (M := [(61, (-1))]) (fr_tr (M := [(61, (-1))]) fr_rf (hf3) (M1 := []) rfl rfl) (fr_ua hE14) rfl rfl)
            refine Jicmp_ge (show mx_Sn _ _ 31 (mx_icmp_ge 44 34) from sn_185 31) (by omega) (by omega) (fun q15 => ?_) (fun q15 => ?_)
            · skip
              refine JcI (z := 0) (show mx_Sn _ _ 44 (mx_const (.int 0) 45) from sn_185 44) rfl ?_
              exact c45 0 (by omega) (by omega)
            · skip
              refine mx_J.step (sn_185 34) (fun _ _ => rfl) ?_
              refine JgetR (g := 17) (b := 63) hx3 (show mx_Sn _ _ 35 (mx_getf 12 17 38) from sn_185 35) a56 s56 rfl rfl (hG3.prr 56 17 rfl) ?_
              refine mx_J.step (sn_185 38) (fun _ _ => rfl) ?_
              have b17 : 0 ≤ Z 63 w2_4 ∧ Z 63 w2_4 ≤ 18 := hG.pr 63 w2_4
              refine JialdI (z := Z 63 w2_4) hx3 (show mx_Sn _ _ 40 (mx_iald 41) from sn_185 40) a63 s63 (by omega) (hf3 63 w2_4 rfl) ?_
              refine mx_J.step (sn_185 41) (fun _ _ => rfl) ?_
              exact c45 (Z 63 w2_4) (by omega) (by omega)
      exact c7 (Int.toNat (18 - 0) + 1) 0 Z h (by omega) (by omega) (rw1_0 (fun _ => rfl)) hx hG fr_rf
theorem ct_185_56_i0 {l : Launch} {D : va_G} {b0 : Nat} {ad : Nat → Nat} {Hb : Heap} {tau : Nat → Int64} {d n s : Nat} {S : Nat → xS} {Z : xZ} {h : mx_H} (hx : XH n s S Z h) (hG : GB n S Z)  {x1 x2 : Int} (p1 : 0 ≤ x1 ∧ x1 ≤ 18) (p2 : 0 ≤ x2 ∧ x2 ≤ 18) (k0 : Z 56 18 + wy (0 * 19 + x1) ≤ 385) (k1 : x2 + 0 ≤ 18) : ∃ (Z' : xZ) (h' : mx_H), mx_Ca (tB l D b0 ad Hb tau) (d + 1) 185 [.ref 56, xI 0, xI x1, xI x2] h (none, h') ∧ XH n s S Z' h' ∧ GB n S Z' ∧ fr' [(56, 18), (61, (-1))] Z Z' ∧ (GAp Z Z' 0 x1 x2 ∧ Z' 56 18 = Z 56 18 + wy (0 * 19 + x1)) := by
  obtain ⟨r, hca, Z', h', e, q⟩ := Jmt (B := tB l D b0 ad Hb tau) (M := mt_185) (mi := 185) (as := [.ref 56, xI 0, xI x1, xI x2]) (d := d + 0) (ls := [some (.ref 56), some (xI 0), some (xI x1), some (xI x2), none]) rfl rfl rfl rfl rfl rfl (cw_185_56_i0 (l := l) (D := D) (b0 := b0) (ad := ad) (Hb := Hb) (tau := tau) (d := d) (Post := fun r => ∃ (Z' : xZ) (h' : mx_H), r = (none, h') ∧ XH n s S Z' h' ∧ GB n S Z' ∧ fr' [(56, 18), (61, (-1))] Z Z' ∧ (GAp Z Z' 0 x1 x2 ∧ Z' 56 18 = Z 56 18 + wy (0 * 19 + x1))) hx hG p1 p2 k0 k1 (fun Z' h' q1 q2 q3 q4 => ⟨Z', h', rfl, q1, q2, q3, q4⟩))
  subst e; exact ⟨Z', h', hca, q⟩
