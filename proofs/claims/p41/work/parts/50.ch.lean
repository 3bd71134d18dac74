set_option maxHeartbeats 8000000 in
set_option maxRecDepth 100000 in
theorem cw_90_1 {l : Launch} {D : va_G} {b0 : Nat} {ad : Nat → Nat} {Hb : Heap} {tau : Nat → Int64} {d n s : Nat} {S : Nat → xS} {Z : xZ} {h : mx_H} {Post : mx_R → Prop} (hx : XH n s S Z h) (hG : GI n S Z)  {x0 : Int} (p0 : (-2147483648) ≤ x0 ∧ x0 ≤ 2147483647) (k0 : 3 * ((n : Nat) : Int) + Z 1 1 + 6 ≤ 12288) (hP : ∀ (z : Int) (n' s' : Nat) (S' : Nat → xS) (Z' : xZ) (h' : mx_H), XH n' s' S' Z' h' → GI n' S' Z' → fr8 [(1, 1), (1, 2), (1, 3), (3, 0), (3, 1), (3, 2), (3, 3), (3, 4), (3, 5), (3, 7), (3, 8), (3, 9), (3, 10), (3, 12), (3, 13), (3, 14), (3, 15), (5, (-1)), (6, (-1)), (7, 4), (7, 5), (9, (-1)), (10, (-1)), (11, (-1)), (12, 1), (12, 2), (17, (-1)), (36, 0), (36, 1), (36, 2), (36, 3), (36, 4), (40, 1)] Z Z' → (-2147483648) ≤ z ∧ z ≤ 2147483647 ∧ (((n : Nat) : Int) ≤ ((n' : Nat) : Int) ∧ ((s : Nat) : Int) ≤ ((s' : Nat) : Int) ∧ ((s' : Nat) : Int) ≤ ((s : Nat) : Int) + 900 * (((n' : Nat) : Int) - ((n : Nat) : Int)) ∧ 3 * (((n' : Nat) : Int) - ((n : Nat) : Int)) + Z' 1 1 ≤ Z 1 1 + 6) → Post (some (xI z), h')) : mx_J (tB l D b0 ad Hb tau) mt_90 (d + 64) 0 [some (.ref 1), some (xI x0)] [] h Post := by
    refine mx_J.step (sn_90 0) (fun _ _ => rfl) ?_
    have c12 : mx_J (tB l D b0 ad Hb tau) mt_90 (d + 64) 12 [some (.ref 1), some (xI x0)] [] h Post := by
      refine JcI (z := (-3)) (show mx_Sn _ _ 12 (mx_const (.int (-3)) 14) from sn_90 12) rfl ?_
      have b2 : 0 ≤ Z 1 1 ∧ Z 1 1 ≤ 900 := hG.pr 1 1
      have b3 : 0 ≤ Z 1 1 ∧ Z 1 1 ≤ 900 := hG.pr 1 1
      exact mx_J.ret (sn_90 14) (fun _ _ => rfl) (hP (-3) n s S Z h hx hG fr8_rf (by omega))
    refine Jif_lt (show mx_Sn _ _ 1 (mx_if_lt 12 4) from sn_90 1) (by omega) (fun q4 => ?_) (fun q4 => ?_)
    · skip
      exact c12 
    · skip
      refine mx_J.step (sn_90 4) (fun _ _ => rfl) ?_
      refine mx_J.step (sn_90 5) (fun _ _ => rfl) ?_
      have b6 : 0 ≤ Z 1 1 ∧ Z 1 1 ≤ 900 := hG.pr 1 1
      refine JgetI (g := 1) (z := Z 1 1) hx (show mx_Sn _ _ 6 (mx_getf 11 1 9) from sn_90 6) (lt83 (GI_n hG) rfl) (show S 1 = .inl (11, [2, 0, 0, 0, 2, 2, 2, 2, 2, 2, 2, 2, 2, 2, 2, 2, 2]) from GI_s hG 1 rfl) rfl rfl rfl ?_
      refine Jicmp_le (show mx_Sn _ _ 9 (mx_icmp_le 15 12) from sn_90 9) (by omega) (by omega) (fun q7 => ?_) (fun q7 => ?_)
      · skip
        refine mx_J.step (sn_90 15) (fun _ _ => rfl) ?_
        refine JcI (z := 0) (show mx_Sn _ _ 16 (mx_const (.int 0) 17) from sn_90 16) rfl ?_
        refine JputI (g := 1) hx (show mx_Sn _ _ 17 (mx_putf 1 11 1 (.int) 20) from sn_90 17) (lt83 (GI_n hG) rfl) (show S 1 = .inl (11, [2, 0, 0, 0, 2, 2, 2, 2, 2, 2, 2, 2, 2, 2, 2, 2, 2]) from GI_s hG 1 rfl) rfl rfl rfl rfl (fun Z8 h8 hx8 hE8 => ?_)
        have hG8 := GI_up hG hE8 (show 0 ≤ 0 ∧ 0 ≤ 900 by omega) trivial rfl
        refine mx_J.step (sn_90 20) (fun _ _ => rfl) ?_
        refine JgetR (g := 4) (b := 3) hx8 (show mx_Sn _ _ 21 (mx_getf 11 4 24) from sn_90 21) (lt83 (GI_n hG8) rfl) (show S 1 = .inl (11, [2, 0, 0, 0, 2, 2, 2, 2, 2, 2, 2, 2, 2, 2, 2, 2, 2]) from GI_s hG8 1 rfl) rfl rfl (hG8.prr 1 4 rfl) ?_
        refine mx_J.step (sn_90 24) (fun _ _ => rfl) ?_
        refine JgetR (g := 0) (b := 2) hx8 (show mx_Sn _ _ 25 (mx_getf 11 0 28) from sn_90 25) (lt83 (GI_n hG8) rfl) (show S 1 = .inl (11, [2, 0, 0, 0, 2, 2, 2, 2, 2, 2, 2, 2, 2, 2, 2, 2, 2]) from GI_s hG8 1 rfl) rfl rfl (hG8.prr 1 0 rfl) ?_
        refine mx_J.step (sn_90 28) (fun _ _ => rfl) ?_
        obtain ⟨n11, s11, S11, Z11, h11, hc11, hx11, hG11, hf11, b11⟩ := ct_38_3_2 (d := d + 0) (l := l) (D := D) (b0 := b0) (ad := ad) (Hb := Hb) (tau := tau) hx8 hG8 (show 0 ≤ x0 ∧ x0 ≤ 900 by omega) (show 3 * ((n : Nat) : Int) + x0 + 6 ≤ 12288 by omega)
        have b12 : 0 ≤ Z11 3 12 ∧ Z11 3 12 ≤ 18 := hG11.pr 3 12
        refine Jcv0 hx8 (show mx_Sn _ _ 29 (mx_callv 38 3 7 32) from sn_90 29) (lt83 (GI_n hG8) rfl) (show S 3 = .inl (7, [2, 0, 0, 0, 0, 0, 2, 0, 2, 2, 0, 2, 0, 0, 0, 0]) from GI_s hG8 3 rfl) hc11 rfl rfl rfl ?_
        refine mx_J.step (sn_90 32) (fun _ _ => rfl) ?_
        refine mx_J.step (sn_90 33) (fun _ _ => rfl) ?_
        refine JgetR (g := 4) (b := 3) hx11 (show mx_Sn _ _ 34 (mx_getf 11 4 37) from sn_90 34) (lt83 (GI_n hG11) rfl) (show S11 1 = .inl (11, [2, 0, 0, 0, 2, 2, 2, 2, 2, 2, 2, 2, 2, 2, 2, 2, 2]) from GI_s hG11 1 rfl) rfl rfl (hG11.prr 1 4 rfl) ?_
        have b15 : 0 ≤ Z11 3 14 ∧ Z11 3 14 ≤ 4 := hG11.pr 3 14
        refine JgetI (g := 14) (z := Z11 3 14) hx11 (show mx_Sn _ _ 37 (mx_getf 7 14 40) from sn_90 37) (lt83 (GI_n hG11) rfl) (show S11 3 = .inl (7, [2, 0, 0, 0, 0, 0, 2, 0, 2, 2, 0, 2, 0, 0, 0, 0]) from GI_s hG11 3 rfl) rfl rfl rfl ?_
        refine JputI (g := 2) hx11 (show mx_Sn _ _ 40 (mx_putf 1 11 2 (.int) 43) from sn_90 40) (lt83 (GI_n hG11) rfl) (show S11 1 = .inl (11, [2, 0, 0, 0, 2, 2, 2, 2, 2, 2, 2, 2, 2, 2, 2, 2, 2]) from GI_s hG11 1 rfl) rfl rfl rfl rfl (fun Z16 h16 hx16 hE16 => ?_)
        have hG16 := GI_up hG11 hE16 (show 0 ≤ Z11 3 14 ∧ Z11 3 14 ≤ 4 by omega) trivial rfl
        refine mx_J.step (sn_90 43) (fun _ _ => rfl) ?_
        refine mx_J.step (sn_90 44) (fun _ _ => rfl) ?_
        refine JgetR (g := 4) (b := 3) hx16 (show mx_Sn _ _ 45 (mx_getf 11 4 48) from sn_90 45) (lt83 (GI_n hG16) rfl) (show S11 1 = .inl (11, [2, 0, 0, 0, 2, 2, 2, 2, 2, 2, 2, 2, 2, 2, 2, 2, 2]) from GI_s hG16 1 rfl) rfl rfl (hG16.prr 1 4 rfl) ?_
        have b19 : (-1) ≤ Z11 3 15 ∧ Z11 3 15 ≤ 900 := hG11.pr 3 15
        refine JgetI (g := 15) (z := Z11 3 15) hx16 (show mx_Sn _ _ 48 (mx_getf 7 15 51) from sn_90 48) (lt83 (GI_n hG16) rfl) (show S11 3 = .inl (7, [2, 0, 0, 0, 0, 0, 2, 0, 2, 2, 0, 2, 0, 0, 0, 0]) from GI_s hG16 3 rfl) rfl rfl (up_nk hE16 rfl) ?_
        refine JputI (g := 3) hx16 (show mx_Sn _ _ 51 (mx_putf 1 11 3 (.int) 54) from sn_90 51) (lt83 (GI_n hG16) rfl) (show S11 1 = .inl (11, [2, 0, 0, 0, 2, 2, 2, 2, 2, 2, 2, 2, 2, 2, 2, 2, 2]) from GI_s hG16 1 rfl) rfl rfl rfl rfl (fun Z20 h20 hx20 hE20 => ?_)
        have hG20 := GI_up hG16 hE20 (show (-1) ≤ Z11 3 15 ∧ Z11 3 15 ≤ 900 by omega) trivial rfl
        refine mx_J.step (sn_90 54) (fun _ _ => rfl) ?_
        refine JgetI (g := 2) (z := Z11 3 14) hx20 (show mx_Sn _ _ 55 (mx_getf 11 2 58) from sn_90 55) (lt83 (GI_n hG20) rfl) (show S11 1 = .inl (11, [2, 0, 0, 0, 2, 2, 2, 2, 2, 2, 2, 2, 2, 2, 2, 2, 2]) from GI_s hG20 1 rfl) rfl rfl ((up_ni hE20 (by decide)).trans (up_at hE16)) ?_
        refine Jif_eq (show mx_Sn _ _ 58 (mx_if_eq 69 61) from sn_90 58) (by omega) (fun q22 => ?_) (fun q22 => ?_)
        · skip
          refine mx_J.step (sn_90 69) (fun _ _ => rfl) ?_
          refine JgetR (g := 5) (b := 7) hx20 (show mx_Sn _ _ 70 (mx_getf 11 5 73) from sn_90 70) (lt83 (GI_n hG20) rfl) (show S11 1 = .inl (11, [2, 0, 0, 0, 2, 2, 2, 2, 2, 2, 2, 2, 2, 2, 2, 2, 2]) from GI_s hG20 1 rfl) rfl rfl (hG20.prr 1 5 rfl) ?_
          refine mx_J.step (sn_90 73) (fun _ _ => rfl) ?_
          refine JgetR (g := 4) (b := 3) hx20 (show mx_Sn _ _ 74 (mx_getf 11 4 77) from sn_90 74) (lt83 (GI_n hG20) rfl) (show S11 1 = .inl (11, [2, 0, 0, 0, 2, 2, 2, 2, 2, 2, 2, 2, 2, 2, 2, 2, 2]) from GI_s hG20 1 rfl) rfl rfl (hG20.prr 1 4 rfl) ?_
          have b26 : 0 ≤ Z11 3 12 ∧ Z11 3 12 ≤ 18 := hG11.pr 3 12
          refine JgetI (g := 12) (z := Z11 3 12) hx20 (show mx_Sn _ _ 77 (mx_getf 7 12 80) from sn_90 77) (lt83 (GI_n hG20) rfl) (show S11 3 = .inl (7, [2, 0, 0, 0, 0, 0, 2, 0, 2, 2, 0, 2, 0, 0, 0, 0]) from GI_s hG20 3 rfl) rfl rfl ((up_nk hE20 rfl).trans (up_nk hE16 rfl)) ?_
          obtain ⟨Z27, h27, hc27, hx27, hG27, hf27⟩ := ct_3_7 (d := d + 61) (l := l) (D := D) (b0 := b0) (ad := ad) (Hb := Hb) (tau := tau) hx20 hG20 (show 1 ≤ Z11 3 12 ∧ Z11 3 12 ≤ 18 by omega)
          refine Jcv0 hx20 (show mx_Sn _ _ 80 (mx_callv 3 2 0 83) from sn_90 80) (lt83 (GI_n hG20) rfl) (show S11 7 = .inl (0, [2, 2, 2, 2, 0, 0]) from GI_s hG20 7 rfl) hc27 rfl rfl rfl ?_
          refine mx_J.step (sn_90 83) (fun _ _ => rfl) ?_
          refine JgetR (g := 12) (b := 36) hx27 (show mx_Sn _ _ 84 (mx_getf 11 12 87) from sn_90 84) (lt83 (GI_n hG27) rfl) (show S11 1 = .inl (11, [2, 0, 0, 0, 2, 2, 2, 2, 2, 2, 2, 2, 2, 2, 2, 2, 2]) from GI_s hG27 1 rfl) rfl rfl (hG27.prr 1 12 rfl) ?_
          refine mx_J.step (sn_90 87) (fun _ _ => rfl) ?_
          refine JgetR (g := 4) (b := 3) hx27 (show mx_Sn _ _ 88 (mx_getf 11 4 91) from sn_90 88) (lt83 (GI_n hG27) rfl) (show S11 1 = .inl (11, [2, 0, 0, 0, 2, 2, 2, 2, 2, 2, 2, 2, 2, 2, 2, 2, 2]) from GI_s hG27 1 rfl) rfl rfl (hG27.prr 1 4 rfl) ?_
          obtain ⟨r30, n30, s30, S30, Z30, h30, hc30, hx30, hG30, hf30, b30, or30, ar30, sr30⟩ := ca_39 (d := d + 61) (l := l) (D := D) (b0 := b0) (ad := ad) (Hb := Hb) (tau := tau) hx27 hG27  (show ((n11 : Nat) : Int) ≤ 4095 by omega)
          refine Jcv hx27 (show mx_Sn _ _ 91 (mx_callv 39 1 7 94) from sn_90 91) (lt83 (GI_n hG27) rfl) (show S11 3 = .inl (7, [2, 0, 0, 0, 0, 0, 2, 0, 2, 2, 0, 2, 0, 0, 0, 0]) from GI_s hG27 3 rfl) hc30 rfl rfl rfl ?_
          refine JputR (g := 0) hx30 (show mx_Sn _ _ 94 (mx_putf 1 5 0 (.object "TitheHeap$Laws") 97) from sn_90 94) (lt83 (GI_n hG30) rfl) (show S30 36 = .inl (5, [2, 0, 0, 0, 0, 0]) from GI_s hG30 36 rfl) rfl rfl rfl rfl (fun Z31 h31 hx31 hE31 => ?_)
          have hG31 := GI_upL hG30 hE31 (show (0 : Int) ≤ (r30 : Int) ∧ (r30 : Int) ≤ 4096 by have hn := hx30.2.2.1; omega) trivial rfl ⟨r30, rfl, or30, ar30, sr30⟩
          refine mx_J.step (sn_90 97) (fun _ _ => rfl) ?_
          refine JgetR (g := 12) (b := 36) hx31 (show mx_Sn _ _ 98 (mx_getf 11 12 101) from sn_90 98) (lt83 (GI_n hG31) rfl) (show S30 1 = .inl (11, [2, 0, 0, 0, 2, 2, 2, 2, 2, 2, 2, 2, 2, 2, 2, 2, 2]) from GI_s hG31 1 rfl) rfl rfl (hG31.prr 1 12 rfl) ?_
          refine mx_J.step (sn_90 101) (fun _ _ => rfl) ?_
          refine JgetR (g := 4) (b := 3) hx31 (show mx_Sn _ _ 102 (mx_getf 11 4 105) from sn_90 102) (lt83 (GI_n hG31) rfl) (show S30 1 = .inl (11, [2, 0, 0, 0, 2, 2, 2, 2, 2, 2, 2, 2, 2, 2, 2, 2, 2]) from GI_s hG31 1 rfl) rfl rfl (hG31.prr 1 4 rfl) ?_
          have b35 : 0 ≤ Z11 3 12 ∧ Z11 3 12 ≤ 18 := hG11.pr 3 12
          refine JgetI (g := 12) (z := Z11 3 12) hx31 (show mx_Sn _ _ 105 (mx_getf 7 12 108) from sn_90 105) (lt83 (GI_n hG31) rfl) (show S30 3 = .inl (7, [2, 0, 0, 0, 0, 0, 2, 0, 2, 2, 0, 2, 0, 0, 0, 0]) from GI_s hG31 3 rfl) rfl rfl ((up_nk hE31 rfl).trans ((hf30 3 12 rfl rfl).trans ((hf27 3 12 rfl).trans ((up_nk hE20 rfl).trans (up_nk hE16 rfl))))) ?_
          refine JputI (g := 1) hx31 (show mx_Sn _ _ 108 (mx_putf 1 5 1 (.int) 111) from sn_90 108) (lt83 (GI_n hG31) rfl) (show S30 36 = .inl (5, [2, 0, 0, 0, 0, 0]) from GI_s hG31 36 rfl) rfl rfl rfl rfl (fun Z36 h36 hx36 hE36 => ?_)
          have hG36 := GI_up hG31 hE36 (show 1 ≤ Z11 3 12 ∧ Z11 3 12 ≤ 18 by omega) trivial rfl
          refine mx_J.step (sn_90 111) (fun _ _ => rfl) ?_
          refine JgetR (g := 12) (b := 36) hx36 (show mx_Sn _ _ 112 (mx_getf 11 12 115) from sn_90 112) (lt83 (GI_n hG36) rfl) (show S30 1 = .inl (11, [2, 0, 0, 0, 2, 2, 2, 2, 2, 2, 2, 2, 2, 2, 2, 2, 2]) from GI_s hG36 1 rfl) rfl rfl (hG36.prr 1 12 rfl) ?_
          refine mx_J.step (sn_90 115) (fun _ _ => rfl) ?_
          refine JgetR (g := 5) (b := 7) hx36 (show mx_Sn _ _ 116 (mx_getf 11 5 119) from sn_90 116) (lt83 (GI_n hG36) rfl) (show S30 1 = .inl (11, [2, 0, 0, 0, 2, 2, 2, 2, 2, 2, 2, 2, 2, 2, 2, 2, 2]) from GI_s hG36 1 rfl) rfl rfl (hG36.prr 1 5 rfl) ?_
          refine mx_J.step (sn_90 119) (fun _ _ => rfl) ?_
          refine JgetR (g := 4) (b := 3) hx36 (show mx_Sn _ _ 120 (mx_getf 11 4 123) from sn_90 120) (lt83 (GI_n hG36) rfl) (show S30 1 = .inl (11, [2, 0, 0, 0, 2, 2, 2, 2, 2, 2, 2, 2, 2, 2, 2, 2, 2]) from GI_s hG36 1 rfl) rfl rfl (hG36.prr 1 4 rfl) ?_
          refine JgetR (g := 11) (b := 6) hx36 (show mx_Sn _ _ 123 (mx_getf 7 11 126) from sn_90 123) (lt83 (GI_n hG36) rfl) (show S30 3 = .inl (7, [2, 0, 0, 0, 0, 0, 2, 0, 2, 2, 0, 2, 0, 0, 0, 0]) from GI_s hG36 3 rfl) rfl rfl (hG36.prr 3 11 rfl) ?_
          obtain ⟨z41, hc41, b41⟩ := ct_9_7_6 (d := d + 62) (l := l) (D := D) (b0 := b0) (ad := ad) (Hb := Hb) (tau := tau) hx36 hG36  (fun i _ _ => by have q : 0 ≤ Z36 6 i ∧ Z36 6 i ≤ 20 := hG36.pr 6 i; omega)
          refine Jcv hx36 (show mx_Sn _ _ 126 (mx_callv 9 2 0 129) from sn_90 126) (lt83 (GI_n hG36) rfl) (show S30 7 = .inl (0, [2, 2, 2, 2, 0, 0]) from GI_s hG36 7 rfl) hc41 rfl rfl rfl ?_
          refine JputI (g := 2) hx36 (show mx_Sn _ _ 129 (mx_putf 1 5 2 (.int) 132) from sn_90 129) (lt83 (GI_n hG36) rfl) (show S30 36 = .inl (5, [2, 0, 0, 0, 0, 0]) from GI_s hG36 36 rfl) rfl rfl rfl rfl (fun Z42 h42 hx42 hE42 => ?_)
          have hG42 := GI_up hG36 hE42 (show 0 ≤ z41 ∧ z41 ≤ 384 by omega) trivial rfl
          refine mx_J.step (sn_90 132) (fun _ _ => rfl) ?_
          refine JgetR (g := 12) (b := 36) hx42 (show mx_Sn _ _ 133 (mx_getf 11 12 136) from sn_90 133) (lt83 (GI_n hG42) rfl) (show S30 1 = .inl (11, [2, 0, 0, 0, 2, 2, 2, 2, 2, 2, 2, 2, 2, 2, 2, 2, 2]) from GI_s hG42 1 rfl) rfl rfl (hG42.prr 1 12 rfl) ?_
          refine mx_J.step (sn_90 136) (fun _ _ => rfl) ?_
          refine JgetR (g := 4) (b := 3) hx42 (show mx_Sn _ _ 137 (mx_getf 11 4 140) from sn_90 137) (lt83 (GI_n hG42) rfl) (show S30 1 = .inl (11, [2, 0, 0, 0, 2, 2, 2, 2, 2, 2, 2, 2, 2, 2, 2, 2, 2]) from GI_s hG42 1 rfl) rfl rfl (hG42.prr 1 4 rfl) ?_
          have b46 : 0 ≤ Z11 3 13 ∧ Z11 3 13 ≤ 9 := hG11.pr 3 13
          refine JgetI (g := 13) (z := Z11 3 13) hx42 (show mx_Sn _ _ 140 (mx_getf 7 13 143) from sn_90 140) (lt83 (GI_n hG42) rfl) (show S30 3 = .inl (7, [2, 0, 0, 0, 0, 0, 2, 0, 2, 2, 0, 2, 0, 0, 0, 0]) from GI_s hG42 3 rfl) rfl rfl ((up_nk hE42 rfl).trans ((up_nk hE36 rfl).trans ((up_nk hE31 rfl).trans ((hf30 3 13 rfl rfl).trans ((hf27 3 13 rfl).trans ((up_nk hE20 rfl).trans (up_nk hE16 rfl))))))) ?_
          refine JputI (g := 3) hx42 (show mx_Sn _ _ 143 (mx_putf 1 5 3 (.int) 146) from sn_90 143) (lt83 (GI_n hG42) rfl) (show S30 36 = .inl (5, [2, 0, 0, 0, 0, 0]) from GI_s hG42 36 rfl) rfl rfl rfl rfl (fun Z47 h47 hx47 hE47 => ?_)
          have hG47 := GI_up hG42 hE47 (show 0 ≤ Z11 3 13 ∧ Z11 3 13 ≤ 9 by omega) trivial rfl
          refine mx_J.step (sn_90 146) (fun _ _ => rfl) ?_
          refine JgetR (g := 12) (b := 36) hx47 (show mx_Sn _ _ 147 (mx_getf 11 12 150) from sn_90 147) (lt83 (GI_n hG47) rfl) (show S30 1 = .inl (11, [2, 0, 0, 0, 2, 2, 2, 2, 2, 2, 2, 2, 2, 2, 2, 2, 2]) from GI_s hG47 1 rfl) rfl rfl (hG47.prr 1 12 rfl) ?_
          refine JcI (z := 0) (show mx_Sn _ _ 150 (mx_const (.int 0) 151) from sn_90 150) rfl ?_
          refine JputI (g := 4) hx47 (show mx_Sn _ _ 151 (mx_putf 1 5 4 (.int) 154) from sn_90 151) (lt83 (GI_n hG47) rfl) (show S30 36 = .inl (5, [2, 0, 0, 0, 0, 0]) from GI_s hG47 36 rfl) rfl rfl rfl rfl (fun Z49 h49 hx49 hE49 => ?_)
          have hG49 := GI_up hG47 hE49 (show (-2147483648) ≤ 0 ∧ 0 ≤ 2147483647 by omega) trivial rfl
          refine mx_J.step (sn_90 154) (fun _ _ => rfl) ?_
          obtain ⟨Z50, h50, hc50, hx50, hG50, hf50⟩ := ct_135_1 (d := d + 60) (l := l) (D := D) (b0 := b0) (ad := ad) (Hb := Hb) (tau := tau) hx49 hG49 
          refine Jcv0 hx49 (show mx_Sn _ _ 155 (mx_callv 135 1 11 158) from sn_90 155) (lt83 (GI_n hG49) rfl) (show S30 1 = .inl (11, [2, 0, 0, 0, 2, 2, 2, 2, 2, 2, 2, 2, 2, 2, 2, 2, 2]) from GI_s hG49 1 rfl) hc50 rfl rfl rfl ?_
          refine mx_J.step (sn_90 158) (fun _ _ => rfl) ?_
          refine JgetR (g := 12) (b := 36) hx50 (show mx_Sn _ _ 159 (mx_getf 11 12 162) from sn_90 159) (lt83 (GI_n hG50) rfl) (show S30 1 = .inl (11, [2, 0, 0, 0, 2, 2, 2, 2, 2, 2, 2, 2, 2, 2, 2, 2, 2]) from GI_s hG50 1 rfl) rfl rfl (hG50.prr 1 12 rfl) ?_
          obtain ⟨r52, er52, or52, ar52, sr52⟩ := GI_l36 hG50
          refine JgetR (g := 0) (b := r52) hx50 (show mx_Sn _ _ 162 (mx_getf 5 0 165) from sn_90 162) (lt83 (GI_n hG50) rfl) (show S30 36 = .inl (5, [2, 0, 0, 0, 0, 0]) from GI_s hG50 36 rfl) rfl rfl er52 ?_
          have b53 : -2147483648 ≤ Z50 r52 2 ∧ Z50 r52 2 ≤ 2147483647 := (GI_rc hG50 or52 ar52 sr52).2.2
          refine JgetI (g := 2) (z := Z50 r52 2) hx50 (show mx_Sn _ _ 165 (mx_getf 3 2 168) from sn_90 165) ar52 sr52 rfl rfl rfl ?_
          have eq54 : Z50 1 1 = 0 := ((hf50 1 1 rfl).trans ((up_nk hE49 rfl).trans ((up_nk hE47 rfl).trans ((up_nk hE42 rfl).trans ((up_nk hE36 rfl).trans ((up_nk hE31 rfl).trans ((hf30 1 1 rfl rfl).trans ((hf27 1 1 rfl).trans ((up_ni hE20 (by decide)).trans ((up_ni hE16 (by decide)).trans ((hf11 1 1 rfl rfl).trans (up_at hE8))))))))))))
          have eq55 : Z50 1 1 = 0 := ((hf50 1 1 rfl).trans ((up_nk hE49 rfl).trans ((up_nk hE47 rfl).trans ((up_nk hE42 rfl).trans ((up_nk hE36 rfl).trans ((up_nk hE31 rfl).trans ((hf30 1 1 rfl rfl).trans ((hf27 1 1 rfl).trans ((up_ni hE20 (by decide)).trans ((up_ni hE16 (by decide)).trans ((hf11 1 1 rfl rfl).trans (up_at hE8))))))))))))
          exact mx_J.ret (sn_90 168) (fun _ _ => rfl) (hP (Z50 r52 2) n30 s30 S30 Z50 h50 hx50 hG50 (fr8_tr (M := [(1, 1), (1, 2), (1, 3), (3, 0), (3, 1), (3, 2), (3, 3), (3, 4), (3, 5), (3, 7), (3, 8), (3, 9), (3, 10), (3, 12), (3, 13), (3, 14), (3, 15), (5, (-1)), (6, (-1)), (7, 4), (7, 5), (9, (-1)), (10, (-1)), (11, (-1)), (12, 1), (12, 2), (17, (-1)), (36, 0), (36, 1), (36, 2), (36, 3), (36, 4), (40, 1)]) (fr8_tr (M := [(1, 1), (1, 2), (1, 3), (3, 0), (3, 1), (3, 2), (3, 3), (3, 4), (3, 5), (3, 7), (3, 8), (3, 9), (3, 10), (3, 12), (3, 13), (3, 14), (3, 15), (5, (-1)), (6, (-1)), (7, 4), (7, 5), (9, (-1)), (10, (-1)), (11, (-1)), (12, 1), (12, 2), (17, (-1)), (36, 0), (36, 1), (36, 2), (36, 3), (36, 4), (40, 1)]) (fr8_tr (M := [(1, 1), (1, 2), (1, 3), (3, 0), (3, 1), (3, 2), (3, 3), (3, 4), (3, 5), (3, 7), (3, 8), (3, 9), (3, 10), (3, 12), (3, 13), (3, 14), (3, 15), (5, (-1)), (6, (-1)), (7, 4), (7, 5), (9, (-1)), (10, (-1)), (11, (-1)), (12, 1), (12, 2), (17, (-1)), (36, 0), (36, 1), (36, 2), (36, 3), (36, 4), (40, 1)]) (fr8_tr (M := [(1, 1), (1, 2), (1, 3), (3, 0), (3, 1), (3, 2), (3, 3), (3, 4), (3, 5), (3, 7), (3, 8), (3, 9), (3, 10), (3, 12), (3, 13), (3, 14), (3, 15), (5, (-1)), (6, (-1)), (7, 4), (7, 5), (9, (-1)), (10, (-1)), (11, (-1)), (12, 1), (12, 2), (17, (-1)), (36, 0), (36, 1), (36, 2), (36, 3), (36, 4), (40, 1)]) (fr8_tr (M := [(1, 1), (1, 2), (1, 3), (3, 0), (3, 1), (3, 2), (3, 3), (3, 4), (3, 5), (3, 7), (3, 8), (3, 9), (3, 10), (3, 12), (3, 13), (3, 14), (3, 15), (5, (-1)), (6, (-1)), (7, 4), (7, 5), (9, (-1)), (10, (-1)), (11, (-1)), (12, 1), (12, 2), (17, (-1)), (36, 0), (36, 1), (36, 2), (36, 3), (36, 4), (40, 1)]) (fr8_tr (M := [(1, 1), (1, 2), (1, 3), (3, 0), (3, 1), (3, 2), (3, 3), (3, 4), (3, 5), (3, 7), (3, 8), (3, 9), (3, 10), (3, 12), (3, 13), (3, 14), (3, 15), (5, (-1)), (6, (-1)), (7, 4), (7, 5), (9, (-1)), (10, (-1)), (11, (-1)), (12, 1), (12, 2), (17, (-1)), (36, 0), (36, 1), (36, 2), (36, 3), (36, 4), (40, 1)]) (fr8_tr (M := [(1, 1), (1, 2), (1, 3), (3, 0), (3, 1), (3, 2), (3, 3), (3, 4), (3, 5), (3, 7), (3, 8), (3, 9), (3, 10), (3, 12), (3, 13), (3, 14), (3, 15), (5, (-1)), (6, (-1)), (7, 4), (7, 5), (9, (-1)), (10, (-1)), (11, (-1)), (12, 1), (12, 2), (17, (-1)), (36, 0), (36, 1), (36, 2), (36, 3), (36, 4), (40, 1)]) (fr8_tr (M := [(1, 1), (1, 2), (1, 3), (3, 0), (3, 1), (3, 2), (3, 3), (3, 4), (3, 5), (3, 7), (3, 8), (3, 9), (3, 10), (3, 12), (3, 13), (3, 14), (3, 15), (5, (-1)), (6, (-1)), (7, 4), (7, 5), (9, (-1)), (10, (-1)), (11, (-1)), (12, 1), (12, 2), (17, (-1)), (36, 0), (36, 1), (36, 2), (36, 3), (36, 4), (40, 1)]) (fr8_tr (M := [(1, 1), (1, 2), (1, 3), (3, 0), (3, 1), (3, 2), (3, 3), (3, 4), (3, 5), (3, 7), (3, 8), (3, 9), (3, 10), (3, 12), (3, 13), (3, 14), (3, 15), (5, (-1)), (6, (-1)), (7, 4), (7, 5), (9, (-1)), (10, (-1)), (11, (-1)), (12, 1), (12, 2), (17, (-1)), (36, 0), (36, 1), (36, 2), (36, 3), (36, 4), (40, 1)]) (fr8_tr (M := [(1, 1), (1, 2), (1, 3), (3, 0), (3, 1), (3, 2), (3, 3), (3, 4), (3, 5), (3, 7), (3, 8), (3, 9), (3, 10), (3, 12), (3, 13), (3, 14), (3, 15), (5, (-1)), (6, (-1)), (7, 4), (7, 5), (9, (-1)), (10, (-1)), (11, (-1)), (12, 1), (12, 2), (17, (-1)), (36, 0), (36, 1), (36, 2), (36, 3), (36, 4), (40, 1)]) (fr8_tr (M := [(1, 1), (1, 2), (1, 3), (3, 0), (3, 1), (3, 2), (3, 3), (3, 4), (3, 5), (3, 7), (3, 8), (3, 9), (3, 10), (3, 12), (3, 13), (3, 14), (3, 15), (5, (-1)), (6, (-1)), (7, 4), (7, 5), (9, (-1)), (10, (-1)), (11, (-1)), (12, 1), (12, 2), (17, (-1)), (36, 0), (36, 1), (36, 2), (36, 3), (36, 4), (40, 1)]) (fr8_tr (M := [(1, 1), (1, 2), (1, 3), (3, 0), (3, 1), (3, 2), (3, 3), (3, 4), (3, 5), (3, 7), (3, 8), (3, 9), (3, 10), (3, 12), (3, 13), (3, 14), (3, 15), (5, (-1)), (6, (-1)), (7, 4), (7, 5), (9, (-1)), (10, (-1)), (11, (-1)), (12, 1), (12, 2), (17, (-1)), (36, 0), (36, 1), (36, 2), (36, 3), (36, 4), (40, 1)]) fr8_rf (fr8_of (fr_up hE8)) (M1 := []) rfl rfl) (hf11) rfl rfl) (fr8_of (fr_up hE16)) rfl rfl) (fr8_of (fr_up hE20)) rfl rfl) (fr8_of (hf27)) rfl rfl) (hf30) rfl rfl) (fr8_of (fr_up hE31)) rfl rfl) (fr8_of (fr_up hE36)) rfl rfl) (fr8_of (fr_up hE42)) rfl rfl) (fr8_of (fr_up hE47)) rfl rfl) (fr8_of (fr_up hE49)) rfl rfl) (fr8_of (hf50)) rfl rfl) (by omega))
        · skip
          refine JcI (z := (-30)) (show mx_Sn _ _ 61 (mx_const (.int (-30)) 63) from sn_90 61) rfl ?_
          refine mx_J.step (sn_90 63) (fun _ _ => rfl) ?_
          refine JgetI (g := 2) (z := Z11 3 14) hx20 (show mx_Sn _ _ 64 (mx_getf 11 2 67) from sn_90 64) (lt83 (GI_n hG20) rfl) (show S11 1 = .inl (11, [2, 0, 0, 0, 2, 2, 2, 2, 2, 2, 2, 2, 2, 2, 2, 2, 2]) from GI_s hG20 1 rfl) rfl rfl ((up_ni hE20 (by decide)).trans (up_at hE16)) ?_
          refine Jisub (show mx_Sn _ _ 67 (mx_isub 68) from sn_90 67) ?_
          have eq57 : Z20 1 1 = 0 := ((up_ni hE20 (by decide)).trans ((up_ni hE16 (by decide)).trans ((hf11 1 1 rfl rfl).trans (up_at hE8))))
          have eq58 : Z20 1 1 = 0 := ((up_ni hE20 (by decide)).trans ((up_ni hE16 (by decide)).trans ((hf11 1 1 rfl rfl).trans (up_at hE8))))
          exact mx_J.ret (sn_90 68) (fun _ _ => rfl) (hP ((-30) - (Z11 3 14)) n11 s11 S11 Z20 h20 hx20 hG20 (fr8_tr (M := [(1, 1), (1, 2), (1, 3), (3, 0), (3, 1), (3, 2), (3, 3), (3, 4), (3, 5), (3, 7), (3, 8), (3, 9), (3, 10), (3, 12), (3, 13), (3, 14), (3, 15), (5, (-1)), (6, (-1)), (7, 4), (7, 5), (9, (-1)), (10, (-1)), (11, (-1)), (12, 1), (12, 2), (17, (-1)), (36, 0), (36, 1), (36, 2), (36, 3), (36, 4), (40, 1)]) (fr8_tr (M := [(1, 1), (1, 2), (1, 3), (3, 0), (3, 1), (3, 2), (3, 3), (3, 4), (3, 5), (3, 7), (3, 8), (3, 9), (3, 10), (3, 12), (3, 13), (3, 14), (3, 15), (5, (-1)), (6, (-1)), (7, 4), (7, 5), (9, (-1)), (10, (-1)), (11, (-1)), (12, 1), (12, 2), (17, (-1)), (36, 0), (36, 1), (36, 2), (36, 3), (36, 4), (40, 1)]) (fr8_tr (M := [(1, 1), (1, 2), (1, 3), (3, 0), (3, 1), (3, 2), (3, 3), (3, 4), (3, 5), (3, 7), (3, 8), (3, 9), (3, 10), (3, 12), (3, 13), (3, 14), (3, 15), (5, (-1)), (6, (-1)), (7, 4), (7, 5), (9, (-1)), (10, (-1)), (11, (-1)), (12, 1), (12, 2), (17, (-1)), (36, 0), (36, 1), (36, 2), (36, 3), (36, 4), (40, 1)]) (fr8_tr (M := [(1, 1), (1, 2), (1, 3), (3, 0), (3, 1), (3, 2), (3, 3), (3, 4), (3, 5), (3, 7), (3, 8), (3, 9), (3, 10), (3, 12), (3, 13), (3, 14), (3, 15), (5, (-1)), (6, (-1)), (7, 4), (7, 5), (9, (-1)), (10, (-1)), (11, (-1)), (12, 1), (12, 2), (17, (-1)), (36, 0), (36, 1), (36, 2), (36, 3), (36, 4), (40, 1)]) fr8_rf (fr8_of (fr_up hE8)) (M1 := []) rfl rfl) (hf11) rfl rfl) (fr8_of (fr_up hE16)) rfl rfl) (fr8_of (fr_up hE20)) rfl rfl) (by omega))
      · skip
        exact c12 
theorem ct_90_1 {l : Launch} {D : va_G} {b0 : Nat} {ad : Nat → Nat} {Hb : Heap} {tau : Nat → Int64} {d n s : Nat} {S : Nat → xS} {Z : xZ} {h : mx_H} (hx : XH n s S Z h) (hG : GI n S Z)  {x0 : Int} (p0 : (-2147483648) ≤ x0 ∧ x0 ≤ 2147483647) (k0 : 3 * ((n : Nat) : Int) + Z 1 1 + 6 ≤ 12288) : ∃ (z : Int) (n' s' : Nat) (S' : Nat → xS) (Z' : xZ) (h' : mx_H), mx_Ca (tB l D b0 ad Hb tau) (d + 65) 90 [.ref 1, xI x0] h (some (xI z), h') ∧ XH n' s' S' Z' h' ∧ GI n' S' Z' ∧ fr8 [(1, 1), (1, 2), (1, 3), (3, 0), (3, 1), (3, 2), (3, 3), (3, 4), (3, 5), (3, 7), (3, 8), (3, 9), (3, 10), (3, 12), (3, 13), (3, 14), (3, 15), (5, (-1)), (6, (-1)), (7, 4), (7, 5), (9, (-1)), (10, (-1)), (11, (-1)), (12, 1), (12, 2), (17, (-1)), (36, 0), (36, 1), (36, 2), (36, 3), (36, 4), (40, 1)] Z Z' ∧ ((-2147483648) ≤ z ∧ z ≤ 2147483647 ∧ (((n : Nat) : Int) ≤ ((n' : Nat) : Int) ∧ ((s : Nat) : Int) ≤ ((s' : Nat) : Int) ∧ ((s' : Nat) : Int) ≤ ((s : Nat) : Int) + 900 * (((n' : Nat) : Int) - ((n : Nat) : Int)) ∧ 3 * (((n' : Nat) : Int) - ((n : Nat) : Int)) + Z' 1 1 ≤ Z 1 1 + 6)) := by
  obtain ⟨r, hca, z, n', s', S', Z', h', e, q⟩ := Jmt (B := tB l D b0 ad Hb tau) (M := mt_90) (mi := 90) (as := [.ref 1, xI x0]) (d := d + 64) (ls := [some (.ref 1), some (xI x0)]) rfl rfl rfl rfl rfl rfl (cw_90_1 (l := l) (D := D) (b0 := b0) (ad := ad) (Hb := Hb) (tau := tau) (d := d) (Post := fun r => ∃ (z : Int) (n' s' : Nat) (S' : Nat → xS) (Z' : xZ) (h' : mx_H), r = (some (xI z), h') ∧ XH n' s' S' Z' h' ∧ GI n' S' Z' ∧ fr8 [(1, 1), (1, 2), (1, 3), (3, 0), (3, 1), (3, 2), (3, 3), (3, 4), (3, 5), (3, 7), (3, 8), (3, 9), (3, 10), (3, 12), (3, 13), (3, 14), (3, 15), (5, (-1)), (6, (-1)), (7, 4), (7, 5), (9, (-1)), (10, (-1)), (11, (-1)), (12, 1), (12, 2), (17, (-1)), (36, 0), (36, 1), (36, 2), (36, 3), (36, 4), (40, 1)] Z Z' ∧ ((-2147483648) ≤ z ∧ z ≤ 2147483647 ∧ (((n : Nat) : Int) ≤ ((n' : Nat) : Int) ∧ ((s : Nat) : Int) ≤ ((s' : Nat) : Int) ∧ ((s' : Nat) : Int) ≤ ((s : Nat) : Int) + 900 * (((n' : Nat) : Int) - ((n : Nat) : Int)) ∧ 3 * (((n' : Nat) : Int) - ((n : Nat) : Int)) + Z' 1 1 ≤ Z 1 1 + 6))) hx hG p0 k0 (fun z n' s' S' Z' h' q1 q2 q3 q4 => ⟨z, n', s', S', Z', h', rfl, q1, q2, q3, q4⟩))
  subst e; exact ⟨z, n', s', S', Z', h', hca, q⟩
set_option maxRecDepth 100000 in
theorem cw_11_D {l : Launch} {D : va_G} {b0 : Nat} {ad : Nat → Nat} {Hb : Heap} {tau : Nat → Int64} {d n s : Nat} {S : Nat → xS} {Z : xZ} {h : mx_H} {Post : mx_R → Prop} (hx : XH n s S Z h) (hG : GI n S Z) {r0 : Nat} (or0 : 83 ≤ r0) (ar0 : r0 < n) (sr0 : S r0 = .inl (1, [0])) {x0 : Int} (p0 : (-2147483648) ≤ x0 ∧ x0 ≤ 2147483647) (hP : ∀ (Z' : xZ) (h' : mx_H), XH n s S Z' h' → GI n S Z' → fr8 [] Z Z' → Post (none, h')) : mx_J (tB l D b0 ad Hb tau) mt_11 (d + 1) 0 [some (.ref r0), some (xI x0)] [] h Post := by
    refine mx_J.step (sn_11 0) (fun _ _ => rfl) ?_
    refine Jobj (show mx_Sn _ _ 1 (mx_objinit 4) from sn_11 1) ⟨_, rfl⟩ rfl ?_
    refine mx_J.step (sn_11 4) (fun _ _ => rfl) ?_
    refine mx_J.step (sn_11 5) (fun _ _ => rfl) ?_
    refine JputI (g := 0) hx (show mx_Sn _ _ 6 (mx_putf 1 1 0 (.int) 9) from sn_11 6) ar0 sr0 (Bool.eq_false_iff.mpr (fun q => by have q : r0 + 1 ≤ 1 := Nat.ble_eq.mp q; omega)) rfl rfl rfl (fun Z1 h1 hx1 hE1 => ?_)
    have hG1 := GI_upD hG hE1 or0 (by omega) (fun len e => by rw [sr0] at e; cases e) (fun e => by rw [sr0] at e; cases e)
    exact mx_J.ret (sn_11 9) (fun _ _ => rfl) (hP Z1 h1 hx1 hG1 (fr8_tr (M := []) fr8_rf (fr8_upD hE1 or0) (M1 := []) rfl rfl))
theorem ct_11_D {l : Launch} {D : va_G} {b0 : Nat} {ad : Nat → Nat} {Hb : Heap} {tau : Nat → Int64} {d n s : Nat} {S : Nat → xS} {Z : xZ} {h : mx_H} (hx : XH n s S Z h) (hG : GI n S Z) {r0 : Nat} (or0 : 83 ≤ r0) (ar0 : r0 < n) (sr0 : S r0 = .inl (1, [0])) {x0 : Int} (p0 : (-2147483648) ≤ x0 ∧ x0 ≤ 2147483647) : ∃ (Z' : xZ) (h' : mx_H), mx_Ca (tB l D b0 ad Hb tau) (d + 2) 11 [.ref r0, xI x0] h (none, h') ∧ XH n s S Z' h' ∧ GI n S Z' ∧ fr8 [] Z Z' := by
  obtain ⟨r, hca, Z', h', e, q⟩ := Jmt (B := tB l D b0 ad Hb tau) (M := mt_11) (mi := 11) (as := [.ref r0, xI x0]) (d := d + 1) (ls := [some (.ref r0), some (xI x0)]) rfl rfl rfl rfl rfl rfl (cw_11_D (l := l) (D := D) (b0 := b0) (ad := ad) (Hb := Hb) (tau := tau) (d := d) (Post := fun r => ∃ (Z' : xZ) (h' : mx_H), r = (none, h') ∧ XH n s S Z' h' ∧ GI n S Z' ∧ fr8 [] Z Z') hx hG or0 ar0 sr0 p0 (fun Z' h' q1 q2 q3 => ⟨Z', h', rfl, q1, q2, q3⟩))
  subst e; exact ⟨Z', h', hca, q⟩
set_option maxRecDepth 100000 in
theorem cw_12_D_i6 {l : Launch} {D : va_G} {b0 : Nat} {ad : Nat → Nat} {Hb : Heap} {tau : Nat → Int64} {d n s : Nat} {S : Nat → xS} {Z : xZ} {h : mx_H} {Post : mx_R → Prop} (hx : XH n s S Z h) (hG : GI n S Z) {r0 : Nat} (or0 : 83 ≤ r0) (ar0 : r0 < n) (sr0 : S r0 = .inl (1, [0]))  (hP : ∀ (z : Int) (Z' : xZ) (h' : mx_H), XH n s S Z' h' → GI n S Z' → fr8 [] Z Z' → 0 ≤ z ∧ z ≤ 5 → Post (some (xI z), h')) : mx_J (tB l D b0 ad Hb tau) mt_12 (d + 0) 0 [some (.ref r0), some (xI 6)] [] h Post := by
    refine mx_J.step (sn_12 0) (fun _ _ => rfl) ?_
    refine JcI (z := 1103515245) (show mx_Sn _ _ 1 (mx_const (.int 1103515245) 3) from sn_12 1) rfl ?_
    refine mx_J.step (sn_12 3) (fun _ _ => rfl) ?_
    refine JgetI (g := 0) (z := Z r0 0) hx (show mx_Sn _ _ 4 (mx_getf 1 0 7) from sn_12 4) ar0 sr0 rfl rfl rfl ?_
    refine JimulN (show mx_Sn _ _ 7 (mx_imul 8) from sn_12 7) (fun y2 hy2 hq2 => ?_)
    refine JcI (z := 12345) (show mx_Sn _ _ 8 (mx_const (.int 12345) 11) from sn_12 8) rfl ?_
    refine JiaddN (show mx_Sn _ _ 11 (mx_iadd 12) from sn_12 11) (fun y3 hy3 hq3 => ?_)
    refine JputI (g := 0) hx (show mx_Sn _ _ 12 (mx_putf 1 1 0 (.int) 15) from sn_12 12) ar0 sr0 (Bool.eq_false_iff.mpr (fun q => by have q : r0 + 1 ≤ 1 := Nat.ble_eq.mp q; omega)) rfl rfl rfl (fun Z4 h4 hx4 hE4 => ?_)
    have hG4 := GI_upD hG hE4 or0 (by omega) (fun len e => by rw [sr0] at e; cases e) (fun e => by rw [sr0] at e; cases e)
    refine mx_J.step (sn_12 15) (fun _ _ => rfl) ?_
    refine JgetI (g := 0) (z := y3) hx4 (show mx_Sn _ _ 16 (mx_getf 1 0 19) from sn_12 16) ar0 sr0 rfl rfl (up_at hE4) ?_
    refine JcI (z := 16) (show mx_Sn _ _ 19 (mx_const (.int 16) 21) from sn_12 19) rfl ?_
    refine Jiushr16 (show mx_Sn _ _ 21 (mx_iushr 22) from sn_12 21) (fun y6 hy6 => ?_)
    refine mx_J.step (sn_12 22) (fun _ _ => rfl) ?_
    refine Jirem (show mx_Sn _ _ 23 (mx_irem 24) from sn_12 23) (by omega) (by omega) ?_
    exact mx_J.ret (sn_12 24) (fun _ _ => rfl) (hP (y6 % 6) Z4 h4 hx4 hG4 (fr8_tr (M := []) fr8_rf (fr8_upD hE4 or0) (M1 := []) rfl rfl) (by omega))
theorem ct_12_D_i6 {l : Launch} {D : va_G} {b0 : Nat} {ad : Nat → Nat} {Hb : Heap} {tau : Nat → Int64} {d n s : Nat} {S : Nat → xS} {Z : xZ} {h : mx_H} (hx : XH n s S Z h) (hG : GI n S Z) {r0 : Nat} (or0 : 83 ≤ r0) (ar0 : r0 < n) (sr0 : S r0 = .inl (1, [0]))  : ∃ (z : Int) (Z' : xZ) (h' : mx_H), mx_Ca (tB l D b0 ad Hb tau) (d + 1) 12 [.ref r0, xI 6] h (some (xI z), h') ∧ XH n s S Z' h' ∧ GI n S Z' ∧ fr8 [] Z Z' ∧ (0 ≤ z ∧ z ≤ 5) := by
  obtain ⟨r, hca, z, Z', h', e, q⟩ := Jmt (B := tB l D b0 ad Hb tau) (M := mt_12) (mi := 12) (as := [.ref r0, xI 6]) (d := d + 0) (ls := [some (.ref r0), some (xI 6)]) rfl rfl rfl rfl rfl rfl (cw_12_D_i6 (l := l) (D := D) (b0 := b0) (ad := ad) (Hb := Hb) (tau := tau) (d := d) (Post := fun r => ∃ (z : Int) (Z' : xZ) (h' : mx_H), r = (some (xI z), h') ∧ XH n s S Z' h' ∧ GI n S Z' ∧ fr8 [] Z Z' ∧ (0 ≤ z ∧ z ≤ 5)) hx hG or0 ar0 sr0 (fun z Z' h' q1 q2 q3 q4 => ⟨z, Z', h', rfl, q1, q2, q3, q4⟩))
  subst e; exact ⟨z, Z', h', hca, q⟩
set_option maxRecDepth 100000 in
theorem cw_12_D_i8 {l : Launch} {D : va_G} {b0 : Nat} {ad : Nat → Nat} {Hb : Heap} {tau : Nat → Int64} {d n s : Nat} {S : Nat → xS} {Z : xZ} {h : mx_H} {Post : mx_R → Prop} (hx : XH n s S Z h) (hG : GI n S Z) {r0 : Nat} (or0 : 83 ≤ r0) (ar0 : r0 < n) (sr0 : S r0 = .inl (1, [0]))  (hP : ∀ (z : Int) (Z' : xZ) (h' : mx_H), XH n s S Z' h' → GI n S Z' → fr8 [] Z Z' → 0 ≤ z ∧ z ≤ 7 → Post (some (xI z), h')) : mx_J (tB l D b0 ad Hb tau) mt_12 (d + 0) 0 [some (.ref r0), some (xI 8)] [] h Post := by
    refine mx_J.step (sn_12 0) (fun _ _ => rfl) ?_
    refine JcI (z := 1103515245) (show mx_Sn _ _ 1 (mx_const (.int 1103515245) 3) from sn_12 1) rfl ?_
    refine mx_J.step (sn_12 3) (fun _ _ => rfl) ?_
    refine JgetI (g := 0) (z := Z r0 0) hx (show mx_Sn _ _ 4 (mx_getf 1 0 7) from sn_12 4) ar0 sr0 rfl rfl rfl ?_
    refine JimulN (show mx_Sn _ _ 7 (mx_imul 8) from sn_12 7) (fun y2 hy2 hq2 => ?_)
    refine JcI (z := 12345) (show mx_Sn _ _ 8 (mx_const (.int 12345) 11) from sn_12 8) rfl ?_
    refine JiaddN (show mx_Sn _ _ 11 (mx_iadd 12) from sn_12 11) (fun y3 hy3 hq3 => ?_)
    refine JputI (g := 0) hx (show mx_Sn _ _ 12 (mx_putf 1 1 0 (.int) 15) from sn_12 12) ar0 sr0 (Bool.eq_false_iff.mpr (fun q => by have q : r0 + 1 ≤ 1 := Nat.ble_eq.mp q; omega)) rfl rfl rfl (fun Z4 h4 hx4 hE4 => ?_)
    have hG4 := GI_upD hG hE4 or0 (by omega) (fun len e => by rw [sr0] at e; cases e) (fun e => by rw [sr0] at e; cases e)
    refine mx_J.step (sn_12 15) (fun _ _ => rfl) ?_
    refine JgetI (g := 0) (z := y3) hx4 (show mx_Sn _ _ 16 (mx_getf 1 0 19) from sn_12 16) ar0 sr0 rfl rfl (up_at hE4) ?_
    refine JcI (z := 16) (show mx_Sn _ _ 19 (mx_const (.int 16) 21) from sn_12 19) rfl ?_
    refine Jiushr16 (show mx_Sn _ _ 21 (mx_iushr 22) from sn_12 21) (fun y6 hy6 => ?_)
    refine mx_J.step (sn_12 22) (fun _ _ => rfl) ?_
    refine Jirem (show mx_Sn _ _ 23 (mx_irem 24) from sn_12 23) (by omega) (by omega) ?_
    exact mx_J.ret (sn_12 24) (fun _ _ => rfl) (hP (y6 % 8) Z4 h4 hx4 hG4 (fr8_tr (M := []) fr8_rf (fr8_upD hE4 or0) (M1 := []) rfl rfl) (by omega))
theorem ct_12_D_i8 {l : Launch} {D : va_G} {b0 : Nat} {ad : Nat → Nat} {Hb : Heap} {tau : Nat → Int64} {d n s : Nat} {S : Nat → xS} {Z : xZ} {h : mx_H} (hx : XH n s S Z h) (hG : GI n S Z) {r0 : Nat} (or0 : 83 ≤ r0) (ar0 : r0 < n) (sr0 : S r0 = .inl (1, [0]))  : ∃ (z : Int) (Z' : xZ) (h' : mx_H), mx_Ca (tB l D b0 ad Hb tau) (d + 1) 12 [.ref r0, xI 8] h (some (xI z), h') ∧ XH n s S Z' h' ∧ GI n S Z' ∧ fr8 [] Z Z' ∧ (0 ≤ z ∧ z ≤ 7) := by
  obtain ⟨r, hca, z, Z', h', e, q⟩ := Jmt (B := tB l D b0 ad Hb tau) (M := mt_12) (mi := 12) (as := [.ref r0, xI 8]) (d := d + 0) (ls := [some (.ref r0), some (xI 8)]) rfl rfl rfl rfl rfl rfl (cw_12_D_i8 (l := l) (D := D) (b0 := b0) (ad := ad) (Hb := Hb) (tau := tau) (d := d) (Post := fun r => ∃ (z : Int) (Z' : xZ) (h' : mx_H), r = (some (xI z), h') ∧ XH n s S Z' h' ∧ GI n S Z' ∧ fr8 [] Z Z' ∧ (0 ≤ z ∧ z ≤ 7)) hx hG or0 ar0 sr0 (fun z Z' h' q1 q2 q3 q4 => ⟨z, Z', h', rfl, q1, q2, q3, q4⟩))
  subst e; exact ⟨z, Z', h', hca, q⟩
set_option maxRecDepth 100000 in
theorem cw_12_D_i10 {l : Launch} {D : va_G} {b0 : Nat} {ad : Nat → Nat} {Hb : Heap} {tau : Nat → Int64} {d n s : Nat} {S : Nat → xS} {Z : xZ} {h : mx_H} {Post : mx_R → Prop} (hx : XH n s S Z h) (hG : GI n S Z) {r0 : Nat} (or0 : 83 ≤ r0) (ar0 : r0 < n) (sr0 : S r0 = .inl (1, [0]))  (hP : ∀ (z : Int) (Z' : xZ) (h' : mx_H), XH n s S Z' h' → GI n S Z' → fr8 [] Z Z' → 0 ≤ z ∧ z ≤ 9 → Post (some (xI z), h')) : mx_J (tB l D b0 ad Hb tau) mt_12 (d + 0) 0 [some (.ref r0), some (xI 10)] [] h Post := by
    refine mx_J.step (sn_12 0) (fun _ _ => rfl) ?_
    refine JcI (z := 1103515245) (show mx_Sn _ _ 1 (mx_const (.int 1103515245) 3) from sn_12 1) rfl ?_
    refine mx_J.step (sn_12 3) (fun _ _ => rfl) ?_
    refine JgetI (g := 0) (z := Z r0 0) hx (show mx_Sn _ _ 4 (mx_getf 1 0 7) from sn_12 4) ar0 sr0 rfl rfl rfl ?_
    refine JimulN (show mx_Sn _ _ 7 (mx_imul 8) from sn_12 7) (fun y2 hy2 hq2 => ?_)
    refine JcI (z := 12345) (show mx_Sn _ _ 8 (mx_const (.int 12345) 11) from sn_12 8) rfl ?_
    refine JiaddN (show mx_Sn _ _ 11 (mx_iadd 12) from sn_12 11) (fun y3 hy3 hq3 => ?_)
    refine JputI (g := 0) hx (show mx_Sn _ _ 12 (mx_putf 1 1 0 (.int) 15) from sn_12 12) ar0 sr0 (Bool.eq_false_iff.mpr (fun q => by have q : r0 + 1 ≤ 1 := Nat.ble_eq.mp q; omega)) rfl rfl rfl (fun Z4 h4 hx4 hE4 => ?_)
    have hG4 := GI_upD hG hE4 or0 (by omega) (fun len e => by rw [sr0] at e; cases e) (fun e => by rw [sr0] at e; cases e)
    refine mx_J.step (sn_12 15) (fun _ _ => rfl) ?_
    refine JgetI (g := 0) (z := y3) hx4 (show mx_Sn _ _ 16 (mx_getf 1 0 19) from sn_12 16) ar0 sr0 rfl rfl (up_at hE4) ?_
    refine JcI (z := 16) (show mx_Sn _ _ 19 (mx_const (.int 16) 21) from sn_12 19) rfl ?_
    refine Jiushr16 (show mx_Sn _ _ 21 (mx_iushr 22) from sn_12 21) (fun y6 hy6 => ?_)
    refine mx_J.step (sn_12 22) (fun _ _ => rfl) ?_
    refine Jirem (show mx_Sn _ _ 23 (mx_irem 24) from sn_12 23) (by omega) (by omega) ?_
    exact mx_J.ret (sn_12 24) (fun _ _ => rfl) (hP (y6 % 10) Z4 h4 hx4 hG4 (fr8_tr (M := []) fr8_rf (fr8_upD hE4 or0) (M1 := []) rfl rfl) (by omega))
theorem ct_12_D_i10 {l : Launch} {D : va_G} {b0 : Nat} {ad : Nat → Nat} {Hb : Heap} {tau : Nat → Int64} {d n s : Nat} {S : Nat → xS} {Z : xZ} {h : mx_H} (hx : XH n s S Z h) (hG : GI n S Z) {r0 : Nat} (or0 : 83 ≤ r0) (ar0 : r0 < n) (sr0 : S r0 = .inl (1, [0]))  : ∃ (z : Int) (Z' : xZ) (h' : mx_H), mx_Ca (tB l D b0 ad Hb tau) (d + 1) 12 [.ref r0, xI 10] h (some (xI z), h') ∧ XH n s S Z' h' ∧ GI n S Z' ∧ fr8 [] Z Z' ∧ (0 ≤ z ∧ z ≤ 9) := by
  obtain ⟨r, hca, z, Z', h', e, q⟩ := Jmt (B := tB l D b0 ad Hb tau) (M := mt_12) (mi := 12) (as := [.ref r0, xI 10]) (d := d + 0) (ls := [some (.ref r0), some (xI 10)]) rfl rfl rfl rfl rfl rfl (cw_12_D_i10 (l := l) (D := D) (b0 := b0) (ad := ad) (Hb := Hb) (tau := tau) (d := d) (Post := fun r => ∃ (z : Int) (Z' : xZ) (h' : mx_H), r = (some (xI z), h') ∧ XH n s S Z' h' ∧ GI n S Z' ∧ fr8 [] Z Z' ∧ (0 ≤ z ∧ z ≤ 9)) hx hG or0 ar0 sr0 (fun z Z' h' q1 q2 q3 q4 => ⟨z, Z', h', rfl, q1, q2, q3, q4⟩))
  subst e; exact ⟨z, Z', h', hca, q⟩
set_option maxRecDepth 100000 in
theorem cw_13_D {l : Launch} {D : va_G} {b0 : Nat} {ad : Nat → Nat} {Hb : Heap} {tau : Nat → Int64} {d n s : Nat} {S : Nat → xS} {Z : xZ} {h : mx_H} {Post : mx_R → Prop} (hx : XH n s S Z h) (hG : GI n S Z) {r0 : Nat} (or0 : 83 ≤ r0) (ar0 : r0 < n) (sr0 : S r0 = .inl (1, [0]))  (hP : ∀ (z : Int) (Z' : xZ) (h' : mx_H), XH n s S Z' h' → GI n S Z' → fr8 [] Z Z' → 0 ≤ z ∧ z ≤ 3505 → Post (some (xI z), h')) : mx_J (tB l D b0 ad Hb tau) mt_13 (d + 1) 0 [some (.ref r0), none, none] [] h Post := by
    refine mx_J.step (sn_13 0) (fun _ _ => rfl) ?_
    refine JcI (z := 6) (show mx_Sn _ _ 1 (mx_const (.int 6) 3) from sn_13 1) rfl ?_
    obtain ⟨z1, Z1, h1, hc1, hx1, hG1, hf1, b1⟩ := ct_12_D_i6 (d := d + 0) (l := l) (D := D) (b0 := b0) (ad := ad) (Hb := Hb) (tau := tau) hx hG or0 ar0 sr0 
    refine Jcv hx (show mx_Sn _ _ 3 (mx_callv 12 2 1 6) from sn_13 3) ar0 sr0 hc1 rfl rfl rfl ?_
    refine mx_J.step (ls2 := [some (.ref r0), some (xI z1), none]) (sn_13 6) (fun _ _ => rfl) ?_
    refine mx_J.step (sn_13 7) (fun _ _ => rfl) ?_
    refine JcI (z := 3) (show mx_Sn _ _ 8 (mx_const (.int 3) 9) from sn_13 8) rfl ?_
    refine Jicmp_ne (show mx_Sn _ _ 9 (mx_icmp_ne 19 12) from sn_13 9) (by omega) (by omega) (fun q2 => ?_) (fun q2 => ?_)
    · skip
      refine mx_J.step (sn_13 19) (fun _ _ => rfl) ?_
      refine JcI (z := 4) (show mx_Sn _ _ 20 (mx_const (.int 4) 21) from sn_13 20) rfl ?_
      refine Jicmp_ne (show mx_Sn _ _ 21 (mx_icmp_ne 34 24) from sn_13 21) (by omega) (by omega) (fun q3 => ?_) (fun q3 => ?_)
      · skip
        refine mx_J.step (sn_13 34) (fun _ _ => rfl) ?_
        refine JcI (z := 5) (show mx_Sn _ _ 35 (mx_const (.int 5) 36) from sn_13 35) rfl ?_
        refine Jicmp_ne (show mx_Sn _ _ 36 (mx_icmp_ne 62 39) from sn_13 36) (by omega) (by omega) (fun q4 => ?_) (fun q4 => ?_)
        · skip
          refine JcI (z := 0) (show mx_Sn _ _ 62 (mx_const (.int 0) 63) from sn_13 62) rfl ?_
          exact mx_J.ret (sn_13 63) (fun _ _ => rfl) (hP 0 Z1 h1 hx1 hG1 (fr8_tr (M := []) fr8_rf (hf1) (M1 := []) rfl rfl) (by omega))
        · skip
          refine mx_J.step (sn_13 39) (fun _ _ => rfl) ?_
          refine JcI (z := 6) (show mx_Sn _ _ 40 (mx_const (.int 6) 42) from sn_13 40) rfl ?_
          obtain ⟨z5, Z5, h5, hc5, hx5, hG5, hf5, b5⟩ := ct_12_D_i6 (d := d + 0) (l := l) (D := D) (b0 := b0) (ad := ad) (Hb := Hb) (tau := tau) hx1 hG1 or0 ar0 sr0 
          refine Jcv hx1 (show mx_Sn _ _ 42 (mx_callv 12 2 1 45) from sn_13 42) ar0 sr0 hc5 rfl rfl rfl ?_
          refine mx_J.step (ls2 := [some (.ref r0), some (xI z1), some (xI z5)]) (sn_13 45) (fun _ _ => rfl) ?_
          refine JcI (z := 3000) (show mx_Sn _ _ 46 (mx_const (.int 3000) 49) from sn_13 46) rfl ?_
          refine JcI (z := 100) (show mx_Sn _ _ 49 (mx_const (.int 100) 51) from sn_13 49) rfl ?_
          refine mx_J.step (sn_13 51) (fun _ _ => rfl) ?_
          refine Jimul (show mx_Sn _ _ 52 (mx_imul 53) from sn_13 52) ?_
          refine Jiadd (show mx_Sn _ _ 53 (mx_iadd 54) from sn_13 53) ?_
          refine mx_J.step (sn_13 54) (fun _ _ => rfl) ?_
          refine JcI (z := 6) (show mx_Sn _ _ 55 (mx_const (.int 6) 57) from sn_13 55) rfl ?_
          obtain ⟨z6, Z6, h6, hc6, hx6, hG6, hf6, b6⟩ := ct_12_D_i6 (d := d + 0) (l := l) (D := D) (b0 := b0) (ad := ad) (Hb := Hb) (tau := tau) hx5 hG5 or0 ar0 sr0 
          refine Jcv hx5 (show mx_Sn _ _ 57 (mx_callv 12 2 1 60) from sn_13 57) ar0 sr0 hc6 rfl rfl rfl ?_
          refine Jiadd (show mx_Sn _ _ 60 (mx_iadd 61) from sn_13 60) ?_
          exact mx_J.ret (sn_13 61) (fun _ _ => rfl) (hP ((3000 + (100 * z5)) + z6) Z6 h6 hx6 hG6 (fr8_tr (M := []) (fr8_tr (M := []) (fr8_tr (M := []) fr8_rf (hf1) (M1 := []) rfl rfl) (hf5) rfl rfl) (hf6) rfl rfl) (by omega))
      · skip
        refine JcI (z := 20) (show mx_Sn _ _ 24 (mx_const (.int 20) 26) from sn_13 24) rfl ?_
        refine mx_J.step (sn_13 26) (fun _ _ => rfl) ?_
        refine JcI (z := 10) (show mx_Sn _ _ 27 (mx_const (.int 10) 29) from sn_13 27) rfl ?_
        obtain ⟨z7, Z7, h7, hc7, hx7, hG7, hf7, b7⟩ := ct_12_D_i10 (d := d + 0) (l := l) (D := D) (b0 := b0) (ad := ad) (Hb := Hb) (tau := tau) hx1 hG1 or0 ar0 sr0 
        refine Jcv hx1 (show mx_Sn _ _ 29 (mx_callv 12 2 1 32) from sn_13 29) ar0 sr0 hc7 rfl rfl rfl ?_
        refine Jiadd (show mx_Sn _ _ 32 (mx_iadd 33) from sn_13 32) ?_
        exact mx_J.ret (sn_13 33) (fun _ _ => rfl) (hP (20 + z7) Z7 h7 hx7 hG7 (fr8_tr (M := []) (fr8_tr (M := []) fr8_rf (hf1) (M1 := []) rfl rfl) (hf7) rfl rfl) (by omega))
    · skip
      refine mx_J.step (sn_13 12) (fun _ _ => rfl) ?_
      refine JcI (z := 8) (show mx_Sn _ _ 13 (mx_const (.int 8) 15) from sn_13 13) rfl ?_
      obtain ⟨z8, Z8, h8, hc8, hx8, hG8, hf8, b8⟩ := ct_12_D_i8 (d := d + 0) (l := l) (D := D) (b0 := b0) (ad := ad) (Hb := Hb) (tau := tau) hx1 hG1 or0 ar0 sr0 
      refine Jcv hx1 (show mx_Sn _ _ 15 (mx_callv 12 2 1 18) from sn_13 15) ar0 sr0 hc8 rfl rfl rfl ?_
      exact mx_J.ret (sn_13 18) (fun _ _ => rfl) (hP z8 Z8 h8 hx8 hG8 (fr8_tr (M := []) (fr8_tr (M := []) fr8_rf (hf1) (M1 := []) rfl rfl) (hf8) rfl rfl) (by omega))
theorem ct_13_D {l : Launch} {D : va_G} {b0 : Nat} {ad : Nat → Nat} {Hb : Heap} {tau : Nat → Int64} {d n s : Nat} {S : Nat → xS} {Z : xZ} {h : mx_H} (hx : XH n s S Z h) (hG : GI n S Z) {r0 : Nat} (or0 : 83 ≤ r0) (ar0 : r0 < n) (sr0 : S r0 = .inl (1, [0]))  : ∃ (z : Int) (Z' : xZ) (h' : mx_H), mx_Ca (tB l D b0 ad Hb tau) (d + 2) 13 [.ref r0] h (some (xI z), h') ∧ XH n s S Z' h' ∧ GI n S Z' ∧ fr8 [] Z Z' ∧ (0 ≤ z ∧ z ≤ 3505) := by
  obtain ⟨r, hca, z, Z', h', e, q⟩ := Jmt (B := tB l D b0 ad Hb tau) (M := mt_13) (mi := 13) (as := [.ref r0]) (d := d + 1) (ls := [some (.ref r0), none, none]) rfl rfl rfl rfl rfl rfl (cw_13_D (l := l) (D := D) (b0 := b0) (ad := ad) (Hb := Hb) (tau := tau) (d := d) (Post := fun r => ∃ (z : Int) (Z' : xZ) (h' : mx_H), r = (some (xI z), h') ∧ XH n s S Z' h' ∧ GI n S Z' ∧ fr8 [] Z Z' ∧ (0 ≤ z ∧ z ≤ 3505)) hx hG or0 ar0 sr0 (fun z Z' h' q1 q2 q3 q4 => ⟨z, Z', h', rfl, q1, q2, q3, q4⟩))
  subst e; exact ⟨z, Z', h', hca, q⟩
set_option maxHeartbeats 8000000 in
set_option maxRecDepth 100000 in
theorem cw_103_1 {l : Launch} {D : va_G} {b0 : Nat} {ad : Nat → Nat} {Hb : Heap} {tau : Nat → Int64} {d n s : Nat} {S : Nat → xS} {Z : xZ} {h : mx_H} {Post : mx_R → Prop} (hx : XH n s S Z h) (hG : GI n S Z)  {x0 x1 : Int} (p0 : (-2147483648) ≤ x0 ∧ x0 ≤ 2147483647) (p1 : (-2147483648) ≤ x1 ∧ x1 ≤ 2147483647) (k0 : ((n : Nat) : Int) ≤ 4095) (hP : ∀ (z : Int) (n' s' : Nat) (S' : Nat → xS) (Z' : xZ) (h' : mx_H), XH n' s' S' Z' h' → GI n' S' Z' → fr8 [(12, 2), (14, (-1)), (16, (-1)), (17, (-1)), (18, (-1)), (19, (-1)), (36, 0), (36, 1), (36, 2), (36, 3), (36, 4), (38, 0), (38, 1), (38, 2), (38, 3), (38, 4), (40, 1), (41, (-1)), (42, (-1))] Z Z' → (-2147483648) ≤ z ∧ z ≤ 2147483647 ∧ (((n : Nat) : Int) ≤ ((n' : Nat) : Int) ∧ ((s : Nat) : Int) ≤ ((s' : Nat) : Int) ∧ ((s' : Nat) : Int) ≤ ((s : Nat) : Int) + 900 * (((n' : Nat) : Int) - ((n : Nat) : Int)) ∧ ((n' : Nat) : Int) ≤ ((n : Nat) : Int) + 1) → Post (some (xI z), h')) : mx_J (tB l D b0 ad Hb tau) mt_103 (d + 6) 0 [some (.ref 1), some (xI x0), some (xI x1), none, none, none] [] h Post := by
    refine mx_J.step (sn_103 0) (fun _ _ => rfl) ?_
    refine JcI (z := 1) (show mx_Sn _ _ 1 (mx_const (.int 1) 2) from sn_103 1) rfl ?_
    have c11 : mx_J (tB l D b0 ad Hb tau) mt_103 (d + 6) 11 [some (.ref 1), some (xI x0), some (xI x1), none, none, none] [] h Post := by
      refine JcI (z := (-3)) (show mx_Sn _ _ 11 (mx_const (.int (-3)) 13) from sn_103 11) rfl ?_
      exact mx_J.ret (sn_103 13) (fun _ _ => rfl) (hP (-3) n s S Z h hx hG fr8_rf (by omega))
    refine Jicmp_lt (show mx_Sn _ _ 2 (mx_icmp_lt 11 5) from sn_103 2) (by omega) (by omega) (fun q2 => ?_) (fun q2 => ?_)
    · skip
      exact c11 
    · skip
      refine mx_J.step (sn_103 5) (fun _ _ => rfl) ?_
      refine JcI (z := 40) (show mx_Sn _ _ 6 (mx_const (.int 40) 8) from sn_103 6) rfl ?_
      refine Jicmp_le (show mx_Sn _ _ 8 (mx_icmp_le 14 11) from sn_103 8) (by omega) (by omega) (fun q3 => ?_) (fun q3 => ?_)
      · skip
        refine mx_J.step (sn_103 14) (fun _ _ => rfl) ?_
        refine JgetR (g := 13) (b := 38) hx (show mx_Sn _ _ 15 (mx_getf 11 13 18) from sn_103 15) (lt83 (GI_n hG) rfl) (show S 1 = .inl (11, [2, 0, 0, 0, 2, 2, 2, 2, 2, 2, 2, 2, 2, 2, 2, 2, 2]) from GI_s hG 1 rfl) rfl rfl (hG.prr 1 13 rfl) ?_
        refine mx_J.step (sn_103 18) (fun _ _ => rfl) ?_
        refine JgetR (g := 12) (b := 36) hx (show mx_Sn _ _ 19 (mx_getf 11 12 22) from sn_103 19) (lt83 (GI_n hG) rfl) (show S 1 = .inl (11, [2, 0, 0, 0, 2, 2, 2, 2, 2, 2, 2, 2, 2, 2, 2, 2, 2]) from GI_s hG 1 rfl) rfl rfl (hG.prr 1 12 rfl) ?_
        obtain ⟨Z6, h6, hc6, hx6, hG6, hf6⟩ := ct_33_38_36 (d := d + 5) (l := l) (D := D) (b0 := b0) (ad := ad) (Hb := Hb) (tau := tau) hx hG 
        refine Jcv0 hx (show mx_Sn _ _ 22 (mx_callv 33 2 5 25) from sn_103 22) (lt83 (GI_n hG) rfl) (show S 38 = .inl (5, [2, 0, 0, 0, 0, 0]) from GI_s hG 38 rfl) hc6 rfl rfl rfl ?_
        refine JnewD hx6 hG6 (show mx_Sn _ _ 25 (mx_new 1 1 [.int 0] 28) from sn_103 25) (by omega) (fun n7 s7 S7 Z7 h7 en7 es7 hx7 hG7 hf7 or7 ar7 sr7 => ?_)
        obtain ⟨r7, er7⟩ : ∃ q, q = n := ⟨_, rfl⟩
        rw [← er7] at or7 ar7 sr7 ⊢
        refine mx_J.step (sn_103 28) (fun _ _ => rfl) ?_
        refine mx_J.step (sn_103 29) (fun _ _ => rfl) ?_
        obtain ⟨Z8, h8, hc8, hx8, hG8, hf8⟩ := ct_11_D (d := d + 4) (l := l) (D := D) (b0 := b0) (ad := ad) (Hb := Hb) (tau := tau) hx7 hG7 or7 ar7 sr7 (show (-2147483648) ≤ x0 ∧ x0 ≤ 2147483647 by omega)
        refine Jci0 (show mx_Sn _ _ 30 (mx_calli 11 2 33) from sn_103 30) hc8 rfl rfl rfl ?_
        refine mx_J.step (ls2 := [some (.ref 1), some (xI x0), some (xI x1), some (.ref r7), none, none]) (sn_103 33) (fun _ _ => rfl) ?_
        refine JcI (z := 0) (show mx_Sn _ _ 34 (mx_const (.int 0) 35) from sn_103 34) rfl ?_
        refine mx_J.step (ls2 := [some (.ref 1), some (xI x0), some (xI x1), some (.ref r7), some (xI 0), none]) (sn_103 35) (fun _ _ => rfl) ?_
        refine JcI (z := 0) (show mx_Sn _ _ 37 (mx_const (.int 0) 38) from sn_103 37) rfl ?_
        refine mx_J.step (ls2 := [some (.ref 1), some (xI x0), some (xI x1), some (.ref r7), some (xI 0), some (xI 0)]) (sn_103 38) (fun _ _ => rfl) ?_
        have c40 : ∀ (m9 : Nat) (w9_4 : Int) (w9_5 : Int) (Z10 : xZ) (h10 : mx_H), 40 - w9_5 < (m9 : Int) → (-2147483648) ≤ w9_4 ∧ w9_4 ≤ 2147483647 → 0 ≤ w9_5 ∧ w9_5 ≤ 40 → XH n7 s7 S7 Z10 h10 → GI n7 S7 Z10 → fr8 [(12, 2), (14, (-1)), (16, (-1)), (17, (-1)), (18, (-1)), (19, (-1)), (38, 2), (38, 3), (38, 4), (42, (-1))] Z8 Z10 → mx_J (tB l D b0 ad Hb tau) mt_103 (d + 6) 40 [some (.ref 1), some (xI x0), some (xI x1), some (.ref r7), some (xI w9_4), some (xI w9_5)] [] h10 Post := by
          intro m9
          induction m9 with
          | zero => intro w9_4 w9_5 Z10 h10 q9 f9_0 f9_1 hx10 hG10 hf10; exact absurd q9 (by omega)
          | succ m9 ih9 =>
            intro w9_4 w9_5 Z10 h10 q9 f9_0 f9_1 hx10 hG10 hf10
            refine mx_J.step (sn_103 40) (fun _ _ => rfl) ?_
            refine mx_J.step (sn_103 42) (fun _ _ => rfl) ?_
            refine Jicmp_ge (show mx_Sn _ _ 43 (mx_icmp_ge 71 46) from sn_103 43) (by omega) (by omega) (fun q11 => ?_) (fun q11 => ?_)
            · skip
              refine mx_J.step (sn_103 71) (fun _ _ => rfl) ?_
              have c80 : ∀  (Z13 : xZ) (h13 : mx_H), XH n7 s7 S7 Z13 h13 → GI n7 S7 Z13 → fr8 [(12, 2), (17, (-1)), (36, 0), (36, 1), (36, 2), (36, 3), (36, 4), (40, 1), (41, (-1))] Z10 Z13 → mx_J (tB l D b0 ad Hb tau) mt_103 (d + 6) 80 [some (.ref 1), some (xI x0), some (xI x1), some (.ref r7), some (xI w9_4), some (xI w9_5)] [] h13 Post := by
                intro Z13 h13 hx13 hG13 hf13
                refine mx_J.step (sn_103 80) (fun _ _ => rfl) ?_
                exact mx_J.ret (sn_103 82) (fun _ _ => rfl) (hP w9_4 n7 s7 S7 Z13 h13 hx13 hG13 (fr8_tr (M := [(12, 2), (14, (-1)), (16, (-1)), (17, (-1)), (18, (-1)), (19, (-1)), (36, 0), (36, 1), (36, 2), (36, 3), (36, 4), (38, 0), (38, 1), (38, 2), (38, 3), (38, 4), (40, 1), (41, (-1)), (42, (-1))]) (fr8_tr (M := [(12, 2), (14, (-1)), (16, (-1)), (17, (-1)), (18, (-1)), (19, (-1)), (36, 0), (36, 1), (36, 2), (36, 3), (36, 4), (38, 0), (38, 1), (38, 2), (38, 3), (38, 4), (40, 1), (41, (-1)), (42, (-1))]) (fr8_tr (M := [(12, 2), (14, (-1)), (16, (-1)), (17, (-1)), (18, (-1)), (19, (-1)), (36, 0), (36, 1), (36, 2), (36, 3), (36, 4), (38, 0), (38, 1), (38, 2), (38, 3), (38, 4), (40, 1), (41, (-1)), (42, (-1))]) (fr8_tr (M := [(12, 2), (14, (-1)), (16, (-1)), (17, (-1)), (18, (-1)), (19, (-1)), (36, 0), (36, 1), (36, 2), (36, 3), (36, 4), (38, 0), (38, 1), (38, 2), (38, 3), (38, 4), (40, 1), (41, (-1)), (42, (-1))]) (fr8_tr (M := [(12, 2), (14, (-1)), (16, (-1)), (17, (-1)), (18, (-1)), (19, (-1)), (36, 0), (36, 1), (36, 2), (36, 3), (36, 4), (38, 0), (38, 1), (38, 2), (38, 3), (38, 4), (40, 1), (41, (-1)), (42, (-1))]) fr8_rf (fr8_of (hf6)) (M1 := []) rfl rfl) (hf7) rfl rfl) (hf8) rfl rfl) (hf10) rfl rfl) (hf13) rfl rfl) (by omega))
              refine Jif_le (show mx_Sn _ _ 73 (mx_if_le 80 76) from sn_103 73) (by omega) (fun q14 => ?_) (fun q14 => ?_)
              · skip
                exact c80 Z10 h10 hx10 hG10 fr8_rf
              · skip
                refine mx_J.step (sn_103 76) (fun _ _ => rfl) ?_
                obtain ⟨Z15, h15, hc15, hx15, hG15, hf15⟩ := ct_137_1 (d := d + 3) (l := l) (D := D) (b0 := b0) (ad := ad) (Hb := Hb) (tau := tau) hx10 hG10 
                refine Jcv0 hx10 (show mx_Sn _ _ 77 (mx_callv 137 1 11 80) from sn_103 77) (lt83 (GI_n hG10) rfl) (show S7 1 = .inl (11, [2, 0, 0, 0, 2, 2, 2, 2, 2, 2, 2, 2, 2, 2, 2, 2, 2]) from GI_s hG10 1 rfl) hc15 rfl rfl rfl ?_
                exact c80 Z15 h15 hx15 hG15 (fr8_tr (M := [(12, 2), (17, (-1)), (36, 0), (36, 1), (36, 2), (36, 3), (36, 4), (40, 1), (41, (-1))]) fr8_rf (fr8_of (hf15)) (M1 := []) rfl rfl)
            · skip
              refine mx_J.step (sn_103 46) (fun _ _ => rfl) ?_
              refine mx_J.step (sn_103 47) (fun _ _ => rfl) ?_
              refine JgetR (g := 13) (b := 38) hx10 (show mx_Sn _ _ 48 (mx_getf 11 13 51) from sn_103 48) (lt83 (GI_n hG10) rfl) (show S7 1 = .inl (11, [2, 0, 0, 0, 2, 2, 2, 2, 2, 2, 2, 2, 2, 2, 2, 2, 2]) from GI_s hG10 1 rfl) rfl rfl (hG10.prr 1 13 rfl) ?_
              refine mx_J.step (sn_103 51) (fun _ _ => rfl) ?_
              obtain ⟨z17, Z17, h17, hc17, hx17, hG17, hf17, b17⟩ := ct_13_D (d := d + 4) (l := l) (D := D) (b0 := b0) (ad := ad) (Hb := Hb) (tau := tau) hx10 hG10 or7 ar7 sr7 
              refine Jcv hx10 (show mx_Sn _ _ 52 (mx_callv 13 1 1 55) from sn_103 52) ar7 sr7 hc17 rfl rfl rfl ?_
              refine Ji2l (show mx_Sn _ _ 55 (mx_i2l 56) from sn_103 55) (by omega) ?_
              obtain ⟨z18, Z18, h18, hc18, hx18, hG18, hf18, b18⟩ := ct_139_1_38 (d := d + 0) (l := l) (D := D) (b0 := b0) (ad := ad) (Hb := Hb) (tau := tau) hx17 hG17 (show (-9223372036854775808) ≤ z17 ∧ z17 ≤ 9223372036854775807 by omega)
              refine Jcv hx17 (show mx_Sn _ _ 56 (mx_callv 139 3 11 59) from sn_103 56) (lt83 (GI_n hG17) rfl) (show S7 1 = .inl (11, [2, 0, 0, 0, 2, 2, 2, 2, 2, 2, 2, 2, 2, 2, 2, 2, 2]) from GI_s hG17 1 rfl) hc18 rfl rfl rfl ?_
              have c65 : ∀ (w19_4 : Int), (-2147483648) ≤ w19_4 ∧ w19_4 ≤ 2147483647 → mx_J (tB l D b0 ad Hb tau) mt_103 (d + 6) 65 [some (.ref 1), some (xI x0), some (xI x1), some (.ref r7), some (xI w19_4), some (xI w9_5)] [] h18 Post := by
                intro w19_4 f19_0
                refine Jiinc (z := w9_5) (cz := 1) (ls2 := [some (.ref 1), some (xI x0), some (xI x1), some (.ref r7), some (xI w19_4), some (xI (w9_5 + 1))]) (show mx_Sn _ _ 65 (mx_iinc 5 1 68) from sn_103 65) rfl rfl rfl rfl ?_
                refine mx_J.step (sn_103 68) (fun _ _ => rfl) ?_
                exact ih9 w19_4 (w9_5 + 1) Z18 h18 (by omega) (by omega) (by omega) hx18 hG18 (fr8_tr (M := [(12, 2), (14, (-1)), (16, (-1)), (17, (-1)), (18, (-1)), (19, (-1)), (38, 2), (38, 3), (38, 4), (42, (-1))]) (fr8_tr (M := [(12, 2), (14, (-1)), (16, (-1)), (17, (-1)), (18, (-1)), (19, (-1)), (38, 2), (38, 3), (38, 4), (42, (-1))]) (fr8_tr (M := [(12, 2), (14, (-1)), (16, (-1)), (17, (-1)), (18, (-1)), (19, (-1)), (38, 2), (38, 3), (38, 4), (42, (-1))]) fr8_rf (hf10) (M1 := []) rfl rfl) (hf17) rfl rfl) (fr8_of (hf18)) rfl rfl)
              refine Jif_ne (show mx_Sn _ _ 59 (mx_if_ne 65 62) from sn_103 59) (by omega) (fun q20 => ?_) (fun q20 => ?_)
              · skip
                exact c65 w9_4 (by omega)
              · skip
                refine JiincN (z := w9_4) (cz := 1) (show mx_Sn _ _ 62 (mx_iinc 4 1 65) from sn_103 62) rfl rfl rfl (fun y21 hy21 hq21 => ?_)
                show mx_J _ _ _ _ [some (.ref 1), some (xI x0), some (xI x1), some (.ref r7), some (xI y21), some (xI w9_5)] _ _ _
                exact c65 y21 (by omega)
        exact c40 (Int.toNat (40 - 0) + 1) 0 0 Z8 h8 (by omega) (by omega) (by omega) hx8 hG8 fr8_rf
      · skip
        exact c11 
theorem ct_103_1 {l : Launch} {D : va_G} {b0 : Nat} {ad : Nat → Nat} {Hb : Heap} {tau : Nat → Int64} {d n s : Nat} {S : Nat → xS} {Z : xZ} {h : mx_H} (hx : XH n s S Z h) (hG : GI n S Z)  {x0 x1 : Int} (p0 : (-2147483648) ≤ x0 ∧ x0 ≤ 2147483647) (p1 : (-2147483648) ≤ x1 ∧ x1 ≤ 2147483647) (k0 : ((n : Nat) : Int) ≤ 4095) : ∃ (z : Int) (n' s' : Nat) (S' : Nat → xS) (Z' : xZ) (h' : mx_H), mx_Ca (tB l D b0 ad Hb tau) (d + 7) 103 [.ref 1, xI x0, xI x1] h (some (xI z), h') ∧ XH n' s' S' Z' h' ∧ GI n' S' Z' ∧ fr8 [(12, 2), (14, (-1)), (16, (-1)), (17, (-1)), (18, (-1)), (19, (-1)), (36, 0), (36, 1), (36, 2), (36, 3), (36, 4), (38, 0), (38, 1), (38, 2), (38, 3), (38, 4), (40, 1), (41, (-1)), (42, (-1))] Z Z' ∧ ((-2147483648) ≤ z ∧ z ≤ 2147483647 ∧ (((n : Nat) : Int) ≤ ((n' : Nat) : Int) ∧ ((s : Nat) : Int) ≤ ((s' : Nat) : Int) ∧ ((s' : Nat) : Int) ≤ ((s : Nat) : Int) + 900 * (((n' : Nat) : Int) - ((n : Nat) : Int)) ∧ ((n' : Nat) : Int) ≤ ((n : Nat) : Int) + 1)) := by
  obtain ⟨r, hca, z, n', s', S', Z', h', e, q⟩ := Jmt (B := tB l D b0 ad Hb tau) (M := mt_103) (mi := 103) (as := [.ref 1, xI x0, xI x1]) (d := d + 6) (ls := [some (.ref 1), some (xI x0), some (xI x1), none, none, none]) rfl rfl rfl rfl rfl rfl (cw_103_1 (l := l) (D := D) (b0 := b0) (ad := ad) (Hb := Hb) (tau := tau) (d := d) (Post := fun r => ∃ (z : Int) (n' s' : Nat) (S' : Nat → xS) (Z' : xZ) (h' : mx_H), r = (some (xI z), h') ∧ XH n' s' S' Z' h' ∧ GI n' S' Z' ∧ fr8 [(12, 2), (14, (-1)), (16, (-1)), (17, (-1)), (18, (-1)), (19, (-1)), (36, 0), (36, 1), (36, 2), (36, 3), (36, 4), (38, 0), (38, 1), (38, 2), (38, 3), (38, 4), (40, 1), (41, (-1)), (42, (-1))] Z Z' ∧ ((-2147483648) ≤ z ∧ z ≤ 2147483647 ∧ (((n : Nat) : Int) ≤ ((n' : Nat) : Int) ∧ ((s : Nat) : Int) ≤ ((s' : Nat) : Int) ∧ ((s' : Nat) : Int) ≤ ((s : Nat) : Int) + 900 * (((n' : Nat) : Int) - ((n : Nat) : Int)) ∧ ((n' : Nat) : Int) ≤ ((n : Nat) : Int) + 1))) hx hG p0 p1 k0 (fun z n' s' S' Z' h' q1 q2 q3 q4 => ⟨z, n', s', S', Z', h', rfl, q1, q2, q3, q4⟩))
  subst e; exact ⟨z, n', s', S', Z', h', hca, q⟩
