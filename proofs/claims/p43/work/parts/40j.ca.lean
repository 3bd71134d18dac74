set_option maxHeartbeats 8000000 in
set_option maxRecDepth 100000 in
theorem cw_90_1 {l : Launch} {D : va_G} {b0 : Nat} {ad : Nat → Nat} {Hb : Heap} {tau : Nat → Int64} {d n s : Nat} {S : Nat → xS} {Z : xZ} {h : mx_H} {Post : mx_R → Prop} {T : Int → Int} (hx : XH n s S Z h) (hG : GI n S Z)  {x0 : Int} (p0 : (-2147483648) ≤ x0 ∧ x0 ≤ 2147483647) (k0 : 3 * ((n : Nat) : Int) + Z 1 1 + 6 ≤ 12288) (k1 : (¬ (x0 < 0 ∨ Z 1 1 < x0) → TB T x0 Z)) (k2 : CTB Z (Z 36 1)) (hP : ∀ (z : Int) (n' s' : Nat) (S' : Nat → xS) (Z' : xZ) (h' : mx_H), XH n' s' S' Z' h' → GI n' S' Z' → fr8 [(1, 1), (1, 2), (1, 3), (3, 0), (3, 1), (3, 2), (3, 3), (3, 4), (3, 5), (3, 7), (3, 8), (3, 9), (3, 10), (3, 12), (3, 13), (3, 14), (3, 15), (5, (-1)), (6, (-1)), (7, 4), (7, 5), (9, (-1)), (10, (-1)), (11, (-1)), (12, 1), (12, 2), (17, (-1)), (36, 0), (36, 1), (36, 2), (36, 3), (36, 4), (40, 1)] Z Z' → (¬ (x0 < 0 ∨ Z 1 1 < x0) → BR T x0 z (Z' 1 2) (Z' 1 3)) ∧ BST T x0 z (Z 36 1) (Z' 36 1) ∧ CTB Z' (Z' 36 1) ∧ (-2147483648) ≤ z ∧ z ≤ 2147483647 ∧ (((n : Nat) : Int) ≤ ((n' : Nat) : Int) ∧ ((s : Nat) : Int) ≤ ((s' : Nat) : Int) ∧ ((s' : Nat) : Int) ≤ ((s : Nat) : Int) + 900 * (((n' : Nat) : Int) - ((n : Nat) : Int)) ∧ 3 * (((n' : Nat) : Int) - ((n : Nat) : Int)) + Z' 1 1 ≤ Z 1 1 + 6 ∧ ((x0 < 0 ∨ Z 1 1 < x0) → Z' 1 1 = Z 1 1 ∧ z = -3 ∧ Z' 1 2 = Z 1 2 ∧ Z' 1 3 = Z 1 3) ∧ (¬ (x0 < 0 ∨ Z 1 1 < x0) → Z' 1 1 = 0)) → Post (some (xI z), h')) : mx_J (tB l D b0 ad Hb tau) mt_90 (d + 107) 0 [some (.ref 1), some (xI x0)] [] h Post := by
    refine mx_J.step (sn_90 0) (fun _ _ => rfl) ?_
    have c12 : (x0 < 0 ∨ Z 1 1 < x0) → mx_J (tB l D b0 ad Hb tau) mt_90 (d + 107) 12 [some (.ref 1), some (xI x0)] [] h Post := by
      intro f1_0
      have b2 : 0 ≤ Z 1 1 ∧ Z 1 1 ≤ 900 := hG.pr 1 1
      refine JcI (z := (-3)) (show mx_Sn _ _ 12 (mx_const (.int (-3)) 14) from sn_90 12) rfl ?_
      have b3 : 0 ≤ Z 1 2 ∧ Z 1 2 ≤ 4 := hG.pr 1 2
      have b4 : (-1) ≤ Z 1 3 ∧ Z 1 3 ≤ 900 := hG.pr 1 3
      exact mx_J.ret (sn_90 14) (fun _ _ => rfl) (hP (-3) n s S Z h hx hG fr8_rf ⟨(fun q => absurd (by omega) q), (⟨fun _ => rfl, fun q => absurd q (by decide)⟩), (k2), by omega⟩)
    refine Jif_lt (show mx_Sn _ _ 1 (mx_if_lt 12 4) from sn_90 1) (by omega) (fun q5 => ?_) (fun q5 => ?_)
    · skip
      have b6 : 0 ≤ Z 1 1 ∧ Z 1 1 ≤ 900 := hG.pr 1 1
      exact c12 (by omega)
    · skip
      refine mx_J.step (sn_90 4) (fun _ _ => rfl) ?_
      refine mx_J.step (sn_90 5) (fun _ _ => rfl) ?_
      have b8 : 0 ≤ Z 1 1 ∧ Z 1 1 ≤ 900 := hG.pr 1 1
      refine JgetI (g := 1) (z := Z 1 1) hx (show mx_Sn _ _ 6 (mx_getf 11 1 9) from sn_90 6) (lt83 (GI_n hG) rfl) (show S 1 = .inl (11, [2, 0, 0, 0, 2, 2, 2, 2, 2, 2, 2, 2, 2, 2, 2, 2, 2]) from GI_s hG 1 rfl) rfl rfl rfl ?_
      refine Jicmp_le (show mx_Sn _ _ 9 (mx_icmp_le 15 12) from sn_90 9) (by omega) (by omega) (fun q9 => ?_) (fun q9 => ?_)
      · skip
        refine mx_J.step (sn_90 15) (fun _ _ => rfl) ?_
        refine JcI (z := 0) (show mx_Sn _ _ 16 (mx_const (.int 0) 17) from sn_90 16) rfl ?_
        refine JputI (g := 1) hx (show mx_Sn _ _ 17 (mx_putf 1 11 1 (.int) 20) from sn_90 17) (lt83 (GI_n hG) rfl) (show S 1 = .inl (11, [2, 0, 0, 0, 2, 2, 2, 2, 2, 2, 2, 2, 2, 2, 2, 2, 2]) from GI_s hG 1 rfl) rfl rfl rfl rfl (fun Z10 h10 hx10 hE10 => ?_)
        have hG10 := GI_up hG hE10 (show 0 ≤ 0 ∧ 0 ≤ 900 by omega) trivial rfl
        refine mx_J.step (sn_90 20) (fun _ _ => rfl) ?_
        refine JgetR (g := 4) (b := 3) hx10 (show mx_Sn _ _ 21 (mx_getf 11 4 24) from sn_90 21) (lt83 (GI_n hG10) rfl) (show S 1 = .inl (11, [2, 0, 0, 0, 2, 2, 2, 2, 2, 2, 2, 2, 2, 2, 2, 2, 2]) from GI_s hG10 1 rfl) rfl rfl (hG10.prr 1 4 rfl) ?_
        refine mx_J.step (sn_90 24) (fun _ _ => rfl) ?_
        refine JgetR (g := 0) (b := 2) hx10 (show mx_Sn _ _ 25 (mx_getf 11 0 28) from sn_90 25) (lt83 (GI_n hG10) rfl) (show S 1 = .inl (11, [2, 0, 0, 0, 2, 2, 2, 2, 2, 2, 2, 2, 2, 2, 2, 2, 2]) from GI_s hG10 1 rfl) rfl rfl (hG10.prr 1 0 rfl) ?_
        refine mx_J.step (sn_90 28) (fun _ _ => rfl) ?_
        obtain ⟨n13, s13, S13, Z13, h13, hc13, hx13, hG13, hf13, b13⟩ := ct_38_3_2 (T := T) (N := x0) (d := d + 0) (l := l) (D := D) (b0 := b0) (ad := ad) (Hb := Hb) (tau := tau) hx10 hG10 (show 0 ≤ x0 ∧ x0 ≤ 900 by omega) (show 3 * ((n : Nat) : Int) + x0 + 6 ≤ 12288 by omega) (TB_c (k1 (by omega)) (fun i => (up_nk hE10 rfl))) (show x0 = x0 by omega)
        obtain ⟨bs13_0, b13⟩ := b13
        have b14 : 0 ≤ Z13 3 12 ∧ Z13 3 12 ≤ 18 := hG13.pr 3 12
        refine Jcv0 hx10 (show mx_Sn _ _ 29 (mx_callv 38 3 7 32) from sn_90 29) (lt83 (GI_n hG10) rfl) (show S 3 = .inl (7, [2, 0, 0, 0, 0, 0, 2, 0, 2, 2, 0, 2, 0, 0, 0, 0]) from GI_s hG10 3 rfl) hc13 rfl rfl rfl ?_
        have rd := RDc_f bs13_0
        have rdt := RDc_t bs13_0
        refine mx_J.step (sn_90 32) (fun _ _ => rfl) ?_
        refine mx_J.step (sn_90 33) (fun _ _ => rfl) ?_
        refine JgetR (g := 4) (b := 3) hx13 (show mx_Sn _ _ 34 (mx_getf 11 4 37) from sn_90 34) (lt83 (GI_n hG13) rfl) (show S13 1 = .inl (11, [2, 0, 0, 0, 2, 2, 2, 2, 2, 2, 2, 2, 2, 2, 2, 2, 2]) from GI_s hG13 1 rfl) rfl rfl (hG13.prr 1 4 rfl) ?_
        have b17 : 0 ≤ Z13 3 14 ∧ Z13 3 14 ≤ 4 := hG13.pr 3 14
        refine JgetI (g := 14) (z := Z13 3 14) hx13 (show mx_Sn _ _ 37 (mx_getf 7 14 40) from sn_90 37) (lt83 (GI_n hG13) rfl) (show S13 3 = .inl (7, [2, 0, 0, 0, 0, 0, 2, 0, 2, 2, 0, 2, 0, 0, 0, 0]) from GI_s hG13 3 rfl) rfl rfl rfl ?_
        refine JputI (g := 2) hx13 (show mx_Sn _ _ 40 (mx_putf 1 11 2 (.int) 43) from sn_90 40) (lt83 (GI_n hG13) rfl) (show S13 1 = .inl (11, [2, 0, 0, 0, 2, 2, 2, 2, 2, 2, 2, 2, 2, 2, 2, 2, 2]) from GI_s hG13 1 rfl) rfl rfl rfl rfl (fun Z18 h18 hx18 hE18 => ?_)
        have hG18 := GI_up hG13 hE18 (show 0 ≤ Z13 3 14 ∧ Z13 3 14 ≤ 4 by omega) trivial rfl
        refine mx_J.step (sn_90 43) (fun _ _ => rfl) ?_
        refine mx_J.step (sn_90 44) (fun _ _ => rfl) ?_
        refine JgetR (g := 4) (b := 3) hx18 (show mx_Sn _ _ 45 (mx_getf 11 4 48) from sn_90 45) (lt83 (GI_n hG18) rfl) (show S13 1 = .inl (11, [2, 0, 0, 0, 2, 2, 2, 2, 2, 2, 2, 2, 2, 2, 2, 2, 2]) from GI_s hG18 1 rfl) rfl rfl (hG18.prr 1 4 rfl) ?_
        have b21 : (-1) ≤ Z13 3 15 ∧ Z13 3 15 ≤ 900 := hG13.pr 3 15
        refine JgetI (g := 15) (z := Z13 3 15) hx18 (show mx_Sn _ _ 48 (mx_getf 7 15 51) from sn_90 48) (lt83 (GI_n hG18) rfl) (show S13 3 = .inl (7, [2, 0, 0, 0, 0, 0, 2, 0, 2, 2, 0, 2, 0, 0, 0, 0]) from GI_s hG18 3 rfl) rfl rfl (up_nk hE18 rfl) ?_
        refine JputI (g := 3) hx18 (show mx_Sn _ _ 51 (mx_putf 1 11 3 (.int) 54) from sn_90 51) (lt83 (GI_n hG18) rfl) (show S13 1 = .inl (11, [2, 0, 0, 0, 2, 2, 2, 2, 2, 2, 2, 2, 2, 2, 2, 2, 2]) from GI_s hG18 1 rfl) rfl rfl rfl rfl (fun Z22 h22 hx22 hE22 => ?_)
        have hG22 := GI_up hG18 hE22 (show (-1) ≤ Z13 3 15 ∧ Z13 3 15 ≤ 900 by omega) trivial rfl
        refine mx_J.step (sn_90 54) (fun _ _ => rfl) ?_
        refine JgetI (g := 2) (z := Z13 3 14) hx22 (show mx_Sn _ _ 55 (mx_getf 11 2 58) from sn_90 55) (lt83 (GI_n hG22) rfl) (show S13 1 = .inl (11, [2, 0, 0, 0, 2, 2, 2, 2, 2, 2, 2, 2, 2, 2, 2, 2, 2]) from GI_s hG22 1 rfl) rfl rfl ((up_ni hE22 (by decide)).trans (up_at hE18)) ?_
        refine Jif_eq (show mx_Sn _ _ 58 (mx_if_eq 69 61) from sn_90 58) (by omega) (fun q24 => ?_) (fun q24 => ?_)
        · skip
          refine mx_J.step (sn_90 69) (fun _ _ => rfl) ?_
          refine JgetR (g := 5) (b := 7) hx22 (show mx_Sn _ _ 70 (mx_getf 11 5 73) from sn_90 70) (lt83 (GI_n hG22) rfl) (show S13 1 = .inl (11, [2, 0, 0, 0, 2, 2, 2, 2, 2, 2, 2, 2, 2, 2, 2, 2, 2]) from GI_s hG22 1 rfl) rfl rfl (hG22.prr 1 5 rfl) ?_
          refine mx_J.step (sn_90 73) (fun _ _ => rfl) ?_
          refine JgetR (g := 4) (b := 3) hx22 (show mx_Sn _ _ 74 (mx_getf 11 4 77) from sn_90 74) (lt83 (GI_n hG22) rfl) (show S13 1 = .inl (11, [2, 0, 0, 0, 2, 2, 2, 2, 2, 2, 2, 2, 2, 2, 2, 2, 2]) from GI_s hG22 1 rfl) rfl rfl (hG22.prr 1 4 rfl) ?_
          refine JgetI (g := 12) (z := Z13 3 12) hx22 (show mx_Sn _ _ 77 (mx_getf 7 12 80) from sn_90 77) (lt83 (GI_n hG22) rfl) (show S13 3 = .inl (7, [2, 0, 0, 0, 0, 0, 2, 0, 2, 2, 0, 2, 0, 0, 0, 0]) from GI_s hG22 3 rfl) rfl rfl ((up_nk hE22 rfl).trans (up_nk hE18 rfl)) ?_
          have eq29 : Z22 7 4 = Z 7 4 := ((up_nk hE22 rfl).trans ((up_nk hE18 rfl).trans ((hf13 7 4 rfl rfl).trans (up_nk hE10 rfl))))
          have b30 : 0 ≤ Z 7 4 ∧ Z 7 4 ≤ 18 := hG.pr 7 4
          obtain ⟨Z28, h28, hc28, hx28, hG28, hf28, b28⟩ := ct_3_7 (d := d + 104) (l := l) (D := D) (b0 := b0) (ad := ad) (Hb := Hb) (tau := tau) hx22 hG22 (show 1 ≤ Z13 3 12 ∧ Z13 3 12 ≤ 18 by omega) (CTB_7 (CTB_c k2 ((up_nk hE22 rfl).trans ((up_nk hE18 rfl).trans ((hf13 7 4 rfl rfl).trans (up_nk hE10 rfl)))) ((up_nk hE22 rfl).trans ((up_nk hE18 rfl).trans ((hf13 7 5 rfl rfl).trans (up_nk hE10 rfl)))) (fun i => ((up_nk hE22 rfl).trans ((up_nk hE18 rfl).trans ((hf13 9 i rfl rfl).trans (up_nk hE10 rfl))))) (fun i => ((up_nk hE22 rfl).trans ((up_nk hE18 rfl).trans ((hf13 10 i rfl rfl).trans (up_nk hE10 rfl)))))))
          try rw [eq29] at b28
          have bs28_0 := b28
          clear b28
          refine Jcv0 hx22 (show mx_Sn _ _ 80 (mx_callv 3 2 0 83) from sn_90 80) (lt83 (GI_n hG22) rfl) (show S13 7 = .inl (0, [2, 2, 2, 2, 0, 0]) from GI_s hG22 7 rfl) hc28 rfl rfl rfl ?_
          have ctl9 := bs28_0
          refine mx_J.step (sn_90 83) (fun _ _ => rfl) ?_
          refine JgetR (g := 12) (b := 36) hx28 (show mx_Sn _ _ 84 (mx_getf 11 12 87) from sn_90 84) (lt83 (GI_n hG28) rfl) (show S13 1 = .inl (11, [2, 0, 0, 0, 2, 2, 2, 2, 2, 2, 2, 2, 2, 2, 2, 2, 2]) from GI_s hG28 1 rfl) rfl rfl (hG28.prr 1 12 rfl) ?_
          refine mx_J.step (sn_90 87) (fun _ _ => rfl) ?_
          refine JgetR (g := 4) (b := 3) hx28 (show mx_Sn _ _ 88 (mx_getf 11 4 91) from sn_90 88) (lt83 (GI_n hG28) rfl) (show S13 1 = .inl (11, [2, 0, 0, 0, 2, 2, 2, 2, 2, 2, 2, 2, 2, 2, 2, 2, 2]) from GI_s hG28 1 rfl) rfl rfl (hG28.prr 1 4 rfl) ?_
          have eq33 : Z28 3 10 = Z13 3 10 := ((hf28 3 10 rfl).trans ((up_nk hE22 rfl).trans (up_nk hE18 rfl)))
          have b34 : 0 ≤ Z13 3 10 ∧ Z13 3 10 ≤ 901 := hG13.pr 3 10
          obtain ⟨r35, n35, s35, S35, Z35, h35, hc35, hx35, hG35, hf35, b35, or35, ar35, sr35⟩ := ca_39x (d := d + 104) (l := l) (D := D) (b0 := b0) (ad := ad) (Hb := Hb) (tau := tau) hx28 hG28  (show ((n13 : Nat) : Int) ≤ 4095 by omega)
          refine Jcv hx28 (show mx_Sn _ _ 91 (mx_callv 39 1 7 94) from sn_90 91) (lt83 (GI_n hG28) rfl) (show S13 3 = .inl (7, [2, 0, 0, 0, 0, 0, 2, 0, 2, 2, 0, 2, 0, 0, 0, 0]) from GI_s hG28 3 rfl) hc35 rfl rfl rfl ?_
          refine JputR (g := 0) hx35 (show mx_Sn _ _ 94 (mx_putf 1 5 0 (.object "TitheHeap$Laws") 97) from sn_90 94) (lt83 (GI_n hG35) rfl) (show S35 36 = .inl (5, [2, 0, 0, 0, 0, 0]) from GI_s hG35 36 rfl) rfl rfl rfl rfl (fun Z36 h36 hx36 hE36 => ?_)
          have hG36 := GI_upL hG35 hE36 (show (0 : Int) ≤ (r35 : Int) ∧ (r35 : Int) ≤ 4096 by have hn := hx35.2.2.1; omega) trivial rfl ⟨r35, rfl, or35, ar35, sr35⟩
          refine mx_J.step (sn_90 97) (fun _ _ => rfl) ?_
          refine JgetR (g := 12) (b := 36) hx36 (show mx_Sn _ _ 98 (mx_getf 11 12 101) from sn_90 98) (lt83 (GI_n hG36) rfl) (show S35 1 = .inl (11, [2, 0, 0, 0, 2, 2, 2, 2, 2, 2, 2, 2, 2, 2, 2, 2, 2]) from GI_s hG36 1 rfl) rfl rfl (hG36.prr 1 12 rfl) ?_
          refine mx_J.step (sn_90 101) (fun _ _ => rfl) ?_
          refine JgetR (g := 4) (b := 3) hx36 (show mx_Sn _ _ 102 (mx_getf 11 4 105) from sn_90 102) (lt83 (GI_n hG36) rfl) (show S35 1 = .inl (11, [2, 0, 0, 0, 2, 2, 2, 2, 2, 2, 2, 2, 2, 2, 2, 2, 2]) from GI_s hG36 1 rfl) rfl rfl (hG36.prr 1 4 rfl) ?_
          refine JgetI (g := 12) (z := Z13 3 12) hx36 (show mx_Sn _ _ 105 (mx_getf 7 12 108) from sn_90 105) (lt83 (GI_n hG36) rfl) (show S35 3 = .inl (7, [2, 0, 0, 0, 0, 0, 2, 0, 2, 2, 0, 2, 0, 0, 0, 0]) from GI_s hG36 3 rfl) rfl rfl ((up_nk hE36 rfl).trans ((hf35 3 12 rfl rfl).trans ((hf28 3 12 rfl).trans ((up_nk hE22 rfl).trans (up_nk hE18 rfl))))) ?_
          refine JputI (g := 1) hx36 (show mx_Sn _ _ 108 (mx_putf 1 5 1 (.int) 111) from sn_90 108) (lt83 (GI_n hG36) rfl) (show S35 36 = .inl (5, [2, 0, 0, 0, 0, 0]) from GI_s hG36 36 rfl) rfl rfl rfl rfl (fun Z40 h40 hx40 hE40 => ?_)
          have hG40 := GI_up hG36 hE40 (show 1 ≤ Z13 3 12 ∧ Z13 3 12 ≤ 18 by omega) trivial rfl
          refine mx_J.step (sn_90 111) (fun _ _ => rfl) ?_
          refine JgetR (g := 12) (b := 36) hx40 (show mx_Sn _ _ 112 (mx_getf 11 12 115) from sn_90 112) (lt83 (GI_n hG40) rfl) (show S35 1 = .inl (11, [2, 0, 0, 0, 2, 2, 2, 2, 2, 2, 2, 2, 2, 2, 2, 2, 2]) from GI_s hG40 1 rfl) rfl rfl (hG40.prr 1 12 rfl) ?_
          refine mx_J.step (sn_90 115) (fun _ _ => rfl) ?_
          refine JgetR (g := 5) (b := 7) hx40 (show mx_Sn _ _ 116 (mx_getf 11 5 119) from sn_90 116) (lt83 (GI_n hG40) rfl) (show S35 1 = .inl (11, [2, 0, 0, 0, 2, 2, 2, 2, 2, 2, 2, 2, 2, 2, 2, 2, 2]) from GI_s hG40 1 rfl) rfl rfl (hG40.prr 1 5 rfl) ?_
          refine mx_J.step (sn_90 119) (fun _ _ => rfl) ?_
          refine JgetR (g := 4) (b := 3) hx40 (show mx_Sn _ _ 120 (mx_getf 11 4 123) from sn_90 120) (lt83 (GI_n hG40) rfl) (show S35 1 = .inl (11, [2, 0, 0, 0, 2, 2, 2, 2, 2, 2, 2, 2, 2, 2, 2, 2, 2]) from GI_s hG40 1 rfl) rfl rfl (hG40.prr 1 4 rfl) ?_
          refine JgetR (g := 11) (b := 6) hx40 (show mx_Sn _ _ 123 (mx_getf 7 11 126) from sn_90 123) (lt83 (GI_n hG40) rfl) (show S35 3 = .inl (7, [2, 0, 0, 0, 0, 0, 2, 0, 2, 2, 0, 2, 0, 0, 0, 0]) from GI_s hG40 3 rfl) rfl rfl (hG40.prr 3 11 rfl) ?_
          obtain ⟨z45, hc45, b45⟩ := ct_9_7_6 (d := d + 105) (l := l) (D := D) (b0 := b0) (ad := ad) (Hb := Hb) (tau := tau) hx40 hG40  (fun i _ _ => by have q : 0 ≤ Z40 6 i ∧ Z40 6 i ≤ 20 := hG40.pr 6 i; omega)
          obtain ⟨bs45_0, b45⟩ := b45
          refine Jcv hx40 (show mx_Sn _ _ 126 (mx_callv 9 2 0 129) from sn_90 126) (lt83 (GI_n hG40) rfl) (show S35 7 = .inl (0, [2, 2, 2, 2, 0, 0]) from GI_s hG40 7 rfl) hc45 rfl rfl rfl ?_
          refine JputI (g := 2) hx40 (show mx_Sn _ _ 129 (mx_putf 1 5 2 (.int) 132) from sn_90 129) (lt83 (GI_n hG40) rfl) (show S35 36 = .inl (5, [2, 0, 0, 0, 0, 0]) from GI_s hG40 36 rfl) rfl rfl rfl rfl (fun Z46 h46 hx46 hE46 => ?_)
          have hG46 := GI_up hG40 hE46 (show 0 ≤ z45 ∧ z45 ≤ 384 by omega) trivial rfl
          refine mx_J.step (sn_90 132) (fun _ _ => rfl) ?_
          refine JgetR (g := 12) (b := 36) hx46 (show mx_Sn _ _ 133 (mx_getf 11 12 136) from sn_90 133) (lt83 (GI_n hG46) rfl) (show S35 1 = .inl (11, [2, 0, 0, 0, 2, 2, 2, 2, 2, 2, 2, 2, 2, 2, 2, 2, 2]) from GI_s hG46 1 rfl) rfl rfl (hG46.prr 1 12 rfl) ?_
          refine mx_J.step (sn_90 136) (fun _ _ => rfl) ?_
          refine JgetR (g := 4) (b := 3) hx46 (show mx_Sn _ _ 137 (mx_getf 11 4 140) from sn_90 137) (lt83 (GI_n hG46) rfl) (show S35 1 = .inl (11, [2, 0, 0, 0, 2, 2, 2, 2, 2, 2, 2, 2, 2, 2, 2, 2, 2]) from GI_s hG46 1 rfl) rfl rfl (hG46.prr 1 4 rfl) ?_
          have b50 : 0 ≤ Z13 3 13 ∧ Z13 3 13 ≤ 9 := hG13.pr 3 13
          refine JgetI (g := 13) (z := Z13 3 13) hx46 (show mx_Sn _ _ 140 (mx_getf 7 13 143) from sn_90 140) (lt83 (GI_n hG46) rfl) (show S35 3 = .inl (7, [2, 0, 0, 0, 0, 0, 2, 0, 2, 2, 0, 2, 0, 0, 0, 0]) from GI_s hG46 3 rfl) rfl rfl ((up_nk hE46 rfl).trans ((up_nk hE40 rfl).trans ((up_nk hE36 rfl).trans ((hf35 3 13 rfl rfl).trans ((hf28 3 13 rfl).trans ((up_nk hE22 rfl).trans (up_nk hE18 rfl))))))) ?_
          refine JputI (g := 3) hx46 (show mx_Sn _ _ 143 (mx_putf 1 5 3 (.int) 146) from sn_90 143) (lt83 (GI_n hG46) rfl) (show S35 36 = .inl (5, [2, 0, 0, 0, 0, 0]) from GI_s hG46 36 rfl) rfl rfl rfl rfl (fun Z51 h51 hx51 hE51 => ?_)
          have hG51 := GI_up hG46 hE51 (show 0 ≤ Z13 3 13 ∧ Z13 3 13 ≤ 9 by omega) trivial rfl
          refine mx_J.step (sn_90 146) (fun _ _ => rfl) ?_
          refine JgetR (g := 12) (b := 36) hx51 (show mx_Sn _ _ 147 (mx_getf 11 12 150) from sn_90 147) (lt83 (GI_n hG51) rfl) (show S35 1 = .inl (11, [2, 0, 0, 0, 2, 2, 2, 2, 2, 2, 2, 2, 2, 2, 2, 2, 2]) from GI_s hG51 1 rfl) rfl rfl (hG51.prr 1 12 rfl) ?_
          refine JcI (z := 0) (show mx_Sn _ _ 150 (mx_const (.int 0) 151) from sn_90 150) rfl ?_
          refine JputI (g := 4) hx51 (show mx_Sn _ _ 151 (mx_putf 1 5 4 (.int) 154) from sn_90 151) (lt83 (GI_n hG51) rfl) (show S35 36 = .inl (5, [2, 0, 0, 0, 0, 0]) from GI_s hG51 36 rfl) rfl rfl rfl rfl (fun Z53 h53 hx53 hE53 => ?_)
          have hG53 := GI_up hG51 hE53 (show (-2147483648) ≤ 0 ∧ 0 ≤ 2147483647 by omega) trivial rfl
          refine mx_J.step (sn_90 154) (fun _ _ => rfl) ?_
          obtain ⟨Z54, h54, hc54, hx54, hG54, hf54, b54⟩ := ct_135_1 (d := d + 103) (l := l) (D := D) (b0 := b0) (ad := ad) (Hb := Hb) (tau := tau) hx53 hG53  (CTB_7 (CTB_c ctl9 ((up_nk hE53 rfl).trans ((up_nk hE51 rfl).trans ((up_nk hE46 rfl).trans ((up_nk hE40 rfl).trans ((up_nk hE36 rfl).trans (hf35 7 4 rfl rfl)))))) ((up_nk hE53 rfl).trans ((up_nk hE51 rfl).trans ((up_nk hE46 rfl).trans ((up_nk hE40 rfl).trans ((up_nk hE36 rfl).trans (hf35 7 5 rfl rfl)))))) (fun i => ((up_nk hE53 rfl).trans ((up_nk hE51 rfl).trans ((up_nk hE46 rfl).trans ((up_nk hE40 rfl).trans ((up_nk hE36 rfl).trans (hf35 9 i rfl rfl))))))) (fun i => ((up_nk hE53 rfl).trans ((up_nk hE51 rfl).trans ((up_nk hE46 rfl).trans ((up_nk hE40 rfl).trans ((up_nk hE36 rfl).trans (hf35 10 i rfl rfl)))))))))
          have bs54_0 := b54
          clear b54
          refine Jcv0 hx53 (show mx_Sn _ _ 155 (mx_callv 135 1 11 158) from sn_90 155) (lt83 (GI_n hG53) rfl) (show S35 1 = .inl (11, [2, 0, 0, 0, 2, 2, 2, 2, 2, 2, 2, 2, 2, 2, 2, 2, 2]) from GI_s hG53 1 rfl) hc54 rfl rfl rfl ?_
          refine mx_J.step (sn_90 158) (fun _ _ => rfl) ?_
          refine JgetR (g := 12) (b := 36) hx54 (show mx_Sn _ _ 159 (mx_getf 11 12 162) from sn_90 159) (lt83 (GI_n hG54) rfl) (show S35 1 = .inl (11, [2, 0, 0, 0, 2, 2, 2, 2, 2, 2, 2, 2, 2, 2, 2, 2, 2]) from GI_s hG54 1 rfl) rfl rfl (hG54.prr 1 12 rfl) ?_
          obtain ⟨r56, er56, or56, ar56, sr56⟩ := GI_l36 hG54
          refine JgetR (g := 0) (b := r56) hx54 (show mx_Sn _ _ 162 (mx_getf 5 0 165) from sn_90 162) (lt83 (GI_n hG54) rfl) (show S35 36 = .inl (5, [2, 0, 0, 0, 0, 0]) from GI_s hG54 36 rfl) rfl rfl er56 ?_
          have lr : r56 = r35 := by have e1 : Z54 36 0 = ((r35 : Nat) : Int) := ((hf54 36 0 rfl).trans ((up_ni hE53 (by decide)).trans ((up_ni hE51 (by decide)).trans ((up_ni hE46 (by decide)).trans ((up_ni hE40 (by decide)).trans (up_at hE36)))))); omega
          have b57 : -2147483648 ≤ Z54 r56 2 ∧ Z54 r56 2 ≤ 2147483647 := (GI_rc hG54 or56 ar56 sr56).2.2
          refine JgetI (g := 2) (z := Z54 r56 2) hx54 (show mx_Sn _ _ 165 (mx_getf 3 2 168) from sn_90 165) ar56 sr56 rfl rfl rfl ?_
          have eq58 : Z54 1 1 = 0 := ((hf54 1 1 rfl).trans ((up_nk hE53 rfl).trans ((up_nk hE51 rfl).trans ((up_nk hE46 rfl).trans ((up_nk hE40 rfl).trans ((up_nk hE36 rfl).trans ((hf35 1 1 rfl rfl).trans ((hf28 1 1 rfl).trans ((up_ni hE22 (by decide)).trans ((up_ni hE18 (by decide)).trans ((hf13 1 1 rfl rfl).trans (up_at hE10))))))))))))
          have eq59 : Z54 1 2 = Z13 3 14 := ((hf54 1 2 rfl).trans ((up_nk hE53 rfl).trans ((up_nk hE51 rfl).trans ((up_nk hE46 rfl).trans ((up_nk hE40 rfl).trans ((up_nk hE36 rfl).trans ((hf35 1 2 rfl rfl).trans ((hf28 1 2 rfl).trans ((up_ni hE22 (by decide)).trans (up_at hE18))))))))))
          have eq60 : Z54 1 3 = Z13 3 15 := ((hf54 1 3 rfl).trans ((up_nk hE53 rfl).trans ((up_nk hE51 rfl).trans ((up_nk hE46 rfl).trans ((up_nk hE40 rfl).trans ((up_nk hE36 rfl).trans ((hf35 1 3 rfl rfl).trans ((hf28 1 3 rfl).trans (up_at hE22)))))))))
          have eq61 : Z54 1 1 = 0 := ((hf54 1 1 rfl).trans ((up_nk hE53 rfl).trans ((up_nk hE51 rfl).trans ((up_nk hE46 rfl).trans ((up_nk hE40 rfl).trans ((up_nk hE36 rfl).trans ((hf35 1 1 rfl rfl).trans ((hf28 1 1 rfl).trans ((up_ni hE22 (by decide)).trans ((up_ni hE18 (by decide)).trans ((hf13 1 1 rfl rfl).trans (up_at hE10))))))))))))
          have eq62 : Z54 1 2 = Z13 3 14 := ((hf54 1 2 rfl).trans ((up_nk hE53 rfl).trans ((up_nk hE51 rfl).trans ((up_nk hE46 rfl).trans ((up_nk hE40 rfl).trans ((up_nk hE36 rfl).trans ((hf35 1 2 rfl rfl).trans ((hf28 1 2 rfl).trans ((up_ni hE22 (by decide)).trans (up_at hE18))))))))))
          have eq63 : Z54 1 3 = Z13 3 15 := ((hf54 1 3 rfl).trans ((up_nk hE53 rfl).trans ((up_nk hE51 rfl).trans ((up_nk hE46 rfl).trans ((up_nk hE40 rfl).trans ((up_nk hE36 rfl).trans ((hf35 1 3 rfl rfl).trans ((hf28 1 3 rfl).trans (up_at hE22)))))))))
          exact mx_J.ret (sn_90 168) (fun _ _ => rfl) (hP (Z54 r56 2) n35 s35 S35 Z54 h54 hx54 hG54 (fr8_tr (M := [(1, 1), (1, 2), (1, 3), (3, 0), (3, 1), (3, 2), (3, 3), (3, 4), (3, 5), (3, 7), (3, 8), (3, 9), (3, 10), (3, 12), (3, 13), (3, 14), (3, 15), (5, (-1)), (6, (-1)), (7, 4), (7, 5), (9, (-1)), (10, (-1)), (11, (-1)), (12, 1), (12, 2), (17, (-1)), (36, 0), (36, 1), (36, 2), (36, 3), (36, 4), (40, 1)]) (fr8_tr (M := [(1, 1), (1, 2), (1, 3), (3, 0), (3, 1), (3, 2), (3, 3), (3, 4), (3, 5), (3, 7), (3, 8), (3, 9), (3, 10), (3, 12), (3, 13), (3, 14), (3, 15), (5, (-1)), (6, (-1)), (7, 4), (7, 5), (9, (-1)), (10, (-1)), (11, (-1)), (12, 1), (12, 2), (17, (-1)), (36, 0), (36, 1), (36, 2), (36, 3), (36, 4), (40, 1)]) (fr8_tr (M := [(1, 1), (1, 2), (1, 3), (3, 0), (3, 1), (3, 2), (3, 3), (3, 4), (3, 5), (3, 7), (3, 8), (3, 9), (3, 10), (3, 12), (3, 13), (3, 14), (3, 15), (5, (-1)), (6, (-1)), (7, 4), (7, 5), (9, (-1)), (10, (-1)), (11, (-1)), (12, 1), (12, 2), (17, (-1)), (36, 0), (36, 1), (36, 2), (36, 3), (36, 4), (40, 1)]) (fr8_tr (M := [(1, 1), (1, 2), (1, 3), (3, 0), (3, 1), (3, 2), (3, 3), (3, 4), (3, 5), (3, 7), (3, 8), (3, 9), (3, 10), (3, 12), (3, 13), (3, 14), (3, 15), (5, (-1)), (6, (-1)), (7, 4), (7, 5), (9, (-1)), (10, (-1)), (11, (-1)), (12, 1), (12, 2), (17, (-1)), (36, 0), (36, 1), (36, 2), (36, 3), (36, 4), (40, 1)]) (fr8_tr (M := [(1, 1), (1, 2), (1, 3), (3, 0), (3, 1), (3, 2), (3, 3), (3, 4), (3, 5), (3, 7), (3, 8), (3, 9), (3, 10), (3, 12), (3, 13), (3, 14), (3, 15), (5, (-1)), (6, (-1)), (7, 4), (7, 5), (9, (-1)), (10, (-1)), (11, (-1)), (12, 1), (12, 2), (17, (-1)), (36, 0), (36, 1), (36, 2), (36, 3), (36, 4), (40, 1)]) (fr8_tr (M := [(1, 1), (1, 2), (1, 3), (3, 0), (3, 1), (3, 2), (3, 3), (3, 4), (3, 5), (3, 7), (3, 8), (3, 9), (3, 10), (3, 12), (3, 13), (3, 14), (3, 15), (5, (-1)), (6, (-1)), (7, 4), (7, 5), (9, (-1)), (10, (-1)), (11, (-1)), (12, 1), (12, 2), (17, (-1)), (36, 0), (36, 1), (36, 2), (36, 3), (36, 4), (40, 1)]) (fr8_tr (M := [(1, 1), (1, 2), (1, 3), (3, 0), (3, 1), (3, 2), (3, 3), (3, 4), (3, 5), (3, 7), (3, 8), (3, 9), (3, 10), (3, 12), (3, 13), (3, 14), (3, 15), (5, (-1)), (6, (-1)), (7, 4), (7, 5), (9, (-1)), (10, (-1)), (11, (-1)), (12, 1), (12, 2), (17, (-1)), (36, 0), (36, 1), (36, 2), (36, 3), (36, 4), (40, 1)]) (fr8_tr (M := [(1, 1), (1, 2), (1, 3), (3, 0), (3, 1), (3, 2), (3, 3), (3, 4), (3, 5), (3, 7), (3, 8), (3, 9), (3, 10), (3, 12), (3, 13), (3, 14), (3, 15), (5, (-1)), (6, (-1)), (7, 4), (7, 5), (9, (-1)), (10, (-1)), (11, (-1)), (12, 1), (12, 2), (17, (-1)), (36, 0), (36, 1), (36, 2), (36, 3), (36, 4), (40, 1)]) (fr8_tr (M := [(1, 1), (1, 2), (1, 3), (3, 0), (3, 1), (3, 2), (3, 3), (3, 4), (3, 5), (3, 7), (3, 8), (3, 9), (3, 10), (3, 12), (3, 13), (3, 14), (3, 15), (5, (-1)), (6, (-1)), (7, 4), (7, 5), (9, (-1)), (10, (-1)), (11, (-1)), (12, 1), (12, 2), (17, (-1)), (36, 0), (36, 1), (36, 2), (36, 3), (36, 4), (40, 1)]) (fr8_tr (M := [(1, 1), (1, 2), (1, 3), (3, 0), (3, 1), (3, 2), (3, 3), (3, 4), (3, 5), (3, 7), (3, 8), (3, 9), (3, 10), (3, 12), (3, 13), (3, 14), (3, 15), (5, (-1)), (6, (-1)), (7, 4), (7, 5), (9, (-1)), (10, (-1)), (11, (-1)), (12, 1), (12, 2), (17, (-1)), (36, 0), (36, 1), (36, 2), (36, 3), (36, 4), (40, 1)]) (fr8_tr (M := [(1, 1), (1, 2), (1, 3), (3, 0), (3, 1), (3, 2), (3, 3), (3, 4), (3, 5), (3, 7), (3, 8), (3, 9), (3, 10), (3, 12), (3, 13), (3, 14), (3, 15), (5, (-1)), (6, (-1)), (7, 4), (7, 5), (9, (-1)), (10, (-1)), (11, (-1)), (12, 1), (12, 2), (17, (-1)), (36, 0), (36, 1), (36, 2), (36, 3), (36, 4), (40, 1)]) (fr8_tr (M := [(1, 1), (1, 2), (1, 3), (3, 0), (3, 1), (3, 2), (3, 3), (3, 4), (3, 5), (3, 7), (3, 8), (3, 9), (3, 10), (3, 12), (3, 13), (3, 14), (3, 15), (5, (-1)), (6, (-1)), (7, 4), (7, 5), (9, (-1)), (10, (-1)), (11, (-1)), (12, 1), (12, 2), (17, (-1)), (36, 0), (36, 1), (36, 2), (36, 3), (36, 4), (40, 1)]) fr8_rf (fr8_of (fr_up hE10)) (M1 := []) rfl rfl) (hf13) rfl rfl) (fr8_of (fr_up hE18)) rfl rfl) (fr8_of (fr_up hE22)) rfl rfl) (fr8_of (hf28)) rfl rfl) (hf35) rfl rfl) (fr8_of (fr_up hE36)) rfl rfl) (fr8_of (fr_up hE40)) rfl rfl) (fr8_of (fr_up hE46)) rfl rfl) (fr8_of (fr_up hE51)) rfl rfl) (fr8_of (fr_up hE53)) rfl rfl) (fr8_of (hf54)) rfl rfl) ⟨(fun _ => by have r2 := ((hf54 1 2 rfl).trans ((up_nk hE53 rfl).trans ((up_nk hE51 rfl).trans ((up_nk hE46 rfl).trans ((up_nk hE40 rfl).trans ((up_nk hE36 rfl).trans ((hf35 1 2 rfl rfl).trans ((hf28 1 2 rfl).trans ((up_ni hE22 (by decide)).trans (up_at hE18)))))))))); have r3 := ((hf54 1 3 rfl).trans ((up_nk hE53 rfl).trans ((up_nk hE51 rfl).trans ((up_nk hE46 rfl).trans ((up_nk hE40 rfl).trans ((up_nk hE36 rfl).trans ((hf35 1 3 rfl rfl).trans ((hf28 1 3 rfl).trans (up_at hE22))))))))); have ln : Z54 r35 2 = Z35 r35 2 := ((fr_dy hf54 rfl (by omega) 2).trans ((up_ne hE53 (Or.inl (by omega))).trans ((up_ne hE51 (Or.inl (by omega))).trans ((up_ne hE46 (Or.inl (by omega))).trans ((up_ne hE40 (Or.inl (by omega))).trans (up_ne hE36 (Or.inl (by omega)))))))); unfold BR; rw [lr]; omega), (⟨fun q => absurd q (by have ln : Z54 r35 2 = Z35 r35 2 := ((fr_dy hf54 rfl (by omega) 2).trans ((up_ne hE53 (Or.inl (by omega))).trans ((up_ne hE51 (Or.inl (by omega))).trans ((up_ne hE46 (Or.inl (by omega))).trans ((up_ne hE40 (Or.inl (by omega))).trans (up_ne hE36 (Or.inl (by omega)))))))); rw [lr]; omega), fun _ => ((hf54 36 1 rfl).trans ((up_ni hE53 (by decide)).trans ((up_ni hE51 (by decide)).trans ((up_ni hE46 (by decide)).trans (up_at hE40))))).trans (rdt (by omega))⟩), (CTB_e (by assumption) (hf54 36 1 rfl)), by omega⟩)
        · skip
          refine JcI (z := (-30)) (show mx_Sn _ _ 61 (mx_const (.int (-30)) 63) from sn_90 61) rfl ?_
          refine mx_J.step (sn_90 63) (fun _ _ => rfl) ?_
          refine JgetI (g := 2) (z := Z13 3 14) hx22 (show mx_Sn _ _ 64 (mx_getf 11 2 67) from sn_90 64) (lt83 (GI_n hG22) rfl) (show S13 1 = .inl (11, [2, 0, 0, 0, 2, 2, 2, 2, 2, 2, 2, 2, 2, 2, 2, 2, 2]) from GI_s hG22 1 rfl) rfl rfl ((up_ni hE22 (by decide)).trans (up_at hE18)) ?_
          refine Jisub (show mx_Sn _ _ 67 (mx_isub 68) from sn_90 67) ?_
          have eq65 : Z22 1 1 = 0 := ((up_ni hE22 (by decide)).trans ((up_ni hE18 (by decide)).trans ((hf13 1 1 rfl rfl).trans (up_at hE10))))
          have eq66 : Z22 1 2 = Z13 3 14 := ((up_ni hE22 (by decide)).trans (up_at hE18))
          have eq67 : Z22 1 3 = Z13 3 15 := (up_at hE22)
          have eq68 : Z22 1 1 = 0 := ((up_ni hE22 (by decide)).trans ((up_ni hE18 (by decide)).trans ((hf13 1 1 rfl rfl).trans (up_at hE10))))
          have eq69 : Z22 1 2 = Z13 3 14 := ((up_ni hE22 (by decide)).trans (up_at hE18))
          have eq70 : Z22 1 3 = Z13 3 15 := (up_at hE22)
          exact mx_J.ret (sn_90 68) (fun _ _ => rfl) (hP ((-30) - (Z13 3 14)) n13 s13 S13 Z22 h22 hx22 hG22 (fr8_tr (M := [(1, 1), (1, 2), (1, 3), (3, 0), (3, 1), (3, 2), (3, 3), (3, 4), (3, 5), (3, 7), (3, 8), (3, 9), (3, 10), (3, 12), (3, 13), (3, 14), (3, 15), (5, (-1)), (6, (-1)), (7, 4), (7, 5), (9, (-1)), (10, (-1)), (11, (-1)), (12, 1), (12, 2), (17, (-1)), (36, 0), (36, 1), (36, 2), (36, 3), (36, 4), (40, 1)]) (fr8_tr (M := [(1, 1), (1, 2), (1, 3), (3, 0), (3, 1), (3, 2), (3, 3), (3, 4), (3, 5), (3, 7), (3, 8), (3, 9), (3, 10), (3, 12), (3, 13), (3, 14), (3, 15), (5, (-1)), (6, (-1)), (7, 4), (7, 5), (9, (-1)), (10, (-1)), (11, (-1)), (12, 1), (12, 2), (17, (-1)), (36, 0), (36, 1), (36, 2), (36, 3), (36, 4), (40, 1)]) (fr8_tr (M := [(1, 1), (1, 2), (1, 3), (3, 0), (3, 1), (3, 2), (3, 3), (3, 4), (3, 5), (3, 7), (3, 8), (3, 9), (3, 10), (3, 12), (3, 13), (3, 14), (3, 15), (5, (-1)), (6, (-1)), (7, 4), (7, 5), (9, (-1)), (10, (-1)), (11, (-1)), (12, 1), (12, 2), (17, (-1)), (36, 0), (36, 1), (36, 2), (36, 3), (36, 4), (40, 1)]) (fr8_tr (M := [(1, 1), (1, 2), (1, 3), (3, 0), (3, 1), (3, 2), (3, 3), (3, 4), (3, 5), (3, 7), (3, 8), (3, 9), (3, 10), (3, 12), (3, 13), (3, 14), (3, 15), (5, (-1)), (6, (-1)), (7, 4), (7, 5), (9, (-1)), (10, (-1)), (11, (-1)), (12, 1), (12, 2), (17, (-1)), (36, 0), (36, 1), (36, 2), (36, 3), (36, 4), (40, 1)]) fr8_rf (fr8_of (fr_up hE10)) (M1 := []) rfl rfl) (hf13) rfl rfl) (fr8_of (fr_up hE18)) rfl rfl) (fr8_of (fr_up hE22)) rfl rfl) ⟨(fun _ => by have r2 := ((up_ni hE22 (by decide)).trans (up_at hE18)); have r3 := (up_at hE22); unfold BR; omega), (⟨fun _ => ((up_nk hE22 rfl).trans ((up_nk hE18 rfl).trans ((hf13 36 1 rfl rfl).trans (up_nk hE10 rfl)))), fun q => absurd q (by omega)⟩), (CTB_e (CTB_c k2 ((up_nk hE22 rfl).trans ((up_nk hE18 rfl).trans ((hf13 7 4 rfl rfl).trans (up_nk hE10 rfl)))) ((up_nk hE22 rfl).trans ((up_nk hE18 rfl).trans ((hf13 7 5 rfl rfl).trans (up_nk hE10 rfl)))) (fun i => ((up_nk hE22 rfl).trans ((up_nk hE18 rfl).trans ((hf13 9 i rfl rfl).trans (up_nk hE10 rfl))))) (fun i => ((up_nk hE22 rfl).trans ((up_nk hE18 rfl).trans ((hf13 10 i rfl rfl).trans (up_nk hE10 rfl)))))) ((up_nk hE22 rfl).trans ((up_nk hE18 rfl).trans ((hf13 36 1 rfl rfl).trans (up_nk hE10 rfl))))), by omega⟩)
      · skip
        exact c12 (by omega)
theorem ct_90_1 {l : Launch} {D : va_G} {b0 : Nat} {ad : Nat → Nat} {Hb : Heap} {tau : Nat → Int64} {d n s : Nat} {S : Nat → xS} {Z : xZ} {h : mx_H} {T : Int → Int} (hx : XH n s S Z h) (hG : GI n S Z)  {x0 : Int} (p0 : (-2147483648) ≤ x0 ∧ x0 ≤ 2147483647) (k0 : 3 * ((n : Nat) : Int) + Z 1 1 + 6 ≤ 12288) (k1 : (¬ (x0 < 0 ∨ Z 1 1 < x0) → TB T x0 Z)) (k2 : CTB Z (Z 36 1)) : ∃ (z : Int) (n' s' : Nat) (S' : Nat → xS) (Z' : xZ) (h' : mx_H), mx_Ca (tB l D b0 ad Hb tau) (d + 108) 90 [.ref 1, xI x0] h (some (xI z), h') ∧ XH n' s' S' Z' h' ∧ GI n' S' Z' ∧ fr8 [(1, 1), (1, 2), (1, 3), (3, 0), (3, 1), (3, 2), (3, 3), (3, 4), (3, 5), (3, 7), (3, 8), (3, 9), (3, 10), (3, 12), (3, 13), (3, 14), (3, 15), (5, (-1)), (6, (-1)), (7, 4), (7, 5), (9, (-1)), (10, (-1)), (11, (-1)), (12, 1), (12, 2), (17, (-1)), (36, 0), (36, 1), (36, 2), (36, 3), (36, 4), (40, 1)] Z Z' ∧ ((¬ (x0 < 0 ∨ Z 1 1 < x0) → BR T x0 z (Z' 1 2) (Z' 1 3)) ∧ BST T x0 z (Z 36 1) (Z' 36 1) ∧ CTB Z' (Z' 36 1) ∧ (-2147483648) ≤ z ∧ z ≤ 2147483647 ∧ (((n : Nat) : Int) ≤ ((n' : Nat) : Int) ∧ ((s : Nat) : Int) ≤ ((s' : Nat) : Int) ∧ ((s' : Nat) : Int) ≤ ((s : Nat) : Int) + 900 * (((n' : Nat) : Int) - ((n : Nat) : Int)) ∧ 3 * (((n' : Nat) : Int) - ((n : Nat) : Int)) + Z' 1 1 ≤ Z 1 1 + 6 ∧ ((x0 < 0 ∨ Z 1 1 < x0) → Z' 1 1 = Z 1 1 ∧ z = -3 ∧ Z' 1 2 = Z 1 2 ∧ Z' 1 3 = Z 1 3) ∧ (¬ (x0 < 0 ∨ Z 1 1 < x0) → Z' 1 1 = 0))) := by
  obtain ⟨r, hca, z, n', s', S', Z', h', e, q⟩ := Jmt (B := tB l D b0 ad Hb tau) (M := mt_90) (mi := 90) (as := [.ref 1, xI x0]) (d := d + 107) (ls := [some (.ref 1), some (xI x0)]) rfl rfl rfl rfl rfl rfl (cw_90_1 (l := l) (D := D) (b0 := b0) (ad := ad) (Hb := Hb) (tau := tau) (d := d) (Post := fun r => ∃ (z : Int) (n' s' : Nat) (S' : Nat → xS) (Z' : xZ) (h' : mx_H), r = (some (xI z), h') ∧ XH n' s' S' Z' h' ∧ GI n' S' Z' ∧ fr8 [(1, 1), (1, 2), (1, 3), (3, 0), (3, 1), (3, 2), (3, 3), (3, 4), (3, 5), (3, 7), (3, 8), (3, 9), (3, 10), (3, 12), (3, 13), (3, 14), (3, 15), (5, (-1)), (6, (-1)), (7, 4), (7, 5), (9, (-1)), (10, (-1)), (11, (-1)), (12, 1), (12, 2), (17, (-1)), (36, 0), (36, 1), (36, 2), (36, 3), (36, 4), (40, 1)] Z Z' ∧ ((¬ (x0 < 0 ∨ Z 1 1 < x0) → BR T x0 z (Z' 1 2) (Z' 1 3)) ∧ BST T x0 z (Z 36 1) (Z' 36 1) ∧ CTB Z' (Z' 36 1) ∧ (-2147483648) ≤ z ∧ z ≤ 2147483647 ∧ (((n : Nat) : Int) ≤ ((n' : Nat) : Int) ∧ ((s : Nat) : Int) ≤ ((s' : Nat) : Int) ∧ ((s' : Nat) : Int) ≤ ((s : Nat) : Int) + 900 * (((n' : Nat) : Int) - ((n : Nat) : Int)) ∧ 3 * (((n' : Nat) : Int) - ((n : Nat) : Int)) + Z' 1 1 ≤ Z 1 1 + 6 ∧ ((x0 < 0 ∨ Z 1 1 < x0) → Z' 1 1 = Z 1 1 ∧ z = -3 ∧ Z' 1 2 = Z 1 2 ∧ Z' 1 3 = Z 1 3) ∧ (¬ (x0 < 0 ∨ Z 1 1 < x0) → Z' 1 1 = 0)))) hx hG p0 k0 k1 k2 (fun z n' s' S' Z' h' q1 q2 q3 q4 => ⟨z, n', s', S', Z', h', rfl, q1, q2, q3, q4⟩))
  subst e; exact ⟨z, n', s', S', Z', h', hca, q⟩
set_option maxRecDepth 100000 in
theorem cw_11_D {l : Launch} {D : va_G} {b0 : Nat} {ad : Nat → Nat} {Hb : Heap} {tau : Nat → Int64} {d n s : Nat} {S : Nat → xS} {Z : xZ} {h : mx_H} {Post : mx_R → Prop} (hx : XH n s S Z h) (hG : GI n S Z) {r0 : Nat} (or0 : 83 ≤ r0) (ar0 : r0 < n) (sr0 : S r0 = .inl (1, [0])) {x0 : Int} (p0 : (-2147483648) ≤ x0 ∧ x0 ≤ 2147483647) (hP : ∀ (Z' : xZ) (h' : mx_H), XH n s S Z' h' → GI n S Z' → fr8 [] Z Z' → Post (none, h')) : mx_J (tB l D b0 ad Hb tau) mt_11 (d + 1) 0 [some (.ref r0), some (xI x0)] [] h Post := by
    refine mx_J.step (sn_11 0) (fun _ _ => rfl) ?_
    refine Jobj (show mx_Sn _ _ 1 (mx_objinit 4) from sn_11 1) ⟨_, rfl⟩ rfl ?_
    refine mx_J.step (sn_11 4) (fun _ _ => rfl) ?_
    refine mx_J.step (sn_11 5) (fun _ _ => rfl) ?_
    refine JputI (g := 0) hx (show mx_Sn _ _ 6 (mx_putf 1 1 0 (.int) 9) from sn_11 6) ar0 sr0 (Bool.eq_false_iff.mpr (fun q => by have q : r0 + 1 ≤ 1 := Nat.ble_eq.mp q; omega)) rfl rfl rfl (fun Z1 h1 hx1 hE1 => ?_)
    have hG1 := GI_upD hG hE1 or0 (by omega) (fun len e => by rw [sr0] at e; cases e) (fun e => by rw [sr0] at e; cases e)
    exact mx_J.ret (sn_11 9) (fun _ _ => rfl) (hP Z1 h1 hx1 hG1 (fr8_tr (M := []) fr8_rf (fr8_upD hE1 or0) (M1 := []) rfl rfl))
theorem ct_11_D {l : Launch} {D : va_G} {b0 : Nat} {ad : Nat → Nat} {Hb : Heap} {tau : Nat → Int64} {d n s : Nat} {S : Nat → xS} {Z : xZ} {h : mx_H} (hx : XH n s S Z h) (hG : GI n S Z) {r0 : Nat} (or0 : 83 ≤ r0) (ar0 : r0 < n) (sr0 : S r0 = .inl (1, [0])) {x0 : Int} (p0 : (-2147483648) ≤ x0 ∧ x0 ≤ 2147483647) : ∃ (Z' : xZ) (h' : mx_H), mx_Ca (tB l D b0 ad Hb tau) (d + 2) 11 [.ref r0, xI x0] h (none, h') ∧ XH n s S Z' h' ∧ GI n S Z' ∧ fr8 [] Z Z' := by
  obtain ⟨r, hca, Z', h', e, q⟩ := Jmt (B := tB l D b0 ad Hb tau) (M := mt_11) (mi := 11) (as := [.ref r0, xI x0]) (d := d + 1) (ls := [some (.ref r0), some (xI x0)]) rfl rfl rfl rfl rfl rfl (cw_11_D (l := l) (D := D) (b0 := b0) (ad := ad) (Hb := Hb) (tau := tau) (d := d) (Post := fun r => ∃ (Z' : xZ) (h' : mx_H), r = (none, h') ∧ XH n s S Z' h' ∧ GI n S Z' ∧ fr8 [] Z Z') hx hG or0 ar0 sr0 p0 (fun Z' h' q1 q2 q3 => ⟨Z', h', rfl, q1, q2, q3⟩))
  subst e; exact ⟨Z', h', hca, q⟩
set_option maxRecDepth 100000 in
theorem cw_12_D_i6 {l : Launch} {D : va_G} {b0 : Nat} {ad : Nat → Nat} {Hb : Heap} {tau : Nat → Int64} {d n s : Nat} {S : Nat → xS} {Z : xZ} {h : mx_H} {Post : mx_R → Prop} (hx : XH n s S Z h) (hG : GI n S Z) {r0 : Nat} (or0 : 83 ≤ r0) (ar0 : r0 < n) (sr0 : S r0 = .inl (1, [0]))  (hP : ∀ (z : Int) (Z' : xZ) (h' : mx_H), XH n s S Z' h' → GI n S Z' → fr8 [] Z Z' → 0 ≤ z ∧ z ≤ 5 → Post (some (xI z), h')) : mx_J (tB l D b0 ad Hb tau) mt_12 (d + 0) 0 [some (.ref r0), some (xI 6)] [] h Post := by
    refine mx_J.step (sn_12 0) (fun _ _ => rfl) ?_
    refine JcI (z := 1103515245) (show mx_Sn _ _ 1 (mx_const (.int 1103515245) 3) from sn_12 1) rfl ?_
    refine mx_J.step (sn_12 3) (fun _ _ => rfl) ?_
    refine JgetI (g := 0) (z := Z r0 0) hx (show mx_Sn _ _ 4 (mx_getf 1 0 7) from sn_12 4) ar0 sr0 rfl rfl rfl ?_
    refine JimulN (show mx_Sn _ _ 7 (mx_imul 8) from sn_12 7) (fun y2 hy2 hq2 => ?_)
    refine JcI (z := 12345) (show mx_Sn _ _ 8 (mx_const (.int 12345) 11) from sn_12 8) rfl ?_
    refine JiaddN (show mx_Sn _ _ 11 (mx_iadd 12) from sn_12 11) (fun y3 hy3 hq3 => ?_)
    refine JputI (g := 0) hx (show mx_Sn _ _ 12 (mx_putf 1 1 0 (.int) 15) from sn_12 12) ar0 sr0 (Bool.eq_false_iff.mpr (fun q => by have q : r0 + 1 ≤ 1 := Nat.ble_eq.mp q; omega)) rfl rfl rfl (fun Z4 h4 hx4 hE4 => ?_)
    have hG4 := GI_upD hG hE4 or0 (by omega) (fun len e => by rw [sr0] at e; cases e) (fun e => by rw [sr0] at e; cases e)
    refine mx_J.step (sn_12 15) (fun _ _ => rfl) ?_
    refine JgetI (g := 0) (z := y3) hx4 (show mx_Sn _ _ 16 (mx_getf 1 0 19) from sn_12 16) ar0 sr0 rfl rfl (up_at hE4) ?_
    refine JcI (z := 16) (show mx_Sn _ _ 19 (mx_const (.int 16) 21) from sn_12 19) rfl ?_
    refine Jiushr16 (show mx_Sn _ _ 21 (mx_iushr 22) from sn_12 21) (fun y6 hy6 => ?_)
    refine mx_J.step (sn_12 22) (fun _ _ => rfl) ?_
    refine Jirem (show mx_Sn _ _ 23 (mx_irem 24) from sn_12 23) (by omega) (by omega) ?_
    exact mx_J.ret (sn_12 24) (fun _ _ => rfl) (hP (y6 % 6) Z4 h4 hx4 hG4 (fr8_tr (M := []) fr8_rf (fr8_upD hE4 or0) (M1 := []) rfl rfl) (by omega))
theorem ct_12_D_i6 {l : Launch} {D : va_G} {b0 : Nat} {ad : Nat → Nat} {Hb : Heap} {tau : Nat → Int64} {d n s : Nat} {S : Nat → xS} {Z : xZ} {h : mx_H} (hx : XH n s S Z h) (hG : GI n S Z) {r0 : Nat} (or0 : 83 ≤ r0) (ar0 : r0 < n) (sr0 : S r0 = .inl (1, [0]))  : ∃ (z : Int) (Z' : xZ) (h' : mx_H), mx_Ca (tB l D b0 ad Hb tau) (d + 1) 12 [.ref r0, xI 6] h (some (xI z), h') ∧ XH n s S Z' h' ∧ GI n S Z' ∧ fr8 [] Z Z' ∧ (0 ≤ z ∧ z ≤ 5) := by
  obtain ⟨r, hca, z, Z', h', e, q⟩ := Jmt (B := tB l D b0 ad Hb tau) (M := mt_12) (mi := 12) (as := [.ref r0, xI 6]) (d := d + 0) (ls := [some (.ref r0), some (xI 6)]) rfl rfl rfl rfl rfl rfl (cw_12_D_i6 (l := l) (D := D) (b0 := b0) (ad := ad) (Hb := Hb) (tau := tau) (d := d) (Post := fun r => ∃ (z : Int) (Z' : xZ) (h' : mx_H), r = (some (xI z), h') ∧ XH n s S Z' h' ∧ GI n S Z' ∧ fr8 [] Z Z' ∧ (0 ≤ z ∧ z ≤ 5)) hx hG or0 ar0 sr0 (fun z Z' h' q1 q2 q3 q4 => ⟨z, Z', h', rfl, q1, q2, q3, q4⟩))
  subst e; exact ⟨z, Z', h', hca, q⟩
set_option maxRecDepth 100000 in
theorem cw_12_D_i8 {l : Launch} {D : va_G} {b0 : Nat} {ad : Nat → Nat} {Hb : Heap} {tau : Nat → Int64} {d n s : Nat} {S : Nat → xS} {Z : xZ} {h : mx_H} {Post : mx_R → Prop} (hx : XH n s S Z h) (hG : GI n S Z) {r0 : Nat} (or0 : 83 ≤ r0) (ar0 : r0 < n) (sr0 : S r0 = .inl (1, [0]))  (hP : ∀ (z : Int) (Z' : xZ) (h' : mx_H), XH n s S Z' h' → GI n S Z' → fr8 [] Z Z' → 0 ≤ z ∧ z ≤ 7 → Post (some (xI z), h')) : mx_J (tB l D b0 ad Hb tau) mt_12 (d + 0) 0 [some (.ref r0), some (xI 8)] [] h Post := by
    refine mx_J.step (sn_12 0) (fun _ _ => rfl) ?_
    refine JcI (z := 1103515245) (show mx_Sn _ _ 1 (mx_const (.int 1103515245) 3) from sn_12 1) rfl ?_
    refine mx_J.step (sn_12 3) (fun _ _ => rfl) ?_
    refine JgetI (g := 0) (z := Z r0 0) hx (show mx_Sn _ _ 4 (mx_getf 1 0 7) from sn_12 4) ar0 sr0 rfl rfl rfl ?_
    refine JimulN (show mx_Sn _ _ 7 (mx_imul 8) from sn_12 7) (fun y2 hy2 hq2 => ?_)
    refine JcI (z := 12345) (show mx_Sn _ _ 8 (mx_const (.int 12345) 11) from sn_12 8) rfl ?_
    refine JiaddN (show mx_Sn _ _ 11 (mx_iadd 12) from sn_12 11) (fun y3 hy3 hq3 => ?_)
    refine JputI (g := 0) hx (show mx_Sn _ _ 12 (mx_putf 1 1 0 (.int) 15) from sn_12 12) ar0 sr0 (Bool.eq_false_iff.mpr (fun q => by have q : r0 + 1 ≤ 1 := Nat.ble_eq.mp q; omega)) rfl rfl rfl (fun Z4 h4 hx4 hE4 => ?_)
    have hG4 := GI_upD hG hE4 or0 (by omega) (fun len e => by rw [sr0] at e; cases e) (fun e => by rw [sr0] at e; cases e)
    refine mx_J.step (sn_12 15) (fun _ _ => rfl) ?_
    refine JgetI (g := 0) (z := y3) hx4 (show mx_Sn _ _ 16 (mx_getf 1 0 19) from sn_12 16) ar0 sr0 rfl rfl (up_at hE4) ?_
    refine JcI (z := 16) (show mx_Sn _ _ 19 (mx_const (.int 16) 21) from sn_12 19) rfl ?_
    refine Jiushr16 (show mx_Sn _ _ 21 (mx_iushr 22) from sn_12 21) (fun y6 hy6 => ?_)
    refine mx_J.step (sn_12 22) (fun _ _ => rfl) ?_
    refine Jirem (show mx_Sn _ _ 23 (mx_irem 24) from sn_12 23) (by omega) (by omega) ?_
    exact mx_J.ret (sn_12 24) (fun _ _ => rfl) (hP (y6 % 8) Z4 h4 hx4 hG4 (fr8_tr (M := []) fr8_rf (fr8_upD hE4 or0) (M1 := []) rfl rfl) (by omega))
theorem ct_12_D_i8 {l : Launch} {D : va_G} {b0 : Nat} {ad : Nat → Nat} {Hb : Heap} {tau : Nat → Int64} {d n s : Nat} {S : Nat → xS} {Z : xZ} {h : mx_H} (hx : XH n s S Z h) (hG : GI n S Z) {r0 : Nat} (or0 : 83 ≤ r0) (ar0 : r0 < n) (sr0 : S r0 = .inl (1, [0]))  : ∃ (z : Int) (Z' : xZ) (h' : mx_H), mx_Ca (tB l D b0 ad Hb tau) (d + 1) 12 [.ref r0, xI 8] h (some (xI z), h') ∧ XH n s S Z' h' ∧ GI n S Z' ∧ fr8 [] Z Z' ∧ (0 ≤ z ∧ z ≤ 7) := by
  obtain ⟨r, hca, z, Z', h', e, q⟩ := Jmt (B := tB l D b0 ad Hb tau) (M := mt_12) (mi := 12) (as := [.ref r0, xI 8]) (d := d + 0) (ls := [some (.ref r0), some (xI 8)]) rfl rfl rfl rfl rfl rfl (cw_12_D_i8 (l := l) (D := D) (b0 := b0) (ad := ad) (Hb := Hb) (tau := tau) (d := d) (Post := fun r => ∃ (z : Int) (Z' : xZ) (h' : mx_H), r = (some (xI z), h') ∧ XH n s S Z' h' ∧ GI n S Z' ∧ fr8 [] Z Z' ∧ (0 ≤ z ∧ z ≤ 7)) hx hG or0 ar0 sr0 (fun z Z' h' q1 q2 q3 q4 => ⟨z, Z', h', rfl, q1, q2, q3, q4⟩))
  subst e; exact ⟨z, Z', h', hca, q⟩
set_option maxRecDepth 100000 in
theorem cw_12_D_i10 {l : Launch} {D : va_G} {b0 : Nat} {ad : Nat → Nat} {Hb : Heap} {tau : Nat → Int64} {d n s : Nat} {S : Nat → xS} {Z : xZ} {h : mx_H} {Post : mx_R → Prop} (hx : XH n s S Z h) (hG : GI n S Z) {r0 : Nat} (or0 : 83 ≤ r0) (ar0 : r0 < n) (sr0 : S r0 = .inl (1, [0]))  (hP : ∀ (z : Int) (Z' : xZ) (h' : mx_H), XH n s S Z' h' → GI n S Z' → fr8 [] Z Z' → 0 ≤ z ∧ z ≤ 9 → Post (some (xI z), h')) : mx_J (tB l D b0 ad Hb tau) mt_12 (d + 0) 0 [some (.ref r0), some (xI 10)] [] h Post := by
    refine mx_J.step (sn_12 0) (fun _ _ => rfl) ?_
    refine JcI (z := 1103515245) (show mx_Sn _ _ 1 (mx_const (.int 1103515245) 3) from sn_12 1) rfl ?_
    refine mx_J.step (sn_12 3) (fun _ _ => rfl) ?_
    refine JgetI (g := 0) (z := Z r0 0) hx (show mx_Sn _ _ 4 (mx_getf 1 0 7) from sn_12 4) ar0 sr0 rfl rfl rfl ?_
    refine JimulN (show mx_Sn _ _ 7 (mx_imul 8) from sn_12 7) (fun y2 hy2 hq2 => ?_)
    refine JcI (z := 12345) (show mx_Sn _ _ 8 (mx_const (.int 12345) 11) from sn_12 8) rfl ?_
    refine JiaddN (show mx_Sn _ _ 11 (mx_iadd 12) from sn_12 11) (fun y3 hy3 hq3 => ?_)
    refine JputI (g := 0) hx (show mx_Sn _ _ 12 (mx_putf 1 1 0 (.int) 15) from sn_12 12) ar0 sr0 (Bool.eq_false_iff.mpr (fun q => by have q : r0 + 1 ≤ 1 := Nat.ble_eq.mp q; omega)) rfl rfl rfl (fun Z4 h4 hx4 hE4 => ?_)
    have hG4 := GI_upD hG hE4 or0 (by omega) (fun len e => by rw [sr0] at e; cases e) (fun e => by rw [sr0] at e; cases e)
    refine mx_J.step (sn_12 15) (fun _ _ => rfl) ?_
    refine JgetI (g := 0) (z := y3) hx4 (show mx_Sn _ _ 16 (mx_getf 1 0 19) from sn_12 16) ar0 sr0 rfl rfl (up_at hE4) ?_
    refine JcI (z := 16) (show mx_Sn _ _ 19 (mx_const (.int 16) 21) from sn_12 19) rfl ?_
    refine Jiushr16 (show mx_Sn _ _ 21 (mx_iushr 22) from sn_12 21) (fun y6 hy6 => ?_)
    refine mx_J.step (sn_12 22) (fun _ _ => rfl) ?_
    refine Jirem (show mx_Sn _ _ 23 (mx_irem 24) from sn_12 23) (by omega) (by omega) ?_
    exact mx_J.ret (sn_12 24) (fun _ _ => rfl) (hP (y6 % 10) Z4 h4 hx4 hG4 (fr8_tr (M := []) fr8_rf (fr8_upD hE4 or0) (M1 := []) rfl rfl) (by omega))
theorem ct_12_D_i10 {l : Launch} {D : va_G} {b0 : Nat} {ad : Nat → Nat} {Hb : Heap} {tau : Nat → Int64} {d n s : Nat} {S : Nat → xS} {Z : xZ} {h : mx_H} (hx : XH n s S Z h) (hG : GI n S Z) {r0 : Nat} (or0 : 83 ≤ r0) (ar0 : r0 < n) (sr0 : S r0 = .inl (1, [0]))  : ∃ (z : Int) (Z' : xZ) (h' : mx_H), mx_Ca (tB l D b0 ad Hb tau) (d + 1) 12 [.ref r0, xI 10] h (some (xI z), h') ∧ XH n s S Z' h' ∧ GI n S Z' ∧ fr8 [] Z Z' ∧ (0 ≤ z ∧ z ≤ 9) := by
  obtain ⟨r, hca, z, Z', h', e, q⟩ := Jmt (B := tB l D b0 ad Hb tau) (M := mt_12) (mi := 12) (as := [.ref r0, xI 10]) (d := d + 0) (ls := [some (.ref r0), some (xI 10)]) rfl rfl rfl rfl rfl rfl (cw_12_D_i10 (l := l) (D := D) (b0 := b0) (ad := ad) (Hb := Hb) (tau := tau) (d := d) (Post := fun r => ∃ (z : Int) (Z' : xZ) (h' : mx_H), r = (some (xI z), h') ∧ XH n s S Z' h' ∧ GI n S Z' ∧ fr8 [] Z Z' ∧ (0 ≤ z ∧ z ≤ 9)) hx hG or0 ar0 sr0 (fun z Z' h' q1 q2 q3 q4 => ⟨z, Z', h', rfl, q1, q2, q3, q4⟩))
  subst e; exact ⟨z, Z', h', hca, q⟩
set_option maxRecDepth 100000 in
theorem cw_13_D {l : Launch} {D : va_G} {b0 : Nat} {ad : Nat → Nat} {Hb : Heap} {tau : Nat → Int64} {d n s : Nat} {S : Nat → xS} {Z : xZ} {h : mx_H} {Post : mx_R → Prop} (hx : XH n s S Z h) (hG : GI n S Z) {r0 : Nat} (or0 : 83 ≤ r0) (ar0 : r0 < n) (sr0 : S r0 = .inl (1, [0]))  (hP : ∀ (z : Int) (Z' : xZ) (h' : mx_H), XH n s S Z' h' → GI n S Z' → fr8 [] Z Z' → 0 ≤ z ∧ z ≤ 3505 → Post (some (xI z), h')) : mx_J (tB l D b0 ad Hb tau) mt_13 (d + 1) 0 [some (.ref r0), none, none] [] h Post := by
    refine mx_J.step (sn_13 0) (fun _ _ => rfl) ?_
    refine JcI (z := 6) (show mx_Sn _ _ 1 (mx_const (.int 6) 3) from sn_13 1) rfl ?_
    obtain ⟨z1, Z1, h1, hc1, hx1, hG1, hf1, b1⟩ := ct_12_D_i6 (d := d + 0) (l := l) (D := D) (b0 := b0) (ad := ad) (Hb := Hb) (tau := tau) hx hG or0 ar0 sr0 
    refine Jcv hx (show mx_Sn _ _ 3 (mx_callv 12 2 1 6) from sn_13 3) ar0 sr0 hc1 rfl rfl rfl ?_
    refine mx_J.step (ls2 := [some (.ref r0), some (xI z1), none]) (sn_13 6) (fun _ _ => rfl) ?_
    refine mx_J.step (sn_13 7) (fun _ _ => rfl) ?_
    refine JcI (z := 3) (show mx_Sn _ _ 8 (mx_const (.int 3) 9) from sn_13 8) rfl ?_
    refine Jicmp_ne (show mx_Sn _ _ 9 (mx_icmp_ne 19 12) from sn_13 9) (by omega) (by omega) (fun q2 => ?_) (fun q2 => ?_)
    · skip
      refine mx_J.step (sn_13 19) (fun _ _ => rfl) ?_
      refine JcI (z := 4) (show mx_Sn _ _ 20 (mx_const (.int 4) 21) from sn_13 20) rfl ?_
      refine Jicmp_ne (show mx_Sn _ _ 21 (mx_icmp_ne 34 24) from sn_13 21) (by omega) (by omega) (fun q3 => ?_) (fun q3 => ?_)
      · skip
        refine mx_J.step (sn_13 34) (fun _ _ => rfl) ?_
        refine JcI (z := 5) (show mx_Sn _ _ 35 (mx_const (.int 5) 36) from sn_13 35) rfl ?_
        refine Jicmp_ne (show mx_Sn _ _ 36 (mx_icmp_ne 62 39) from sn_13 36) (by omega) (by omega) (fun q4 => ?_) (fun q4 => ?_)
        · skip
          refine JcI (z := 0) (show mx_Sn _ _ 62 (mx_const (.int 0) 63) from sn_13 62) rfl ?_
          exact mx_J.ret (sn_13 63) (fun _ _ => rfl) (hP 0 Z1 h1 hx1 hG1 (fr8_tr (M := []) fr8_rf (hf1) (M1 := []) rfl rfl) (by omega))
        · skip
          refine mx_J.step (sn_13 39) (fun _ _ => rfl) ?_
          refine JcI (z := 6) (show mx_Sn _ _ 40 (mx_const (.int 6) 42) from sn_13 40) rfl ?_
          obtain ⟨z5, Z5, h5, hc5, hx5, hG5, hf5, b5⟩ := ct_12_D_i6 (d := d + 0) (l := l) (D := D) (b0 := b0) (ad := ad) (Hb := Hb) (tau := tau) hx1 hG1 or0 ar0 sr0 
          refine Jcv hx1 (show mx_Sn _ _ 42 (mx_callv 12 2 1 45) from sn_13 42) ar0 sr0 hc5 rfl rfl rfl ?_
          refine mx_J.step (ls2 := [some (.ref r0), some (xI z1), some (xI z5)]) (sn_13 45) (fun _ _ => rfl) ?_
          refine JcI (z := 3000) (show mx_Sn _ _ 46 (mx_const (.int 3000) 49) from sn_13 46) rfl ?_
          refine JcI (z := 100) (show mx_Sn _ _ 49 (mx_const (.int 100) 51) from sn_13 49) rfl ?_
          refine mx_J.step (sn_13 51) (fun _ _ => rfl) ?_
          refine Jimul (show mx_Sn _ _ 52 (mx_imul 53) from sn_13 52) ?_
          refine Jiadd (show mx_Sn _ _ 53 (mx_iadd 54) from sn_13 53) ?_
          refine mx_J.step (sn_13 54) (fun _ _ => rfl) ?_
          refine JcI (z := 6) (show mx_Sn _ _ 55 (mx_const (.int 6) 57) from sn_13 55) rfl ?_
          obtain ⟨z6, Z6, h6, hc6, hx6, hG6, hf6, b6⟩ := ct_12_D_i6 (d := d + 0) (l := l) (D := D) (b0 := b0) (ad := ad) (Hb := Hb) (tau := tau) hx5 hG5 or0 ar0 sr0 
          refine Jcv hx5 (show mx_Sn _ _ 57 (mx_callv 12 2 1 60) from sn_13 57) ar0 sr0 hc6 rfl rfl rfl ?_
          refine Jiadd (show mx_Sn _ _ 60 (mx_iadd 61) from sn_13 60) ?_
          exact mx_J.ret (sn_13 61) (fun _ _ => rfl) (hP ((3000 + (100 * z5)) + z6) Z6 h6 hx6 hG6 (fr8_tr (M := []) (fr8_tr (M := []) (fr8_tr (M := []) fr8_rf (hf1) (M1 := []) rfl rfl) (hf5) rfl rfl) (hf6) rfl rfl) (by omega))
      · skip
        refine JcI (z := 20) (show mx_Sn _ _ 24 (mx_const (.int 20) 26) from sn_13 24) rfl ?_
        refine mx_J.step (sn_13 26) (fun _ _ => rfl) ?_
        refine JcI (z := 10) (show mx_Sn _ _ 27 (mx_const (.int 10) 29) from sn_13 27) rfl ?_
        obtain ⟨z7, Z7, h7, hc7, hx7, hG7, hf7, b7⟩ := ct_12_D_i10 (d := d + 0) (l := l) (D := D) (b0 := b0) (ad := ad) (Hb := Hb) (tau := tau) hx1 hG1 or0 ar0 sr0 
        refine Jcv hx1 (show mx_Sn _ _ 29 (mx_callv 12 2 1 32) from sn_13 29) ar0 sr0 hc7 rfl rfl rfl ?_
        refine Jiadd (show mx_Sn _ _ 32 (mx_iadd 33) from sn_13 32) ?_
        exact mx_J.ret (sn_13 33) (fun _ _ => rfl) (hP (20 + z7) Z7 h7 hx7 hG7 (fr8_tr (M := []) (fr8_tr (M := []) fr8_rf (hf1) (M1 := []) rfl rfl) (hf7) rfl rfl) (by omega))
    · skip
      refine mx_J.step (sn_13 12) (fun _ _ => rfl) ?_
      refine JcI (z := 8) (show mx_Sn _ _ 13 (mx_const (.int 8) 15) from sn_13 13) rfl ?_
      obtain ⟨z8, Z8, h8, hc8, hx8, hG8, hf8, b8⟩ := ct_12_D_i8 (d := d + 0) (l := l) (D := D) (b0 := b0) (ad := ad) (Hb := Hb) (tau := tau) hx1 hG1 or0 ar0 sr0 
      refine Jcv hx1 (show mx_Sn _ _ 15 (mx_callv 12 2 1 18) from sn_13 15) ar0 sr0 hc8 rfl rfl rfl ?_
      exact mx_J.ret (sn_13 18) (fun _ _ => rfl) (hP z8 Z8 h8 hx8 hG8 (fr8_tr (M := []) (fr8_tr (M := []) fr8_rf (hf1) (M1 := []) rfl rfl) (hf8) rfl rfl) (by omega))
theorem ct_13_D {l : Launch} {D : va_G} {b0 : Nat} {ad : Nat → Nat} {Hb : Heap} {tau : Nat → Int64} {d n s : Nat} {S : Nat → xS} {Z : xZ} {h : mx_H} (hx : XH n s S Z h) (hG : GI n S Z) {r0 : Nat} (or0 : 83 ≤ r0) (ar0 : r0 < n) (sr0 : S r0 = .inl (1, [0]))  : ∃ (z : Int) (Z' : xZ) (h' : mx_H), mx_Ca (tB l D b0 ad Hb tau) (d + 2) 13 [.ref r0] h (some (xI z), h') ∧ XH n s S Z' h' ∧ GI n S Z' ∧ fr8 [] Z Z' ∧ (0 ≤ z ∧ z ≤ 3505) := by
  obtain ⟨r, hca, z, Z', h', e, q⟩ := Jmt (B := tB l D b0 ad Hb tau) (M := mt_13) (mi := 13) (as := [.ref r0]) (d := d + 1) (ls := [some (.ref r0), none, none]) rfl rfl rfl rfl rfl rfl (cw_13_D (l := l) (D := D) (b0 := b0) (ad := ad) (Hb := Hb) (tau := tau) (d := d) (Post := fun r => ∃ (z : Int) (Z' : xZ) (h' : mx_H), r = (some (xI z), h') ∧ XH n s S Z' h' ∧ GI n S Z' ∧ fr8 [] Z Z' ∧ (0 ≤ z ∧ z ≤ 3505)) hx hG or0 ar0 sr0 (fun z Z' h' q1 q2 q3 q4 => ⟨z, Z', h', rfl, q1, q2, q3, q4⟩))
  subst e; exact ⟨z, Z', h', hca, q⟩
set_option maxHeartbeats 8000000 in
set_option maxRecDepth 100000 in
theorem cw_103_1 {l : Launch} {D : va_G} {b0 : Nat} {ad : Nat → Nat} {Hb : Heap} {tau : Nat → Int64} {d n s : Nat} {S : Nat → xS} {Z : xZ} {h : mx_H} {Post : mx_R → Prop} (hx : XH n s S Z h) (hG : GI n S Z)  {x0 x1 : Int} (p0 : (-2147483648) ≤ x0 ∧ x0 ≤ 2147483647) (p1 : (-2147483648) ≤ x1 ∧ x1 ≤ 2147483647) (k0 : ((n : Nat) : Int) ≤ 4095) (hP : ∀ (z : Int) (n' s' : Nat) (S' : Nat → xS) (Z' : xZ) (h' : mx_H), XH n' s' S' Z' h' → GI n' S' Z' → fr8 [(12, 2), (14, (-1)), (16, (-1)), (17, (-1)), (18, (-1)), (19, (-1)), (36, 0), (36, 1), (36, 2), (36, 3), (36, 4), (38, 0), (38, 1), (38, 2), (38, 3), (38, 4), (40, 1), (41, (-1)), (42, (-1))] Z Z' → (-2147483648) ≤ z ∧ z ≤ 2147483647 ∧ (((n : Nat) : Int) ≤ ((n' : Nat) : Int) ∧ ((s : Nat) : Int) ≤ ((s' : Nat) : Int) ∧ ((s' : Nat) : Int) ≤ ((s : Nat) : Int) + 900 * (((n' : Nat) : Int) - ((n : Nat) : Int)) ∧ ((n' : Nat) : Int) ≤ ((n : Nat) : Int) + 1 ∧ Z' 36 1 = Z 36 1) → Post (some (xI z), h')) : mx_J (tB l D b0 ad Hb tau) mt_103 (d + 6) 0 [some (.ref 1), some (xI x0), some (xI x1), none, none, none] [] h Post := by
    refine mx_J.step (sn_103 0) (fun _ _ => rfl) ?_
    refine JcI (z := 1) (show mx_Sn _ _ 1 (mx_const (.int 1) 2) from sn_103 1) rfl ?_
    have c11 : mx_J (tB l D b0 ad Hb tau) mt_103 (d + 6) 11 [some (.ref 1), some (xI x0), some (xI x1), none, none, none] [] h Post := by
      refine JcI (z := (-3)) (show mx_Sn _ _ 11 (mx_const (.int (-3)) 13) from sn_103 11) rfl ?_
      have b2 : 1 ≤ Z 36 1 ∧ Z 36 1 ≤ 18 := hG.pr 36 1
      exact mx_J.ret (sn_103 13) (fun _ _ => rfl) (hP (-3) n s S Z h hx hG fr8_rf (by omega))
    refine Jicmp_lt (show mx_Sn _ _ 2 (mx_icmp_lt 11 5) from sn_103 2) (by omega) (by omega) (fun q3 => ?_) (fun q3 => ?_)
    · skip
      exact c11 
    · skip
      refine mx_J.step (sn_103 5) (fun _ _ => rfl) ?_
      refine JcI (z := 40) (show mx_Sn _ _ 6 (mx_const (.int 40) 8) from sn_103 6) rfl ?_
      refine Jicmp_le (show mx_Sn _ _ 8 (mx_icmp_le 14 11) from sn_103 8) (by omega) (by omega) (fun q4 => ?_) (fun q4 => ?_)
      · skip
        refine mx_J.step (sn_103 14) (fun _ _ => rfl) ?_
        refine JgetR (g := 13) (b := 38) hx (show mx_Sn _ _ 15 (mx_getf 11 13 18) from sn_103 15) (lt83 (GI_n hG) rfl) (show S 1 = .inl (11, [2, 0, 0, 0, 2, 2, 2, 2, 2, 2, 2, 2, 2, 2, 2, 2, 2]) from GI_s hG 1 rfl) rfl rfl (hG.prr 1 13 rfl) ?_
        refine mx_J.step (sn_103 18) (fun _ _ => rfl) ?_
        refine JgetR (g := 12) (b := 36) hx (show mx_Sn _ _ 19 (mx_getf 11 12 22) from sn_103 19) (lt83 (GI_n hG) rfl) (show S 1 = .inl (11, [2, 0, 0, 0, 2, 2, 2, 2, 2, 2, 2, 2, 2, 2, 2, 2, 2]) from GI_s hG 1 rfl) rfl rfl (hG.prr 1 12 rfl) ?_
        have b8 : 1 ≤ Z 36 1 ∧ Z 36 1 ≤ 18 := hG.pr 36 1
        obtain ⟨Z7, h7, hc7, hx7, hG7, hf7, b7⟩ := ct_33_38_36 (d := d + 5) (l := l) (D := D) (b0 := b0) (ad := ad) (Hb := Hb) (tau := tau) hx hG 
        have b9 : 1 ≤ Z7 38 1 ∧ Z7 38 1 ≤ 18 := hG7.pr 38 1
        refine Jcv0 hx (show mx_Sn _ _ 22 (mx_callv 33 2 5 25) from sn_103 22) (lt83 (GI_n hG) rfl) (show S 38 = .inl (5, [2, 0, 0, 0, 0, 0]) from GI_s hG 38 rfl) hc7 rfl rfl rfl ?_
        refine JnewD hx7 hG7 (show mx_Sn _ _ 25 (mx_new 1 1 [.int 0] 28) from sn_103 25) (by omega) (fun n10 s10 S10 Z10 h10 en10 es10 hx10 hG10 hf10 or10 ar10 sr10 => ?_)
        obtain ⟨r10, er10⟩ : ∃ q, q = n := ⟨_, rfl⟩
        rw [← er10] at or10 ar10 sr10 ⊢
        refine mx_J.step (sn_103 28) (fun _ _ => rfl) ?_
        refine mx_J.step (sn_103 29) (fun _ _ => rfl) ?_
        obtain ⟨Z11, h11, hc11, hx11, hG11, hf11⟩ := ct_11_D (d := d + 4) (l := l) (D := D) (b0 := b0) (ad := ad) (Hb := Hb) (tau := tau) hx10 hG10 or10 ar10 sr10 (show (-2147483648) ≤ x0 ∧ x0 ≤ 2147483647 by omega)
        refine Jci0 (show mx_Sn _ _ 30 (mx_calli 11 2 33) from sn_103 30) hc11 rfl rfl rfl ?_
        refine mx_J.step (ls2 := [some (.ref 1), some (xI x0), some (xI x1), some (.ref r10), none, none]) (sn_103 33) (fun _ _ => rfl) ?_
        refine JcI (z := 0) (show mx_Sn _ _ 34 (mx_const (.int 0) 35) from sn_103 34) rfl ?_
        refine mx_J.step (ls2 := [some (.ref 1), some (xI x0), some (xI x1), some (.ref r10), some (xI 0), none]) (sn_103 35) (fun _ _ => rfl) ?_
        refine JcI (z := 0) (show mx_Sn _ _ 37 (mx_const (.int 0) 38) from sn_103 37) rfl ?_
        refine mx_J.step (ls2 := [some (.ref 1), some (xI x0), some (xI x1), some (.ref r10), some (xI 0), some (xI 0)]) (sn_103 38) (fun _ _ => rfl) ?_
        have c40 : ∀ (m12 : Nat) (w12_4 : Int) (w12_5 : Int) (Z13 : xZ) (h13 : mx_H), 40 - w12_5 < (m12 : Int) → (-2147483648) ≤ w12_4 ∧ w12_4 ≤ 2147483647 → 0 ≤ w12_5 ∧ w12_5 ≤ 40 → XH n10 s10 S10 Z13 h13 → GI n10 S10 Z13 → fr8 [(12, 2), (14, (-1)), (16, (-1)), (17, (-1)), (18, (-1)), (19, (-1)), (38, 2), (38, 3), (38, 4), (42, (-1))] Z11 Z13 → mx_J (tB l D b0 ad Hb tau) mt_103 (d + 6) 40 [some (.ref 1), some (xI x0), some (xI x1), some (.ref r10), some (xI w12_4), some (xI w12_5)] [] h13 Post := by
          intro m12
          induction m12 with
          | zero => intro w12_4 w12_5 Z13 h13 q12 f12_0 f12_1 hx13 hG13 hf13; exact absurd q12 (by omega)
          | succ m12 ih12 =>
            intro w12_4 w12_5 Z13 h13 q12 f12_0 f12_1 hx13 hG13 hf13
            refine mx_J.step (sn_103 40) (fun _ _ => rfl) ?_
            refine mx_J.step (sn_103 42) (fun _ _ => rfl) ?_
            refine Jicmp_ge (show mx_Sn _ _ 43 (mx_icmp_ge 71 46) from sn_103 43) (by omega) (by omega) (fun q14 => ?_) (fun q14 => ?_)
            · skip
              refine mx_J.step (sn_103 71) (fun _ _ => rfl) ?_
              have c80 : ∀  (Z16 : xZ) (h16 : mx_H), (Z16 36 1 = Z 36 1) → XH n10 s10 S10 Z16 h16 → GI n10 S10 Z16 → fr8 [(12, 2), (17, (-1)), (36, 0), (36, 1), (36, 2), (36, 3), (36, 4), (40, 1), (41, (-1))] Z13 Z16 → mx_J (tB l D b0 ad Hb tau) mt_103 (d + 6) 80 [some (.ref 1), some (xI x0), some (xI x1), some (.ref r10), some (xI w12_4), some (xI w12_5)] [] h16 Post := by
                intro Z16 h16 f15_0 hx16 hG16 hf16
                have b17 : 1 ≤ Z16 36 1 ∧ Z16 36 1 ≤ 18 := hG16.pr 36 1
                refine mx_J.step (sn_103 80) (fun _ _ => rfl) ?_
                exact mx_J.ret (sn_103 82) (fun _ _ => rfl) (hP w12_4 n10 s10 S10 Z16 h16 hx16 hG16 (fr8_tr (M := [(12, 2), (14, (-1)), (16, (-1)), (17, (-1)), (18, (-1)), (19, (-1)), (36, 0), (36, 1), (36, 2), (36, 3), (36, 4), (38, 0), (38, 1), (38, 2), (38, 3), (38, 4), (40, 1), (41, (-1)), (42, (-1))]) (fr8_tr (M := [(12, 2), (14, (-1)), (16, (-1)), (17, (-1)), (18, (-1)), (19, (-1)), (36, 0), (36, 1), (36, 2), (36, 3), (36, 4), (38, 0), (38, 1), (38, 2), (38, 3), (38, 4), (40, 1), (41, (-1)), (42, (-1))]) (fr8_tr (M := [(12, 2), (14, (-1)), (16, (-1)), (17, (-1)), (18, (-1)), (19, (-1)), (36, 0), (36, 1), (36, 2), (36, 3), (36, 4), (38, 0), (38, 1), (38, 2), (38, 3), (38, 4), (40, 1), (41, (-1)), (42, (-1))]) (fr8_tr (M := [(12, 2), (14, (-1)), (16, (-1)), (17, (-1)), (18, (-1)), (19, (-1)), (36, 0), (36, 1), (36, 2), (36, 3), (36, 4), (38, 0), (38, 1), (38, 2), (38, 3), (38, 4), (40, 1), (41, (-1)), (42, (-1))]) (fr8_tr (M := [(12, 2), (14, (-1)), (16, (-1)), (17, (-1)), (18, (-1)), (19, (-1)), (36, 0), (36, 1), (36, 2), (36, 3), (36, 4), (38, 0), (38, 1), (38, 2), (38, 3), (38, 4), (40, 1), (41, (-1)), (42, (-1))]) fr8_rf (fr8_of (hf7)) (M1 := []) rfl rfl) (hf10) rfl rfl) (hf11) rfl rfl) (hf13) rfl rfl) (hf16) rfl rfl) (by omega))
              refine Jif_le (show mx_Sn _ _ 73 (mx_if_le 80 76) from sn_103 73) (by omega) (fun q18 => ?_) (fun q18 => ?_)
              · skip
                have eq19 : Z13 36 1 = Z 36 1 := ((hf13 36 1 rfl rfl).trans ((hf11 36 1 rfl rfl).trans ((hf10 36 1 rfl rfl).trans (hf7 36 1 rfl))))
                exact c80 Z13 h13 (by omega) hx13 hG13 fr8_rf
              · skip
                refine mx_J.step (sn_103 76) (fun _ _ => rfl) ?_
                have eq21 : Z13 38 1 = Z7 38 1 := ((hf13 38 1 rfl rfl).trans ((hf11 38 1 rfl rfl).trans (hf10 38 1 rfl rfl)))
                obtain ⟨Z20, h20, hc20, hx20, hG20, hf20, b20⟩ := ct_137_1 (d := d + 3) (l := l) (D := D) (b0 := b0) (ad := ad) (Hb := Hb) (tau := tau) hx13 hG13 
                try rw [eq21] at b20
                have b22 : 1 ≤ Z20 36 1 ∧ Z20 36 1 ≤ 18 := hG20.pr 36 1
                refine Jcv0 hx13 (show mx_Sn _ _ 77 (mx_callv 137 1 11 80) from sn_103 77) (lt83 (GI_n hG13) rfl) (show S10 1 = .inl (11, [2, 0, 0, 0, 2, 2, 2, 2, 2, 2, 2, 2, 2, 2, 2, 2, 2]) from GI_s hG13 1 rfl) hc20 rfl rfl rfl ?_
                exact c80 Z20 h20 (by omega) hx20 hG20 (fr8_tr (M := [(12, 2), (17, (-1)), (36, 0), (36, 1), (36, 2), (36, 3), (36, 4), (40, 1), (41, (-1))]) fr8_rf (fr8_of (hf20)) (M1 := []) rfl rfl)
            · skip
              refine mx_J.step (sn_103 46) (fun _ _ => rfl) ?_
              refine mx_J.step (sn_103 47) (fun _ _ => rfl) ?_
              refine JgetR (g := 13) (b := 38) hx13 (show mx_Sn _ _ 48 (mx_getf 11 13 51) from sn_103 48) (lt83 (GI_n hG13) rfl) (show S10 1 = .inl (11, [2, 0, 0, 0, 2, 2, 2, 2, 2, 2, 2, 2, 2, 2, 2, 2, 2]) from GI_s hG13 1 rfl) rfl rfl (hG13.prr 1 13 rfl) ?_
              refine mx_J.step (sn_103 51) (fun _ _ => rfl) ?_
              obtain ⟨z24, Z24, h24, hc24, hx24, hG24, hf24, b24⟩ := ct_13_D (d := d + 4) (l := l) (D := D) (b0 := b0) (ad := ad) (Hb := Hb) (tau := tau) hx13 hG13 or10 ar10 sr10 
              refine Jcv hx13 (show mx_Sn _ _ 52 (mx_callv 13 1 1 55) from sn_103 52) ar10 sr10 hc24 rfl rfl rfl ?_
              refine Ji2l (show mx_Sn _ _ 55 (mx_i2l 56) from sn_103 55) (by omega) ?_
              obtain ⟨z25, Z25, h25, hc25, hx25, hG25, hf25, b25⟩ := ct_139_1_38 (d := d + 0) (l := l) (D := D) (b0 := b0) (ad := ad) (Hb := Hb) (tau := tau) hx24 hG24 (show (-9223372036854775808) ≤ z24 ∧ z24 ≤ 9223372036854775807 by omega)
              refine Jcv hx24 (show mx_Sn _ _ 56 (mx_callv 139 3 11 59) from sn_103 56) (lt83 (GI_n hG24) rfl) (show S10 1 = .inl (11, [2, 0, 0, 0, 2, 2, 2, 2, 2, 2, 2, 2, 2, 2, 2, 2, 2]) from GI_s hG24 1 rfl) hc25 rfl rfl rfl ?_
              have c65 : ∀ (w26_4 : Int), (-2147483648) ≤ w26_4 ∧ w26_4 ≤ 2147483647 → mx_J (tB l D b0 ad Hb tau) mt_103 (d + 6) 65 [some (.ref 1), some (xI x0), some (xI x1), some (.ref r10), some (xI w26_4), some (xI w12_5)] [] h25 Post := by
                intro w26_4 f26_0
                refine Jiinc (z := w12_5) (cz := 1) (ls2 := [some (.ref 1), some (xI x0), some (xI x1), some (.ref r10), some (xI w26_4), some (xI (w12_5 + 1))]) (show mx_Sn _ _ 65 (mx_iinc 5 1 68) from sn_103 65) rfl rfl rfl rfl ?_
                refine mx_J.step (sn_103 68) (fun _ _ => rfl) ?_
                exact ih12 w26_4 (w12_5 + 1) Z25 h25 (by omega) (by omega) (by omega) hx25 hG25 (fr8_tr (M := [(12, 2), (14, (-1)), (16, (-1)), (17, (-1)), (18, (-1)), (19, (-1)), (38, 2), (38, 3), (38, 4), (42, (-1))]) (fr8_tr (M := [(12, 2), (14, (-1)), (16, (-1)), (17, (-1)), (18, (-1)), (19, (-1)), (38, 2), (38, 3), (38, 4), (42, (-1))]) (fr8_tr (M := [(12, 2), (14, (-1)), (16, (-1)), (17, (-1)), (18, (-1)), (19, (-1)), (38, 2), (38, 3), (38, 4), (42, (-1))]) fr8_rf (hf13) (M1 := []) rfl rfl) (hf24) rfl rfl) (fr8_of (hf25)) rfl rfl)
              refine Jif_ne (show mx_Sn _ _ 59 (mx_if_ne 65 62) from sn_103 59) (by omega) (fun q27 => ?_) (fun q27 => ?_)
              · skip
                exact c65 w12_4 (by omega)
              · skip
                refine JiincN (z := w12_4) (cz := 1) (show mx_Sn _ _ 62 (mx_iinc 4 1 65) from sn_103 62) rfl rfl rfl (fun y28 hy28 hq28 => ?_)
                show mx_J _ _ _ _ [some (.ref 1), some (xI x0), some (xI x1), some (.ref r10), some (xI y28), some (xI w12_5)] _ _ _
                exact c65 y28 (by omega)
        exact c40 (Int.toNat (40 - 0) + 1) 0 0 Z11 h11 (by omega) (by omega) (by omega) hx11 hG11 fr8_rf
      · skip
        exact c11 
theorem ct_103_1 {l : Launch} {D : va_G} {b0 : Nat} {ad : Nat → Nat} {Hb : Heap} {tau : Nat → Int64} {d n s : Nat} {S : Nat → xS} {Z : xZ} {h : mx_H} (hx : XH n s S Z h) (hG : GI n S Z)  {x0 x1 : Int} (p0 : (-2147483648) ≤ x0 ∧ x0 ≤ 2147483647) (p1 : (-2147483648) ≤ x1 ∧ x1 ≤ 2147483647) (k0 : ((n : Nat) : Int) ≤ 4095) : ∃ (z : Int) (n' s' : Nat) (S' : Nat → xS) (Z' : xZ) (h' : mx_H), mx_Ca (tB l D b0 ad Hb tau) (d + 7) 103 [.ref 1, xI x0, xI x1] h (some (xI z), h') ∧ XH n' s' S' Z' h' ∧ GI n' S' Z' ∧ fr8 [(12, 2), (14, (-1)), (16, (-1)), (17, (-1)), (18, (-1)), (19, (-1)), (36, 0), (36, 1), (36, 2), (36, 3), (36, 4), (38, 0), (38, 1), (38, 2), (38, 3), (38, 4), (40, 1), (41, (-1)), (42, (-1))] Z Z' ∧ ((-2147483648) ≤ z ∧ z ≤ 2147483647 ∧ (((n : Nat) : Int) ≤ ((n' : Nat) : Int) ∧ ((s : Nat) : Int) ≤ ((s' : Nat) : Int) ∧ ((s' : Nat) : Int) ≤ ((s : Nat) : Int) + 900 * (((n' : Nat) : Int) - ((n : Nat) : Int)) ∧ ((n' : Nat) : Int) ≤ ((n : Nat) : Int) + 1 ∧ Z' 36 1 = Z 36 1)) := by
  obtain ⟨r, hca, z, n', s', S', Z', h', e, q⟩ := Jmt (B := tB l D b0 ad Hb tau) (M := mt_103) (mi := 103) (as := [.ref 1, xI x0, xI x1]) (d := d + 6) (ls := [some (.ref 1), some (xI x0), some (xI x1), none, none, none]) rfl rfl rfl rfl rfl rfl (cw_103_1 (l := l) (D := D) (b0 := b0) (ad := ad) (Hb := Hb) (tau := tau) (d := d) (Post := fun r => ∃ (z : Int) (n' s' : Nat) (S' : Nat → xS) (Z' : xZ) (h' : mx_H), r = (some (xI z), h') ∧ XH n' s' S' Z' h' ∧ GI n' S' Z' ∧ fr8 [(12, 2), (14, (-1)), (16, (-1)), (17, (-1)), (18, (-1)), (19, (-1)), (36, 0), (36, 1), (36, 2), (36, 3), (36, 4), (38, 0), (38, 1), (38, 2), (38, 3), (38, 4), (40, 1), (41, (-1)), (42, (-1))] Z Z' ∧ ((-2147483648) ≤ z ∧ z ≤ 2147483647 ∧ (((n : Nat) : Int) ≤ ((n' : Nat) : Int) ∧ ((s : Nat) : Int) ≤ ((s' : Nat) : Int) ∧ ((s' : Nat) : Int) ≤ ((s : Nat) : Int) + 900 * (((n' : Nat) : Int) - ((n : Nat) : Int)) ∧ ((n' : Nat) : Int) ≤ ((n : Nat) : Int) + 1 ∧ Z' 36 1 = Z 36 1))) hx hG p0 p1 k0 (fun z n' s' S' Z' h' q1 q2 q3 q4 => ⟨z, n', s', S', Z', h', rfl, q1, q2, q3, q4⟩))
  subst e; exact ⟨z, n', s', S', Z', h', hca, q⟩
