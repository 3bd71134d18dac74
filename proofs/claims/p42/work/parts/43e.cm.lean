set_option maxRecDepth 100000 in
theorem cw_264_56 {l : Launch} {D : va_G} {b0 : Nat} {ad : Nat → Nat} {Hb : Heap} {tau : Nat → Int64} {d n s : Nat} {S : Nat → xS} {Z : xZ} {h : mx_H} {Post : mx_R → Prop} (hx : XH n s S Z h) (hG : GI n S Z)  {x0 : Int} (p0 : (-2147483648) ≤ x0 ∧ x0 ≤ 2147483647) (hP : ∀ (z : Int) (Z' : xZ) (h' : mx_H), XH n s S Z' h' → GI n S Z' → fr' [(56, 0), (62, (-1)), (64, (-1)), (65, (-1)), (79, (-1))] Z Z' → (-6) ≤ z ∧ z ≤ 18 → Post (some (xI z), h')) : mx_J (tB l D b0 ad Hb tau) mt_264 (d + 6) 0 [some (.ref 56), some (xI x0), none, none, none, none, none, none] [] h Post := by
    have a56 : 56 < n := lt83 (GI_n hG) rfl
    have s56 : S 56 = .inl (12, [0, 2, 2, 2, 2, 0, 0, 0, 0, 0, 0, 0, 0, 0, 0, 2, 2, 2, 0, 2, 2, 2, 0, 0, 2, 2, 2, 2, 2, 2, 0, 0, 2, 2, 2, 2, 2, 2, 2, 2, 2, 2]) := GI_s hG 56 rfl
    refine mx_J.step (sn_264 0) (fun _ _ => rfl) ?_
    refine JcI (z := 0) (show mx_Sn _ _ 1 (mx_const (.int 0) 2) from sn_264 1) rfl ?_
    refine JputI (g := 0) hx (show mx_Sn _ _ 2 (mx_putf 1 12 0 (.int) 5) from sn_264 2) a56 s56 rfl rfl rfl rfl (fun Z1 h1 hx1 hE1 => ?_)
    have hG1 := GI_up hG hE1 (show (-2147483648) ≤ 0 ∧ 0 ≤ 2147483647 by omega) trivial rfl
    refine mx_J.step (sn_264 5) (fun _ _ => rfl) ?_
    refine mx_J.step (sn_264 6) (fun _ _ => rfl) ?_
    refine JcI (z := 0) (show mx_Sn _ _ 7 (mx_const (.int 0) 8) from sn_264 7) rfl ?_
    have eq3 : Z1 81 x0 = Z 81 x0 := (up_nk hE1 rfl)
    have b4 : 0 ≤ Z 81 x0 ∧ Z 81 x0 ≤ 40 := hG.pr 81 x0
    obtain ⟨z2, hc2, b2⟩ := ct_255_56 (d := d + 3) (l := l) (D := D) (b0 := b0) (ad := ad) (Hb := Hb) (tau := tau) hx1 hG1 (show (-2147483648) ≤ x0 ∧ x0 ≤ 2147483647 by omega) (show 0 ≤ 0 ∧ 0 ≤ 1 by omega)
    try rw [eq3] at b2
    refine Jcv hx1 (show mx_Sn _ _ 8 (mx_callv 255 3 12 11) from sn_264 8) a56 s56 hc2 rfl rfl rfl ?_
    refine mx_J.step (ls2 := [some (.ref 56), some (xI x0), some (xI z2), none, none, none, none, none]) (sn_264 11) (fun _ _ => rfl) ?_
    refine mx_J.step (sn_264 12) (fun _ _ => rfl) ?_
    refine Jif_eq (show mx_Sn _ _ 13 (mx_if_eq 18 16) from sn_264 13) (by omega) (fun q5 => ?_) (fun q5 => ?_)
    · skip
      refine mx_J.step (sn_264 18) (fun _ _ => rfl) ?_
      refine mx_J.step (sn_264 19) (fun _ _ => rfl) ?_
      obtain ⟨z6, Z6, h6, hc6, hx6, hG6, hf6, b6⟩ := ct_261_56 (d := d + 0) (l := l) (D := D) (b0 := b0) (ad := ad) (Hb := Hb) (tau := tau) hx1 hG1 (show 0 ≤ x0 ∧ x0 ≤ 3 by omega)
      refine Jcv hx1 (show mx_Sn _ _ 20 (mx_callv 261 2 12 23) from sn_264 20) a56 s56 hc6 rfl rfl rfl ?_
      refine mx_J.step (ls2 := [some (.ref 56), some (xI x0), some (xI z2), some (xI z6), none, none, none, none]) (sn_264 23) (fun _ _ => rfl) ?_
      refine JcI (z := (-1)) (show mx_Sn _ _ 24 (mx_const (.int (-1)) 25) from sn_264 24) rfl ?_
      refine mx_J.step (ls2 := [some (.ref 56), some (xI x0), some (xI z2), some (xI z6), some (xI (-1)), none, none, none]) (sn_264 25) (fun _ _ => rfl) ?_
      refine JcI (z := 268435456) (show mx_Sn _ _ 27 (mx_const (.int 268435456) 30) from sn_264 27) rfl ?_
      refine mx_J.step (ls2 := [some (.ref 56), some (xI x0), some (xI z2), some (xI z6), some (xI (-1)), some (xI 268435456), none, none]) (sn_264 30) (fun _ _ => rfl) ?_
      refine JcI (z := 0) (show mx_Sn _ _ 32 (mx_const (.int 0) 33) from sn_264 32) rfl ?_
      refine mx_J.step (ls2 := [some (.ref 56), some (xI x0), some (xI z2), some (xI z6), some (xI (-1)), some (xI 268435456), some (xI 0), none]) (sn_264 33) (fun _ _ => rfl) ?_
      have c35 : ∀ (m7 : Nat) (w7_4 : Int) (w7_5 : Int) (w7_6 : Int) (u7_7 : Option Value) (Z8 : xZ) (h8 : mx_H), 19 - w7_6 < (m7 : Int) → (-1) ≤ w7_4 ∧ w7_4 ≤ 18 → (-2147483648) ≤ w7_5 ∧ w7_5 ≤ 268435456 → 0 ≤ w7_6 ∧ w7_6 ≤ 19 → XH n s S Z8 h8 → GI n S Z8 → fr' [(62, (-1)), (64, (-1)), (65, (-1)), (79, (-1))] Z6 Z8 → mx_J (tB l D b0 ad Hb tau) mt_264 (d + 6) 35 [some (.ref 56), some (xI x0), some (xI z2), some (xI z6), some (xI w7_4), some (xI w7_5), some (xI w7_6), u7_7] [] h8 Post := by
        intro m7
        induction m7 with
        | zero => intro w7_4 w7_5 w7_6 u7_7 Z8 h8 q7 f7_0 f7_1 f7_2 hx8 hG8 hf8; exact absurd q7 (by omega)
        | succ m7 ih7 =>
          intro w7_4 w7_5 w7_6 u7_7 Z8 h8 q7 f7_0 f7_1 f7_2 hx8 hG8 hf8
          refine mx_J.step (sn_264 35) (fun _ _ => rfl) ?_
          refine JcI (z := 19) (show mx_Sn _ _ 37 (mx_const (.int 19) 39) from sn_264 37) rfl ?_
          have c79 : mx_J (tB l D b0 ad Hb tau) mt_264 (d + 6) 79 [some (.ref 56), some (xI x0), some (xI z2), some (xI z6), some (xI w7_4), some (xI w7_5), some (xI w7_6), u7_7] [] h8 Post := by
            refine mx_J.step (sn_264 79) (fun _ _ => rfl) ?_
            exact mx_J.ret (sn_264 81) (fun _ _ => rfl) (hP w7_4 Z8 h8 hx8 hG8 (fr_tr (M := [(56, 0), (62, (-1)), (64, (-1)), (65, (-1)), (79, (-1))]) (fr_tr (M := [(56, 0), (62, (-1)), (64, (-1)), (65, (-1)), (79, (-1))]) (fr_tr (M := [(56, 0), (62, (-1)), (64, (-1)), (65, (-1)), (79, (-1))]) fr_rf (fr_up hE1) (M1 := []) rfl rfl) (hf6) rfl rfl) (hf8) rfl rfl) (by omega))
          refine Jicmp_ge (show mx_Sn _ _ 39 (mx_icmp_ge 79 42) from sn_264 39) (by omega) (by omega) (fun q10 => ?_) (fun q10 => ?_)
          · skip
            exact c79 
          · skip
            refine mx_J.step (sn_264 42) (fun _ _ => rfl) ?_
            refine Jif_eq (show mx_Sn _ _ 43 (mx_if_eq 79 46) from sn_264 43) (by omega) (fun q11 => ?_) (fun q11 => ?_)
            · skip
              exact c79 
            · skip
              refine mx_J.step (sn_264 46) (fun _ _ => rfl) ?_
              refine mx_J.step (sn_264 47) (fun _ _ => rfl) ?_
              refine mx_J.step (sn_264 49) (fun _ _ => rfl) ?_
              obtain ⟨z12, Z12, h12, hc12, hx12, hG12, hf12, b12⟩ := ct_263_56 (d := d + 0) (l := l) (D := D) (b0 := b0) (ad := ad) (Hb := Hb) (tau := tau) hx8 hG8 (show 0 ≤ w7_6 ∧ w7_6 ≤ 18 by omega) (show (-2147483648) ≤ z6 ∧ z6 ≤ 2147483647 by omega)
              refine Jcv hx8 (show mx_Sn _ _ 50 (mx_callv 263 3 12 53) from sn_264 50) a56 s56 hc12 rfl rfl rfl ?_
              refine mx_J.step (ls2 := [some (.ref 56), some (xI x0), some (xI z2), some (xI z6), some (xI w7_4), some (xI w7_5), some (xI w7_6), some (xI z12)]) (sn_264 53) (fun _ _ => rfl) ?_
              refine mx_J.step (sn_264 55) (fun _ _ => rfl) ?_
              refine mx_J.step (sn_264 57) (fun _ _ => rfl) ?_
              have c73 : ∀ (w13_4 : Int) (w13_5 : Int), (-1) ≤ w13_4 ∧ w13_4 ≤ 18 → (-2147483648) ≤ w13_5 ∧ w13_5 ≤ 268435456 → mx_J (tB l D b0 ad Hb tau) mt_264 (d + 6) 73 [some (.ref 56), some (xI x0), some (xI z2), some (xI z6), some (xI w13_4), some (xI w13_5), some (xI w7_6), some (xI z12)] [] h12 Post := by
                intro w13_4 w13_5 f13_0 f13_1
                refine Jiinc (z := w7_6) (cz := 1) (ls2 := [some (.ref 56), some (xI x0), some (xI z2), some (xI z6), some (xI w13_4), some (xI w13_5), some (xI (w7_6 + 1)), some (xI z12)]) (show mx_Sn _ _ 73 (mx_iinc 6 1 76) from sn_264 73) rfl rfl rfl rfl ?_
                refine mx_J.step (sn_264 76) (fun _ _ => rfl) ?_
                exact ih7 w13_4 w13_5 (w7_6 + 1) (some (xI z12)) Z12 h12 (by omega) (by omega) (by omega) (by omega) hx12 hG12 (fr_tr (M := [(62, (-1)), (64, (-1)), (65, (-1)), (79, (-1))]) (fr_tr (M := [(62, (-1)), (64, (-1)), (65, (-1)), (79, (-1))]) fr_rf (hf8) (M1 := []) rfl rfl) (hf12) rfl rfl)
              refine Jicmp_lt (show mx_Sn _ _ 59 (mx_icmp_lt 65 62) from sn_264 59) (by omega) (by omega) (fun q14 => ?_) (fun q14 => ?_)
              · skip
                refine mx_J.step (sn_264 65) (fun _ _ => rfl) ?_
                refine mx_J.step (ls2 := [some (.ref 56), some (xI x0), some (xI z2), some (xI z6), some (xI w7_6), some (xI w7_5), some (xI w7_6), some (xI z12)]) (sn_264 67) (fun _ _ => rfl) ?_
                refine mx_J.step (sn_264 69) (fun _ _ => rfl) ?_
                refine mx_J.step (ls2 := [some (.ref 56), some (xI x0), some (xI z2), some (xI z6), some (xI w7_6), some (xI z12), some (xI w7_6), some (xI z12)]) (sn_264 71) (fun _ _ => rfl) ?_
                exact c73 w7_6 z12 (by omega) (by omega)
              · skip
                refine mx_J.step (sn_264 62) (fun _ _ => rfl) ?_
                exact c73 w7_4 w7_5 (by omega) (by omega)
      exact c35 (Int.toNat (19 - 0) + 1) (-1) 268435456 0 none Z6 h6 (by omega) (by omega) (by omega) (by omega) hx6 hG6 fr_rf
    · skip
      refine mx_J.step (sn_264 16) (fun _ _ => rfl) ?_
      exact mx_J.ret (sn_264 17) (fun _ _ => rfl) (hP z2 Z1 h1 hx1 hG1 (fr_tr (M := [(56, 0), (62, (-1)), (64, (-1)), (65, (-1)), (79, (-1))]) fr_rf (fr_up hE1) (M1 := []) rfl rfl) (by omega))
theorem ct_264_56 {l : Launch} {D : va_G} {b0 : Nat} {ad : Nat → Nat} {Hb : Heap} {tau : Nat → Int64} {d n s : Nat} {S : Nat → xS} {Z : xZ} {h : mx_H} (hx : XH n s S Z h) (hG : GI n S Z)  {x0 : Int} (p0 : (-2147483648) ≤ x0 ∧ x0 ≤ 2147483647) : ∃ (z : Int) (Z' : xZ) (h' : mx_H), mx_Ca (tB l D b0 ad Hb tau) (d + 7) 264 [.ref 56, xI x0] h (some (xI z), h') ∧ XH n s S Z' h' ∧ GI n S Z' ∧ fr' [(56, 0), (62, (-1)), (64, (-1)), (65, (-1)), (79, (-1))] Z Z' ∧ ((-6) ≤ z ∧ z ≤ 18) := by
  obtain ⟨r, hca, z, Z', h', e, q⟩ := Jmt (B := tB l D b0 ad Hb tau) (M := mt_264) (mi := 264) (as := [.ref 56, xI x0]) (d := d + 6) (ls := [some (.ref 56), some (xI x0), none, none, none, none, none, none]) rfl rfl rfl rfl rfl rfl (cw_264_56 (l := l) (D := D) (b0 := b0) (ad := ad) (Hb := Hb) (tau := tau) (d := d) (Post := fun r => ∃ (z : Int) (Z' : xZ) (h' : mx_H), r = (some (xI z), h') ∧ XH n s S Z' h' ∧ GI n S Z' ∧ fr' [(56, 0), (62, (-1)), (64, (-1)), (65, (-1)), (79, (-1))] Z Z' ∧ ((-6) ≤ z ∧ z ≤ 18)) hx hG p0 (fun z Z' h' q1 q2 q3 q4 => ⟨z, Z', h', rfl, q1, q2, q3, q4⟩))
  subst e; exact ⟨z, Z', h', hca, q⟩
set_option maxRecDepth 100000 in
theorem cw_185_56_i0 {l : Launch} {D : va_G} {b0 : Nat} {ad : Nat → Nat} {Hb : Heap} {tau : Nat → Int64} {d n s : Nat} {S : Nat → xS} {Z : xZ} {h : mx_H} {Post : mx_R → Prop} (hx : XH n s S Z h) (hG : GB n S Z)  {x1 x2 : Int} (p1 : 0 ≤ x1 ∧ x1 ≤ 18) (p2 : 0 ≤ x2 ∧ x2 ≤ 18) (k0 : Z 56 18 + wy (0 * 19 + x1) ≤ 385) (k1 : x2 + 0 ≤ 18) (hP : ∀ (Z' : xZ) (h' : mx_H), XH n s S Z' h' → GB n S Z' → fr' [(56, 18), (61, (-1))] Z Z' → Z' 56 18 = Z 56 18 + wy (0 * 19 + x1) → Post (none, h')) : mx_J (tB l D b0 ad Hb tau) mt_185 (d + 0) 0 [some (.ref 56), some (xI 0), some (xI x1), some (xI x2), none] [] h Post := by
    have a56 : 56 < n := lt83 (GB_n hG) rfl
    have s56 : S 56 = .inl (12, [0, 2, 2, 2, 2, 0, 0, 0, 0, 0, 0, 0, 0, 0, 0, 2, 2, 2, 0, 2, 2, 2, 0, 0, 2, 2, 2, 2, 2, 2, 0, 0, 2, 2, 2, 2, 2, 2, 2, 2, 2, 2]) := GB_s hG 56 rfl
    have a61 : 61 < n := lt83 (GB_n hG) rfl
    have s61 : S 61 = .inr (.int, 6930, 0) := GB_s hG 61 rfl
    have a63 : 63 < n := lt83 (GB_n hG) rfl
    have s63 : S 63 = .inr (.int, 18, 0) := GB_s hG 63 rfl
    refine mx_J.step (sn_185 0) (fun _ _ => rfl) ?_
    refine Jif_ne (show mx_Sn _ _ 1 (mx_if_ne 63 4) from sn_185 1) (by omega) (fun q1 => ?_) (fun q1 => ?_)
    · skip
      exfalso; omega
    · skip
      have wz := Wz (m := x1) (by omega)
      refine JcI (z := 0) (show mx_Sn _ _ 4 (mx_const (.int 0) 5) from sn_185 4) rfl ?_
      refine mx_J.step (ls2 := [some (.ref 56), some (xI 0), some (xI x1), some (xI x2), some (xI 0)]) (sn_185 5) (fun _ _ => rfl) ?_
      have c7 : ∀ (m2 : Nat) (w2_4 : Int) (Z3 : xZ) (h3 : mx_H), 18 - w2_4 < (m2 : Int) → 0 ≤ w2_4 ∧ w2_4 ≤ 18 → XH n s S Z3 h3 → GB n S Z3 → fr' [(61, (-1))] Z Z3 → mx_J (tB l D b0 ad Hb tau) mt_185 (d + 0) 7 [some (.ref 56), some (xI 0), some (xI x1), some (xI x2), some (xI w2_4)] [] h3 Post := by
        intro m2
        induction m2 with
        | zero => intro w2_4 Z3 h3 q2 f2_0 hx3 hG3 hf3; exact absurd q2 (by omega)
        | succ m2 ih2 =>
          intro w2_4 Z3 h3 q2 f2_0 hx3 hG3 hf3
          refine mx_J.step (sn_185 7) (fun _ _ => rfl) ?_
          refine JcI (z := 18) (show mx_Sn _ _ 9 (mx_const (.int 18) 11) from sn_185 9) rfl ?_
          refine Jicmp_ge (show mx_Sn _ _ 11 (mx_icmp_ge 52 14) from sn_185 11) (by omega) (by omega) (fun q4 => ?_) (fun q4 => ?_)
          · skip
            refine mx_J.step (sn_185 52) (fun _ _ => rfl) ?_
            refine mx_J.step (sn_185 53) (fun _ _ => rfl) ?_
            have b6 : 0 ≤ Z 56 18 ∧ Z 56 18 ≤ 385 := hG.pr 56 18
            refine JgetI (g := 18) (z := Z 56 18) hx3 (show mx_Sn _ _ 54 (mx_getf 12 18 57) from sn_185 54) a56 s56 rfl rfl (hf3 56 18 rfl) ?_
            refine JcI (z := 1) (show mx_Sn _ _ 57 (mx_const (.int 1) 58) from sn_185 57) rfl ?_
            refine Jiadd (show mx_Sn _ _ 58 (mx_iadd 59) from sn_185 58) ?_
            refine JputI (g := 18) hx3 (show mx_Sn _ _ 59 (mx_putf 1 12 18 (.int) 62) from sn_185 59) a56 s56 rfl rfl rfl rfl (fun Z7 h7 hx7 hE7 => ?_)
            have hG7 := GB_up hG3 hE7 (show 0 ≤ (Z 56 18) + 1 ∧ (Z 56 18) + 1 ≤ 385 by omega) trivial rfl
            have eq8 : Z7 56 18 = (Z 56 18) + 1 := (up_at hE7)
            have eq9 : Z7 56 18 = (Z 56 18) + 1 := (up_at hE7)
            exact mx_J.ret (sn_185 62) (fun _ _ => rfl) (hP Z7 h7 hx7 hG7 (fr_tr (M := [(56, 18), (61, (-1))]) (fr_tr (M := [(56, 18), (61, (-1))]) fr_rf (hf3) (M1 := []) rfl rfl) (fr_up hE7) rfl rfl) (by omega))
          · skip
            refine mx_J.step (sn_185 14) (fun _ _ => rfl) ?_
            refine JgetR (g := 15) (b := 61) hx3 (show mx_Sn _ _ 15 (mx_getf 12 15 18) from sn_185 15) a56 s56 rfl rfl (hG3.prr 56 15 rfl) ?_
            refine JcI (z := 18) (show mx_Sn _ _ 18 (mx_const (.int 18) 20) from sn_185 18) rfl ?_
            refine mx_J.step (sn_185 20) (fun _ _ => rfl) ?_
            have b12 : 0 ≤ Z 56 18 ∧ Z 56 18 ≤ 385 := hG.pr 56 18
            refine JgetI (g := 18) (z := Z 56 18) hx3 (show mx_Sn _ _ 21 (mx_getf 12 18 24) from sn_185 21) a56 s56 rfl rfl (hf3 56 18 rfl) ?_
            refine Jimul (show mx_Sn _ _ 24 (mx_imul 25) from sn_185 24) ?_
            refine mx_J.step (sn_185 25) (fun _ _ => rfl) ?_
            refine Jiadd (show mx_Sn _ _ 27 (mx_iadd 28) from sn_185 27) ?_
            refine mx_J.step (sn_185 28) (fun _ _ => rfl) ?_
            refine mx_J.step (sn_185 30) (fun _ _ => rfl) ?_
            have c45 : ∀ (k13_2 : Int), 0 ≤ k13_2 ∧ k13_2 ≤ 18 → mx_J (tB l D b0 ad Hb tau) mt_185 (d + 0) 45 [some (.ref 56), some (xI 0), some (xI x1), some (xI x2), some (xI w2_4)] [xI k13_2, xI ((18 * (Z 56 18)) + w2_4), .ref 61] h3 Post := by
              intro k13_2 f13_0
              refine JiastI hx3 (show mx_Sn _ _ 45 (mx_iast 1 46) from sn_185 45) a61 s61 rfl (by omega) (fun Z14 h14 hx14 hE14 => ?_)
              have hG14 := GB_up hG3 hE14 (show 0 ≤ k13_2 ∧ k13_2 ≤ 18 by omega) trivial rfl
              refine Jiinc (z := w2_4) (cz := 1) (ls2 := [some (.ref 56), some (xI 0), some (xI x1), some (xI x2), some (xI (w2_4 + 1))]) (show mx_Sn _ _ 46 (mx_iinc 4 1 49) from sn_185 46) rfl rfl rfl rfl ?_
              refine mx_J.step (sn_185 49) (fun _ _ => rfl) ?_
              exact ih2 (w2_4 + 1) Z14 h14 (by omega) (by omega) hx14 hG14 (fr_tr (M := [(61, (-1))]) (fr_tr (M := [(61, (-1))]) fr_rf (hf3) (M1 := []) rfl rfl) (fr_ua hE14) rfl rfl)
            refine Jicmp_ge (show mx_Sn _ _ 31 (mx_icmp_ge 44 34) from sn_185 31) (by omega) (by omega) (fun q15 => ?_) (fun q15 => ?_)
            · skip
              refine JcI (z := 0) (show mx_Sn _ _ 44 (mx_const (.int 0) 45) from sn_185 44) rfl ?_
              exact c45 0 (by omega)
            · skip
              refine mx_J.step (sn_185 34) (fun _ _ => rfl) ?_
              refine JgetR (g := 17) (b := 63) hx3 (show mx_Sn _ _ 35 (mx_getf 12 17 38) from sn_185 35) a56 s56 rfl rfl (hG3.prr 56 17 rfl) ?_
              refine mx_J.step (sn_185 38) (fun _ _ => rfl) ?_
              have b17 : 0 ≤ Z 63 w2_4 ∧ Z 63 w2_4 ≤ 18 := hG.pr 63 w2_4
              refine JialdI (z := Z 63 w2_4) hx3 (show mx_Sn _ _ 40 (mx_iald 41) from sn_185 40) a63 s63 (by omega) (hf3 63 w2_4 rfl) ?_
              refine mx_J.step (sn_185 41) (fun _ _ => rfl) ?_
              exact c45 (Z 63 w2_4) (by omega)
      exact c7 (Int.toNat (18 - 0) + 1) 0 Z h (by omega) (by omega) hx hG fr_rf
theorem ct_185_56_i0 {l : Launch} {D : va_G} {b0 : Nat} {ad : Nat → Nat} {Hb : Heap} {tau : Nat → Int64} {d n s : Nat} {S : Nat → xS} {Z : xZ} {h : mx_H} (hx : XH n s S Z h) (hG : GB n S Z)  {x1 x2 : Int} (p1 : 0 ≤ x1 ∧ x1 ≤ 18) (p2 : 0 ≤ x2 ∧ x2 ≤ 18) (k0 : Z 56 18 + wy (0 * 19 + x1) ≤ 385) (k1 : x2 + 0 ≤ 18) : ∃ (Z' : xZ) (h' : mx_H), mx_Ca (tB l D b0 ad Hb tau) (d + 1) 185 [.ref 56, xI 0, xI x1, xI x2] h (none, h') ∧ XH n s S Z' h' ∧ GB n S Z' ∧ fr' [(56, 18), (61, (-1))] Z Z' ∧ (Z' 56 18 = Z 56 18 + wy (0 * 19 + x1)) := by
  obtain ⟨r, hca, Z', h', e, q⟩ := Jmt (B := tB l D b0 ad Hb tau) (M := mt_185) (mi := 185) (as := [.ref 56, xI 0, xI x1, xI x2]) (d := d + 0) (ls := [some (.ref 56), some (xI 0), some (xI x1), some (xI x2), none]) rfl rfl rfl rfl rfl rfl (cw_185_56_i0 (l := l) (D := D) (b0 := b0) (ad := ad) (Hb := Hb) (tau := tau) (d := d) (Post := fun r => ∃ (Z' : xZ) (h' : mx_H), r = (none, h') ∧ XH n s S Z' h' ∧ GB n S Z' ∧ fr' [(56, 18), (61, (-1))] Z Z' ∧ (Z' 56 18 = Z 56 18 + wy (0 * 19 + x1))) hx hG p1 p2 k0 k1 (fun Z' h' q1 q2 q3 q4 => ⟨Z', h', rfl, q1, q2, q3, q4⟩))
  subst e; exact ⟨Z', h', hca, q⟩
set_option maxRecDepth 100000 in
theorem cw_185_56_i1 {l : Launch} {D : va_G} {b0 : Nat} {ad : Nat → Nat} {Hb : Heap} {tau : Nat → Int64} {d n s : Nat} {S : Nat → xS} {Z : xZ} {h : mx_H} {Post : mx_R → Prop} (hx : XH n s S Z h) (hG : GB n S Z)  {x1 x2 : Int} (p1 : 0 ≤ x1 ∧ x1 ≤ 18) (p2 : 0 ≤ x2 ∧ x2 ≤ 18) (k0 : Z 56 18 + wy (1 * 19 + x1) ≤ 385) (k1 : x2 + 1 ≤ 18) (hP : ∀ (Z' : xZ) (h' : mx_H), XH n s S Z' h' → GB n S Z' → fr' [(56, 18), (61, (-1)), (63, (-1))] Z Z' → Z' 56 18 = Z 56 18 + wy (1 * 19 + x1) → Post (none, h')) : mx_J (tB l D b0 ad Hb tau) mt_185 (d + 1) 0 [some (.ref 56), some (xI 1), some (xI x1), some (xI x2), none] [] h Post := by
    have a56 : 56 < n := lt83 (GB_n hG) rfl
    have s56 : S 56 = .inl (12, [0, 2, 2, 2, 2, 0, 0, 0, 0, 0, 0, 0, 0, 0, 0, 2, 2, 2, 0, 2, 2, 2, 0, 0, 2, 2, 2, 2, 2, 2, 0, 0, 2, 2, 2, 2, 2, 2, 2, 2, 2, 2]) := GB_s hG 56 rfl
    have a63 : 63 < n := lt83 (GB_n hG) rfl
    have s63 : S 63 = .inr (.int, 18, 0) := GB_s hG 63 rfl
    refine mx_J.step (sn_185 0) (fun _ _ => rfl) ?_
    refine Jif_ne (show mx_Sn _ _ 1 (mx_if_ne 63 4) from sn_185 1) (by omega) (fun q1 => ?_) (fun q1 => ?_)
    · skip
      refine mx_J.step (sn_185 63) (fun _ _ => rfl) ?_
      refine mx_J.step (sn_185 64) (fun _ _ => rfl) ?_
      have c73 : ∀ (k2_0 : Int), 0 ≤ k2_0 ∧ k2_0 ≤ 1 → (wy (1 * 19 + k2_0) = wy (1 * 19 + x1) ∧ k2_0 ≤ 1) → mx_J (tB l D b0 ad Hb tau) mt_185 (d + 1) 73 [some (.ref 56), some (xI 1), some (xI x1), some (xI x2), none] [xI k2_0] h Post := by
        intro k2_0 f2_0 f2_1
        refine mx_J.step (ls2 := [some (.ref 56), some (xI 1), some (xI x1), some (xI x2), some (xI k2_0)]) (sn_185 73) (fun _ _ => rfl) ?_
        have c75 : ∀ (m3 : Nat) (w3_4 : Int) (Z4 : xZ) (h4 : mx_H), w3_4 - 0 < (m3 : Int) → 0 ≤ w3_4 ∧ w3_4 ≤ 1 → (Z4 56 18 + wy (1 * 19 + w3_4) = Z 56 18 + wy (1 * 19 + x1)) → XH n s S Z4 h4 → GB n S Z4 → fr' [(56, 18), (61, (-1)), (63, (-1))] Z Z4 → mx_J (tB l D b0 ad Hb tau) mt_185 (d + 1) 75 [some (.ref 56), some (xI 1), some (xI x1), some (xI x2), some (xI w3_4)] [] h4 Post := by
          intro m3
          induction m3 with
          | zero => intro w3_4 Z4 h4 q3 f3_0 f3_1 hx4 hG4 hf4; exact absurd q3 (by omega)
          | succ m3 ih3 =>
            intro w3_4 Z4 h4 q3 f3_0 f3_1 hx4 hG4 hf4
            have b5 : 0 ≤ Z4 56 18 ∧ Z4 56 18 ≤ 385 := hG4.pr 56 18
            refine mx_J.step (sn_185 75) (fun _ _ => rfl) ?_
            refine Jif_le (show mx_Sn _ _ 77 (mx_if_le 107 80) from sn_185 77) (by omega) (fun q6 => ?_) (fun q6 => ?_)
            · skip
              have w0 : wy (1 * 19 + w3_4) = 0 := by rw [show w3_4 = 0 by omega]; exact Wy0 (by omega)
              have b7 : 0 ≤ Z4 56 18 ∧ Z4 56 18 ≤ 385 := hG4.pr 56 18
              have b8 : 0 ≤ Z4 56 18 ∧ Z4 56 18 ≤ 385 := hG4.pr 56 18
              exact mx_J.ret (sn_185 107) (fun _ _ => rfl) (hP Z4 h4 hx4 hG4 (fr_tr (M := [(56, 18), (61, (-1)), (63, (-1))]) fr_rf (hf4) (M1 := []) rfl rfl) (by omega))
            · skip
              refine mx_J.step (sn_185 80) (fun _ _ => rfl) ?_
              refine JgetR (g := 17) (b := 63) hx4 (show mx_Sn _ _ 81 (mx_getf 12 17 84) from sn_185 81) a56 s56 rfl rfl (hG4.prr 56 17 rfl) ?_
              refine mx_J.step (sn_185 84) (fun _ _ => rfl) ?_
              refine mx_J.step (sn_185 85) (fun _ _ => rfl) ?_
              refine JiastI hx4 (show mx_Sn _ _ 87 (mx_iast 1 88) from sn_185 87) a63 s63 rfl (by omega) (fun Z10 h10 hx10 hE10 => ?_)
              have hG10 := GB_up hG4 hE10 (show 0 ≤ w3_4 ∧ w3_4 ≤ 18 by omega) trivial rfl
              have wr := WRr (n := 1) (m := w3_4) (by omega) (by omega)
              rw [show (1 - w3_4) = (0 : Int) by omega] at wr
              refine mx_J.step (sn_185 88) (fun _ _ => rfl) ?_
              refine mx_J.step (sn_185 89) (fun _ _ => rfl) ?_
              refine mx_J.step (sn_185 90) (fun _ _ => rfl) ?_
              refine Jisub (show mx_Sn _ _ 92 (mx_isub 93) from sn_185 92) ?_
              refine mx_J.step (sn_185 93) (fun _ _ => rfl) ?_
              refine mx_J.step (sn_185 95) (fun _ _ => rfl) ?_
              refine JcI (z := 1) (show mx_Sn _ _ 96 (mx_const (.int 1) 97) from sn_185 96) rfl ?_
              refine Jiadd (show mx_Sn _ _ 97 (mx_iadd 98) from sn_185 97) ?_
              have el11 : 1 - w3_4 = 0 := by omega
              rw [el11]
              have eq12 : Z10 56 18 = Z4 56 18 := (up_nk hE10 rfl)
              have b13 : 0 ≤ Z4 56 18 ∧ Z4 56 18 ≤ 385 := hG4.pr 56 18
              obtain ⟨Z11, h11, hc11, hx11, hG11, hf11, b11⟩ := ct_185_56_i0 (d := d + 0) (l := l) (D := D) (b0 := b0) (ad := ad) (Hb := Hb) (tau := tau) hx10 hG10 (show 0 ≤ w3_4 ∧ w3_4 ≤ 18 by omega) (show 0 ≤ x2 + 1 ∧ x2 + 1 ≤ 18 by omega) (show Z10 56 18 + wy (0 * 19 + w3_4) ≤ 385 by first | omega | (simp only [eq12]; omega)) (show (x2 + 1) + 0 ≤ 18 by first | omega | (simp only [eq12]; omega))
              try rw [eq12] at b11
              have b14 : 0 ≤ Z11 56 18 ∧ Z11 56 18 ≤ 385 := hG11.pr 56 18
              refine Jcv0 hx10 (show mx_Sn _ _ 98 (mx_callv 185 4 12 101) from sn_185 98) a56 s56 hc11 rfl rfl rfl ?_
              refine Jiinc (z := w3_4) (cz := (-1)) (ls2 := [some (.ref 56), some (xI 1), some (xI x1), some (xI x2), some (xI (w3_4 + (-1)))]) (show mx_Sn _ _ 101 (mx_iinc 4 (-1) 104) from sn_185 101) rfl rfl rfl rfl ?_
              refine mx_J.step (sn_185 104) (fun _ _ => rfl) ?_
              have b15 : 0 ≤ Z11 56 18 ∧ Z11 56 18 ≤ 385 := hG11.pr 56 18
              exact ih3 (w3_4 + (-1)) Z11 h11 (by omega) (by omega) (by omega) hx11 hG11 (fr_tr (M := [(56, 18), (61, (-1)), (63, (-1))]) (fr_tr (M := [(56, 18), (61, (-1)), (63, (-1))]) (fr_tr (M := [(56, 18), (61, (-1)), (63, (-1))]) fr_rf (hf4) (M1 := []) rfl rfl) (fr_ua hE10) rfl rfl) (hf11) rfl rfl)
        have b16 : 0 ≤ Z 56 18 ∧ Z 56 18 ≤ 385 := hG.pr 56 18
        exact c75 (Int.toNat (k2_0 - 0) + 1) k2_0 Z h (by omega) (by omega) (by omega) hx hG fr_rf
      refine Jicmp_ge (show mx_Sn _ _ 65 (mx_icmp_ge 72 68) from sn_185 65) (by omega) (by omega) (fun q17 => ?_) (fun q17 => ?_)
      · skip
        refine mx_J.step (sn_185 72) (fun _ _ => rfl) ?_
        exact c73 1 (by omega) (by first | exact ⟨rfl, by omega⟩ | exact ⟨WSs (n := 1) (by omega) (by omega), by omega⟩)
      · skip
        refine mx_J.step (sn_185 68) (fun _ _ => rfl) ?_
        refine mx_J.step (sn_185 69) (fun _ _ => rfl) ?_
        exact c73 x1 (by omega) (by first | exact ⟨rfl, by omega⟩ | exact ⟨WSs (n := 1) (by omega) (by omega), by omega⟩)
    · skip
      exfalso; omega
theorem ct_185_56_i1 {l : Launch} {D : va_G} {b0 : Nat} {ad : Nat → Nat} {Hb : Heap} {tau : Nat → Int64} {d n s : Nat} {S : Nat → xS} {Z : xZ} {h : mx_H} (hx : XH n s S Z h) (hG : GB n S Z)  {x1 x2 : Int} (p1 : 0 ≤ x1 ∧ x1 ≤ 18) (p2 : 0 ≤ x2 ∧ x2 ≤ 18) (k0 : Z 56 18 + wy (1 * 19 + x1) ≤ 385) (k1 : x2 + 1 ≤ 18) : ∃ (Z' : xZ) (h' : mx_H), mx_Ca (tB l D b0 ad Hb tau) (d + 2) 185 [.ref 56, xI 1, xI x1, xI x2] h (none, h') ∧ XH n s S Z' h' ∧ GB n S Z' ∧ fr' [(56, 18), (61, (-1)), (63, (-1))] Z Z' ∧ (Z' 56 18 = Z 56 18 + wy (1 * 19 + x1)) := by
  obtain ⟨r, hca, Z', h', e, q⟩ := Jmt (B := tB l D b0 ad Hb tau) (M := mt_185) (mi := 185) (as := [.ref 56, xI 1, xI x1, xI x2]) (d := d + 1) (ls := [some (.ref 56), some (xI 1), some (xI x1), some (xI x2), none]) rfl rfl rfl rfl rfl rfl (cw_185_56_i1 (l := l) (D := D) (b0 := b0) (ad := ad) (Hb := Hb) (tau := tau) (d := d) (Post := fun r => ∃ (Z' : xZ) (h' : mx_H), r = (none, h') ∧ XH n s S Z' h' ∧ GB n S Z' ∧ fr' [(56, 18), (61, (-1)), (63, (-1))] Z Z' ∧ (Z' 56 18 = Z 56 18 + wy (1 * 19 + x1))) hx hG p1 p2 k0 k1 (fun Z' h' q1 q2 q3 q4 => ⟨Z', h', rfl, q1, q2, q3, q4⟩))
  subst e; exact ⟨Z', h', hca, q⟩
theorem ct_185_56_le1 {l : Launch} {D : va_G} {b0 : Nat} {ad : Nat → Nat} {Hb : Heap} {tau : Nat → Int64} {d n s : Nat} {S : Nat → xS} {Z : xZ} {h : mx_H} (hx : XH n s S Z h) (hG : GB n S Z) {x0 x1 x2 : Int} (p0 : 0 ≤ x0 ∧ x0 ≤ 1) (p1 : 0 ≤ x1 ∧ x1 ≤ 18) (p2 : 0 ≤ x2 ∧ x2 ≤ 18) (k0 : Z 56 18 + wy (x0 * 19 + x1) ≤ 385) (k1 : x2 + x0 ≤ 18) : ∃ (Z' : xZ) (h' : mx_H), mx_Ca (tB l D b0 ad Hb tau) (d + 2) 185 [.ref 56, xI x0, xI x1, xI x2] h (none, h') ∧ XH n s S Z' h' ∧ GB n S Z' ∧ fr' [(56, 18), (61, (-1)), (63, (-1))] Z Z' ∧ (Z' 56 18 = Z 56 18 + wy (x0 * 19 + x1)) := by
  have hc : x0 = 0 ∨ x0 = 1 := by omega
  rcases hc with hc | hc
  · subst hc
    obtain ⟨Z', h', hca, q1, q2, q3, q4⟩ := ct_185_56_i0 (d := d + 1) (l := l) (D := D) (b0 := b0) (ad := ad) (Hb := Hb) (tau := tau) hx hG p1 p2 k0 k1
    exact ⟨Z', h', hca, q1, q2, fr_tr (M1 := []) fr_rf q3 rfl rfl, q4⟩
  · subst hc
    obtain ⟨Z', h', hca, q1, q2, q3, q4⟩ := ct_185_56_i1 (d := d + 0) (l := l) (D := D) (b0 := b0) (ad := ad) (Hb := Hb) (tau := tau) hx hG p1 p2 k0 k1
    exact ⟨Z', h', hca, q1, q2, fr_tr (M1 := []) fr_rf q3 rfl rfl, q4⟩
set_option maxRecDepth 100000 in
theorem cw_185_56_i2 {l : Launch} {D : va_G} {b0 : Nat} {ad : Nat → Nat} {Hb : Heap} {tau : Nat → Int64} {d n s : Nat} {S : Nat → xS} {Z : xZ} {h : mx_H} {Post : mx_R → Prop} (hx : XH n s S Z h) (hG : GB n S Z)  {x1 x2 : Int} (p1 : 0 ≤ x1 ∧ x1 ≤ 18) (p2 : 0 ≤ x2 ∧ x2 ≤ 18) (k0 : Z 56 18 + wy (2 * 19 + x1) ≤ 385) (k1 : x2 + 2 ≤ 18) (hP : ∀ (Z' : xZ) (h' : mx_H), XH n s S Z' h' → GB n S Z' → fr' [(56, 18), (61, (-1)), (63, (-1))] Z Z' → Z' 56 18 = Z 56 18 + wy (2 * 19 + x1) → Post (none, h')) : mx_J (tB l D b0 ad Hb tau) mt_185 (d + 2) 0 [some (.ref 56), some (xI 2), some (xI x1), some (xI x2), none] [] h Post := by
    have a56 : 56 < n := lt83 (GB_n hG) rfl
    have s56 : S 56 = .inl (12, [0, 2, 2, 2, 2, 0, 0, 0, 0, 0, 0, 0, 0, 0, 0, 2, 2, 2, 0, 2, 2, 2, 0, 0, 2, 2, 2, 2, 2, 2, 0, 0, 2, 2, 2, 2, 2, 2, 2, 2, 2, 2]) := GB_s hG 56 rfl
    have a63 : 63 < n := lt83 (GB_n hG) rfl
    have s63 : S 63 = .inr (.int, 18, 0) := GB_s hG 63 rfl
    refine mx_J.step (sn_185 0) (fun _ _ => rfl) ?_
    refine Jif_ne (show mx_Sn _ _ 1 (mx_if_ne 63 4) from sn_185 1) (by omega) (fun q1 => ?_) (fun q1 => ?_)
    · skip
      refine mx_J.step (sn_185 63) (fun _ _ => rfl) ?_
      refine mx_J.step (sn_185 64) (fun _ _ => rfl) ?_
      have c73 : ∀ (k2_0 : Int), 0 ≤ k2_0 ∧ k2_0 ≤ 2 → (wy (2 * 19 + k2_0) = wy (2 * 19 + x1) ∧ k2_0 ≤ 2) → mx_J (tB l D b0 ad Hb tau) mt_185 (d + 2) 73 [some (.ref 56), some (xI 2), some (xI x1), some (xI x2), none] [xI k2_0] h Post := by
        intro k2_0 f2_0 f2_1
        refine mx_J.step (ls2 := [some (.ref 56), some (xI 2), some (xI x1), some (xI x2), some (xI k2_0)]) (sn_185 73) (fun _ _ => rfl) ?_
        have c75 : ∀ (m3 : Nat) (w3_4 : Int) (Z4 : xZ) (h4 : mx_H), w3_4 - 0 < (m3 : Int) → 0 ≤ w3_4 ∧ w3_4 ≤ 2 → (Z4 56 18 + wy (2 * 19 + w3_4) = Z 56 18 + wy (2 * 19 + x1)) → XH n s S Z4 h4 → GB n S Z4 → fr' [(56, 18), (61, (-1)), (63, (-1))] Z Z4 → mx_J (tB l D b0 ad Hb tau) mt_185 (d + 2) 75 [some (.ref 56), some (xI 2), some (xI x1), some (xI x2), some (xI w3_4)] [] h4 Post := by
          intro m3
          induction m3 with
          | zero => intro w3_4 Z4 h4 q3 f3_0 f3_1 hx4 hG4 hf4; exact absurd q3 (by omega)
          | succ m3 ih3 =>
            intro w3_4 Z4 h4 q3 f3_0 f3_1 hx4 hG4 hf4
            have b5 : 0 ≤ Z4 56 18 ∧ Z4 56 18 ≤ 385 := hG4.pr 56 18
            refine mx_J.step (sn_185 75) (fun _ _ => rfl) ?_
            refine Jif_le (show mx_Sn _ _ 77 (mx_if_le 107 80) from sn_185 77) (by omega) (fun q6 => ?_) (fun q6 => ?_)
            · skip
              have w0 : wy (2 * 19 + w3_4) = 0 := by rw [show w3_4 = 0 by omega]; exact Wy0 (by omega)
              have b7 : 0 ≤ Z4 56 18 ∧ Z4 56 18 ≤ 385 := hG4.pr 56 18
              have b8 : 0 ≤ Z4 56 18 ∧ Z4 56 18 ≤ 385 := hG4.pr 56 18
              exact mx_J.ret (sn_185 107) (fun _ _ => rfl) (hP Z4 h4 hx4 hG4 (fr_tr (M := [(56, 18), (61, (-1)), (63, (-1))]) fr_rf (hf4) (M1 := []) rfl rfl) (by omega))
            · skip
              refine mx_J.step (sn_185 80) (fun _ _ => rfl) ?_
              refine JgetR (g := 17) (b := 63) hx4 (show mx_Sn _ _ 81 (mx_getf 12 17 84) from sn_185 81) a56 s56 rfl rfl (hG4.prr 56 17 rfl) ?_
              refine mx_J.step (sn_185 84) (fun _ _ => rfl) ?_
              refine mx_J.step (sn_185 85) (fun _ _ => rfl) ?_
              refine JiastI hx4 (show mx_Sn _ _ 87 (mx_iast 1 88) from sn_185 87) a63 s63 rfl (by omega) (fun Z10 h10 hx10 hE10 => ?_)
              have hG10 := GB_up hG4 hE10 (show 0 ≤ w3_4 ∧ w3_4 ≤ 18 by omega) trivial rfl
              have wr := WRr (n := 2) (m := w3_4) (by omega) (by omega)
              refine mx_J.step (sn_185 88) (fun _ _ => rfl) ?_
              refine mx_J.step (sn_185 89) (fun _ _ => rfl) ?_
              refine mx_J.step (sn_185 90) (fun _ _ => rfl) ?_
              refine Jisub (show mx_Sn _ _ 92 (mx_isub 93) from sn_185 92) ?_
              refine mx_J.step (sn_185 93) (fun _ _ => rfl) ?_
              refine mx_J.step (sn_185 95) (fun _ _ => rfl) ?_
              refine JcI (z := 1) (show mx_Sn _ _ 96 (mx_const (.int 1) 97) from sn_185 96) rfl ?_
              refine Jiadd (show mx_Sn _ _ 97 (mx_iadd 98) from sn_185 97) ?_
              have eq12 : Z10 56 18 = Z4 56 18 := (up_nk hE10 rfl)
              have b13 : 0 ≤ Z4 56 18 ∧ Z4 56 18 ≤ 385 := hG4.pr 56 18
              obtain ⟨Z11, h11, hc11, hx11, hG11, hf11, b11⟩ := ct_185_56_le1 (d := d + 0) (l := l) (D := D) (b0 := b0) (ad := ad) (Hb := Hb) (tau := tau) hx10 hG10 (show 0 ≤ 2 - w3_4 ∧ 2 - w3_4 ≤ 1 by omega) (show 0 ≤ w3_4 ∧ w3_4 ≤ 18 by omega) (show 0 ≤ x2 + 1 ∧ x2 + 1 ≤ 18 by omega) (show Z10 56 18 + wy ((2 - w3_4) * 19 + w3_4) ≤ 385 by first | omega | (simp only [eq12]; omega)) (show (x2 + 1) + (2 - w3_4) ≤ 18 by first | omega | (simp only [eq12]; omega))
              try rw [eq12] at b11
              have b14 : 0 ≤ Z11 56 18 ∧ Z11 56 18 ≤ 385 := hG11.pr 56 18
              refine Jcv0 hx10 (show mx_Sn _ _ 98 (mx_callv 185 4 12 101) from sn_185 98) a56 s56 hc11 rfl rfl rfl ?_
              refine Jiinc (z := w3_4) (cz := (-1)) (ls2 := [some (.ref 56), some (xI 2), some (xI x1), some (xI x2), some (xI (w3_4 + (-1)))]) (show mx_Sn _ _ 101 (mx_iinc 4 (-1) 104) from sn_185 101) rfl rfl rfl rfl ?_
              refine mx_J.step (sn_185 104) (fun _ _ => rfl) ?_
              have b15 : 0 ≤ Z11 56 18 ∧ Z11 56 18 ≤ 385 := hG11.pr 56 18
              exact ih3 (w3_4 + (-1)) Z11 h11 (by omega) (by omega) (by omega) hx11 hG11 (fr_tr (M := [(56, 18), (61, (-1)), (63, (-1))]) (fr_tr (M := [(56, 18), (61, (-1)), (63, (-1))]) (fr_tr (M := [(56, 18), (61, (-1)), (63, (-1))]) fr_rf (hf4) (M1 := []) rfl rfl) (fr_ua hE10) rfl rfl) (hf11) rfl rfl)
        have b16 : 0 ≤ Z 56 18 ∧ Z 56 18 ≤ 385 := hG.pr 56 18
        exact c75 (Int.toNat (k2_0 - 0) + 1) k2_0 Z h (by omega) (by omega) (by omega) hx hG fr_rf
      refine Jicmp_ge (show mx_Sn _ _ 65 (mx_icmp_ge 72 68) from sn_185 65) (by omega) (by omega) (fun q17 => ?_) (fun q17 => ?_)
      · skip
        refine mx_J.step (sn_185 72) (fun _ _ => rfl) ?_
        exact c73 2 (by omega) (by first | exact ⟨rfl, by omega⟩ | exact ⟨WSs (n := 2) (by omega) (by omega), by omega⟩)
      · skip
        refine mx_J.step (sn_185 68) (fun _ _ => rfl) ?_
        refine mx_J.step (sn_185 69) (fun _ _ => rfl) ?_
        exact c73 x1 (by omega) (by first | exact ⟨rfl, by omega⟩ | exact ⟨WSs (n := 2) (by omega) (by omega), by omega⟩)
    · skip
      exfalso; omega
theorem ct_185_56_i2 {l : Launch} {D : va_G} {b0 : Nat} {ad : Nat → Nat} {Hb : Heap} {tau : Nat → Int64} {d n s : Nat} {S : Nat → xS} {Z : xZ} {h : mx_H} (hx : XH n s S Z h) (hG : GB n S Z)  {x1 x2 : Int} (p1 : 0 ≤ x1 ∧ x1 ≤ 18) (p2 : 0 ≤ x2 ∧ x2 ≤ 18) (k0 : Z 56 18 + wy (2 * 19 + x1) ≤ 385) (k1 : x2 + 2 ≤ 18) : ∃ (Z' : xZ) (h' : mx_H), mx_Ca (tB l D b0 ad Hb tau) (d + 3) 185 [.ref 56, xI 2, xI x1, xI x2] h (none, h') ∧ XH n s S Z' h' ∧ GB n S Z' ∧ fr' [(56, 18), (61, (-1)), (63, (-1))] Z Z' ∧ (Z' 56 18 = Z 56 18 + wy (2 * 19 + x1)) := by
  obtain ⟨r, hca, Z', h', e, q⟩ := Jmt (B := tB l D b0 ad Hb tau) (M := mt_185) (mi := 185) (as := [.ref 56, xI 2, xI x1, xI x2]) (d := d + 2) (ls := [some (.ref 56), some (xI 2), some (xI x1), some (xI x2), none]) rfl rfl rfl rfl rfl rfl (cw_185_56_i2 (l := l) (D := D) (b0 := b0) (ad := ad) (Hb := Hb) (tau := tau) (d := d) (Post := fun r => ∃ (Z' : xZ) (h' : mx_H), r = (none, h') ∧ XH n s S Z' h' ∧ GB n S Z' ∧ fr' [(56, 18), (61, (-1)), (63, (-1))] Z Z' ∧ (Z' 56 18 = Z 56 18 + wy (2 * 19 + x1))) hx hG p1 p2 k0 k1 (fun Z' h' q1 q2 q3 q4 => ⟨Z', h', rfl, q1, q2, q3, q4⟩))
  subst e; exact ⟨Z', h', hca, q⟩
theorem ct_185_56_le2 {l : Launch} {D : va_G} {b0 : Nat} {ad : Nat → Nat} {Hb : Heap} {tau : Nat → Int64} {d n s : Nat} {S : Nat → xS} {Z : xZ} {h : mx_H} (hx : XH n s S Z h) (hG : GB n S Z) {x0 x1 x2 : Int} (p0 : 0 ≤ x0 ∧ x0 ≤ 2) (p1 : 0 ≤ x1 ∧ x1 ≤ 18) (p2 : 0 ≤ x2 ∧ x2 ≤ 18) (k0 : Z 56 18 + wy (x0 * 19 + x1) ≤ 385) (k1 : x2 + x0 ≤ 18) : ∃ (Z' : xZ) (h' : mx_H), mx_Ca (tB l D b0 ad Hb tau) (d + 3) 185 [.ref 56, xI x0, xI x1, xI x2] h (none, h') ∧ XH n s S Z' h' ∧ GB n S Z' ∧ fr' [(56, 18), (61, (-1)), (63, (-1))] Z Z' ∧ (Z' 56 18 = Z 56 18 + wy (x0 * 19 + x1)) := by
  have hc : x0 = 0 ∨ x0 = 1 ∨ x0 = 2 := by omega
  rcases hc with hc | hc | hc
  · subst hc
    obtain ⟨Z', h', hca, q1, q2, q3, q4⟩ := ct_185_56_i0 (d := d + 2) (l := l) (D := D) (b0 := b0) (ad := ad) (Hb := Hb) (tau := tau) hx hG p1 p2 k0 k1
    exact ⟨Z', h', hca, q1, q2, fr_tr (M1 := []) fr_rf q3 rfl rfl, q4⟩
  · subst hc
    obtain ⟨Z', h', hca, q1, q2, q3, q4⟩ := ct_185_56_i1 (d := d + 1) (l := l) (D := D) (b0 := b0) (ad := ad) (Hb := Hb) (tau := tau) hx hG p1 p2 k0 k1
    exact ⟨Z', h', hca, q1, q2, fr_tr (M1 := []) fr_rf q3 rfl rfl, q4⟩
  · subst hc
    obtain ⟨Z', h', hca, q1, q2, q3, q4⟩ := ct_185_56_i2 (d := d + 0) (l := l) (D := D) (b0 := b0) (ad := ad) (Hb := Hb) (tau := tau) hx hG p1 p2 k0 k1
    exact ⟨Z', h', hca, q1, q2, fr_tr (M1 := []) fr_rf q3 rfl rfl, q4⟩
set_option maxRecDepth 100000 in
theorem cw_185_56_i3 {l : Launch} {D : va_G} {b0 : Nat} {ad : Nat → Nat} {Hb : Heap} {tau : Nat → Int64} {d n s : Nat} {S : Nat → xS} {Z : xZ} {h : mx_H} {Post : mx_R → Prop} (hx : XH n s S Z h) (hG : GB n S Z)  {x1 x2 : Int} (p1 : 0 ≤ x1 ∧ x1 ≤ 18) (p2 : 0 ≤ x2 ∧ x2 ≤ 18) (k0 : Z 56 18 + wy (3 * 19 + x1) ≤ 385) (k1 : x2 + 3 ≤ 18) (hP : ∀ (Z' : xZ) (h' : mx_H), XH n s S Z' h' → GB n S Z' → fr' [(56, 18), (61, (-1)), (63, (-1))] Z Z' → Z' 56 18 = Z 56 18 + wy (3 * 19 + x1) → Post (none, h')) : mx_J (tB l D b0 ad Hb tau) mt_185 (d + 3) 0 [some (.ref 56), some (xI 3), some (xI x1), some (xI x2), none] [] h Post := by
    have a56 : 56 < n := lt83 (GB_n hG) rfl
    have s56 : S 56 = .inl (12, [0, 2, 2, 2, 2, 0, 0, 0, 0, 0, 0, 0, 0, 0, 0, 2, 2, 2, 0, 2, 2, 2, 0, 0, 2, 2, 2, 2, 2, 2, 0, 0, 2, 2, 2, 2, 2, 2, 2, 2, 2, 2]) := GB_s hG 56 rfl
    have a63 : 63 < n := lt83 (GB_n hG) rfl
    have s63 : S 63 = .inr (.int, 18, 0) := GB_s hG 63 rfl
    refine mx_J.step (sn_185 0) (fun _ _ => rfl) ?_
    refine Jif_ne (show mx_Sn _ _ 1 (mx_if_ne 63 4) from sn_185 1) (by omega) (fun q1 => ?_) (fun q1 => ?_)
    · skip
      refine mx_J.step (sn_185 63) (fun _ _ => rfl) ?_
      refine mx_J.step (sn_185 64) (fun _ _ => rfl) ?_
      have c73 : ∀ (k2_0 : Int), 0 ≤ k2_0 ∧ k2_0 ≤ 3 → (wy (3 * 19 + k2_0) = wy (3 * 19 + x1) ∧ k2_0 ≤ 3) → mx_J (tB l D b0 ad Hb tau) mt_185 (d + 3) 73 [some (.ref 56), some (xI 3), some (xI x1), some (xI x2), none] [xI k2_0] h Post := by
        intro k2_0 f2_0 f2_1
        refine mx_J.step (ls2 := [some (.ref 56), some (xI 3), some (xI x1), some (xI x2), some (xI k2_0)]) (sn_185 73) (fun _ _ => rfl) ?_
        have c75 : ∀ (m3 : Nat) (w3_4 : Int) (Z4 : xZ) (h4 : mx_H), w3_4 - 0 < (m3 : Int) → 0 ≤ w3_4 ∧ w3_4 ≤ 3 → (Z4 56 18 + wy (3 * 19 + w3_4) = Z 56 18 + wy (3 * 19 + x1)) → XH n s S Z4 h4 → GB n S Z4 → fr' [(56, 18), (61, (-1)), (63, (-1))] Z Z4 → mx_J (tB l D b0 ad Hb tau) mt_185 (d + 3) 75 [some (.ref 56), some (xI 3), some (xI x1), some (xI x2), some (xI w3_4)] [] h4 Post := by
          intro m3
          induction m3 with
          | zero => intro w3_4 Z4 h4 q3 f3_0 f3_1 hx4 hG4 hf4; exact absurd q3 (by omega)
          | succ m3 ih3 =>
            intro w3_4 Z4 h4 q3 f3_0 f3_1 hx4 hG4 hf4
            have b5 : 0 ≤ Z4 56 18 ∧ Z4 56 18 ≤ 385 := hG4.pr 56 18
            refine mx_J.step (sn_185 75) (fun _ _ => rfl) ?_
            refine Jif_le (show mx_Sn _ _ 77 (mx_if_le 107 80) from sn_185 77) (by omega) (fun q6 => ?_) (fun q6 => ?_)
            · skip
              have w0 : wy (3 * 19 + w3_4) = 0 := by rw [show w3_4 = 0 by omega]; exact Wy0 (by omega)
              have b7 : 0 ≤ Z4 56 18 ∧ Z4 56 18 ≤ 385 := hG4.pr 56 18
              have b8 : 0 ≤ Z4 56 18 ∧ Z4 56 18 ≤ 385 := hG4.pr 56 18
              exact mx_J.ret (sn_185 107) (fun _ _ => rfl) (hP Z4 h4 hx4 hG4 (fr_tr (M := [(56, 18), (61, (-1)), (63, (-1))]) fr_rf (hf4) (M1 := []) rfl rfl) (by omega))
            · skip
              refine mx_J.step (sn_185 80) (fun _ _ => rfl) ?_
              refine JgetR (g := 17) (b := 63) hx4 (show mx_Sn _ _ 81 (mx_getf 12 17 84) from sn_185 81) a56 s56 rfl rfl (hG4.prr 56 17 rfl) ?_
              refine mx_J.step (sn_185 84) (fun _ _ => rfl) ?_
              refine mx_J.step (sn_185 85) (fun _ _ => rfl) ?_
              refine JiastI hx4 (show mx_Sn _ _ 87 (mx_iast 1 88) from sn_185 87) a63 s63 rfl (by omega) (fun Z10 h10 hx10 hE10 => ?_)
              have hG10 := GB_up hG4 hE10 (show 0 ≤ w3_4 ∧ w3_4 ≤ 18 by omega) trivial rfl
              have wr := WRr (n := 3) (m := w3_4) (by omega) (by omega)
              refine mx_J.step (sn_185 88) (fun _ _ => rfl) ?_
              refine mx_J.step (sn_185 89) (fun _ _ => rfl) ?_
              refine mx_J.step (sn_185 90) (fun _ _ => rfl) ?_
              refine Jisub (show mx_Sn _ _ 92 (mx_isub 93) from sn_185 92) ?_
              refine mx_J.step (sn_185 93) (fun _ _ => rfl) ?_
              refine mx_J.step (sn_185 95) (fun _ _ => rfl) ?_
              refine JcI (z := 1) (show mx_Sn _ _ 96 (mx_const (.int 1) 97) from sn_185 96) rfl ?_
              refine Jiadd (show mx_Sn _ _ 97 (mx_iadd 98) from sn_185 97) ?_
              have eq12 : Z10 56 18 = Z4 56 18 := (up_nk hE10 rfl)
              have b13 : 0 ≤ Z4 56 18 ∧ Z4 56 18 ≤ 385 := hG4.pr 56 18
              obtain ⟨Z11, h11, hc11, hx11, hG11, hf11, b11⟩ := ct_185_56_le2 (d := d + 0) (l := l) (D := D) (b0 := b0) (ad := ad) (Hb := Hb) (tau := tau) hx10 hG10 (show 0 ≤ 3 - w3_4 ∧ 3 - w3_4 ≤ 2 by omega) (show 0 ≤ w3_4 ∧ w3_4 ≤ 18 by omega) (show 0 ≤ x2 + 1 ∧ x2 + 1 ≤ 18 by omega) (show Z10 56 18 + wy ((3 - w3_4) * 19 + w3_4) ≤ 385 by first | omega | (simp only [eq12]; omega)) (show (x2 + 1) + (3 - w3_4) ≤ 18 by first | omega | (simp only [eq12]; omega))
              try rw [eq12] at b11
              have b14 : 0 ≤ Z11 56 18 ∧ Z11 56 18 ≤ 385 := hG11.pr 56 18
              refine Jcv0 hx10 (show mx_Sn _ _ 98 (mx_callv 185 4 12 101) from sn_185 98) a56 s56 hc11 rfl rfl rfl ?_
              refine Jiinc (z := w3_4) (cz := (-1)) (ls2 := [some (.ref 56), some (xI 3), some (xI x1), some (xI x2), some (xI (w3_4 + (-1)))]) (show mx_Sn _ _ 101 (mx_iinc 4 (-1) 104) from sn_185 101) rfl rfl rfl rfl ?_
              refine mx_J.step (sn_185 104) (fun _ _ => rfl) ?_
              have b15 : 0 ≤ Z11 56 18 ∧ Z11 56 18 ≤ 385 := hG11.pr 56 18
              exact ih3 (w3_4 + (-1)) Z11 h11 (by omega) (by omega) (by omega) hx11 hG11 (fr_tr (M := [(56, 18), (61, (-1)), (63, (-1))]) (fr_tr (M := [(56, 18), (61, (-1)), (63, (-1))]) (fr_tr (M := [(56, 18), (61, (-1)), (63, (-1))]) fr_rf (hf4) (M1 := []) rfl rfl) (fr_ua hE10) rfl rfl) (hf11) rfl rfl)
        have b16 : 0 ≤ Z 56 18 ∧ Z 56 18 ≤ 385 := hG.pr 56 18
        exact c75 (Int.toNat (k2_0 - 0) + 1) k2_0 Z h (by omega) (by omega) (by omega) hx hG fr_rf
      refine Jicmp_ge (show mx_Sn _ _ 65 (mx_icmp_ge 72 68) from sn_185 65) (by omega) (by omega) (fun q17 => ?_) (fun q17 => ?_)
      · skip
        refine mx_J.step (sn_185 72) (fun _ _ => rfl) ?_
        exact c73 3 (by omega) (by first | exact ⟨rfl, by omega⟩ | exact ⟨WSs (n := 3) (by omega) (by omega), by omega⟩)
      · skip
        refine mx_J.step (sn_185 68) (fun _ _ => rfl) ?_
        refine mx_J.step (sn_185 69) (fun _ _ => rfl) ?_
        exact c73 x1 (by omega) (by first | exact ⟨rfl, by omega⟩ | exact ⟨WSs (n := 3) (by omega) (by omega), by omega⟩)
    · skip
      exfalso; omega
theorem ct_185_56_i3 {l : Launch} {D : va_G} {b0 : Nat} {ad : Nat → Nat} {Hb : Heap} {tau : Nat → Int64} {d n s : Nat} {S : Nat → xS} {Z : xZ} {h : mx_H} (hx : XH n s S Z h) (hG : GB n S Z)  {x1 x2 : Int} (p1 : 0 ≤ x1 ∧ x1 ≤ 18) (p2 : 0 ≤ x2 ∧ x2 ≤ 18) (k0 : Z 56 18 + wy (3 * 19 + x1) ≤ 385) (k1 : x2 + 3 ≤ 18) : ∃ (Z' : xZ) (h' : mx_H), mx_Ca (tB l D b0 ad Hb tau) (d + 4) 185 [.ref 56, xI 3, xI x1, xI x2] h (none, h') ∧ XH n s S Z' h' ∧ GB n S Z' ∧ fr' [(56, 18), (61, (-1)), (63, (-1))] Z Z' ∧ (Z' 56 18 = Z 56 18 + wy (3 * 19 + x1)) := by
  obtain ⟨r, hca, Z', h', e, q⟩ := Jmt (B := tB l D b0 ad Hb tau) (M := mt_185) (mi := 185) (as := [.ref 56, xI 3, xI x1, xI x2]) (d := d + 3) (ls := [some (.ref 56), some (xI 3), some (xI x1), some (xI x2), none]) rfl rfl rfl rfl rfl rfl (cw_185_56_i3 (l := l) (D := D) (b0 := b0) (ad := ad) (Hb := Hb) (tau := tau) (d := d) (Post := fun r => ∃ (Z' : xZ) (h' : mx_H), r = (none, h') ∧ XH n s S Z' h' ∧ GB n S Z' ∧ fr' [(56, 18), (61, (-1)), (63, (-1))] Z Z' ∧ (Z' 56 18 = Z 56 18 + wy (3 * 19 + x1))) hx hG p1 p2 k0 k1 (fun Z' h' q1 q2 q3 q4 => ⟨Z', h', rfl, q1, q2, q3, q4⟩))
  subst e; exact ⟨Z', h', hca, q⟩
theorem ct_185_56_le3 {l : Launch} {D : va_G} {b0 : Nat} {ad : Nat → Nat} {Hb : Heap} {tau : Nat → Int64} {d n s : Nat} {S : Nat → xS} {Z : xZ} {h : mx_H} (hx : XH n s S Z h) (hG : GB n S Z) {x0 x1 x2 : Int} (p0 : 0 ≤ x0 ∧ x0 ≤ 3) (p1 : 0 ≤ x1 ∧ x1 ≤ 18) (p2 : 0 ≤ x2 ∧ x2 ≤ 18) (k0 : Z 56 18 + wy (x0 * 19 + x1) ≤ 385) (k1 : x2 + x0 ≤ 18) : ∃ (Z' : xZ) (h' : mx_H), mx_Ca (tB l D b0 ad Hb tau) (d + 4) 185 [.ref 56, xI x0, xI x1, xI x2] h (none, h') ∧ XH n s S Z' h' ∧ GB n S Z' ∧ fr' [(56, 18), (61, (-1)), (63, (-1))] Z Z' ∧ (Z' 56 18 = Z 56 18 + wy (x0 * 19 + x1)) := by
  have hc : x0 = 0 ∨ x0 = 1 ∨ x0 = 2 ∨ x0 = 3 := by omega
  rcases hc with hc | hc | hc | hc
  · subst hc
    obtain ⟨Z', h', hca, q1, q2, q3, q4⟩ := ct_185_56_i0 (d := d + 3) (l := l) (D := D) (b0 := b0) (ad := ad) (Hb := Hb) (tau := tau) hx hG p1 p2 k0 k1
    exact ⟨Z', h', hca, q1, q2, fr_tr (M1 := []) fr_rf q3 rfl rfl, q4⟩
  · subst hc
    obtain ⟨Z', h', hca, q1, q2, q3, q4⟩ := ct_185_56_i1 (d := d + 2) (l := l) (D := D) (b0 := b0) (ad := ad) (Hb := Hb) (tau := tau) hx hG p1 p2 k0 k1
    exact ⟨Z', h', hca, q1, q2, fr_tr (M1 := []) fr_rf q3 rfl rfl, q4⟩
  · subst hc
    obtain ⟨Z', h', hca, q1, q2, q3, q4⟩ := ct_185_56_i2 (d := d + 1) (l := l) (D := D) (b0 := b0) (ad := ad) (Hb := Hb) (tau := tau) hx hG p1 p2 k0 k1
    exact ⟨Z', h', hca, q1, q2, fr_tr (M1 := []) fr_rf q3 rfl rfl, q4⟩
  · subst hc
    obtain ⟨Z', h', hca, q1, q2, q3, q4⟩ := ct_185_56_i3 (d := d + 0) (l := l) (D := D) (b0 := b0) (ad := ad) (Hb := Hb) (tau := tau) hx hG p1 p2 k0 k1
    exact ⟨Z', h', hca, q1, q2, fr_tr (M1 := []) fr_rf q3 rfl rfl, q4⟩
set_option maxRecDepth 100000 in
theorem cw_185_56_i4 {l : Launch} {D : va_G} {b0 : Nat} {ad : Nat → Nat} {Hb : Heap} {tau : Nat → Int64} {d n s : Nat} {S : Nat → xS} {Z : xZ} {h : mx_H} {Post : mx_R → Prop} (hx : XH n s S Z h) (hG : GB n S Z)  {x1 x2 : Int} (p1 : 0 ≤ x1 ∧ x1 ≤ 18) (p2 : 0 ≤ x2 ∧ x2 ≤ 18) (k0 : Z 56 18 + wy (4 * 19 + x1) ≤ 385) (k1 : x2 + 4 ≤ 18) (hP : ∀ (Z' : xZ) (h' : mx_H), XH n s S Z' h' → GB n S Z' → fr' [(56, 18), (61, (-1)), (63, (-1))] Z Z' → Z' 56 18 = Z 56 18 + wy (4 * 19 + x1) → Post (none, h')) : mx_J (tB l D b0 ad Hb tau) mt_185 (d + 4) 0 [some (.ref 56), some (xI 4), some (xI x1), some (xI x2), none] [] h Post := by
    have a56 : 56 < n := lt83 (GB_n hG) rfl
    have s56 : S 56 = .inl (12, [0, 2, 2, 2, 2, 0, 0, 0, 0, 0, 0, 0, 0, 0, 0, 2, 2, 2, 0, 2, 2, 2, 0, 0, 2, 2, 2, 2, 2, 2, 0, 0, 2, 2, 2, 2, 2, 2, 2, 2, 2, 2]) := GB_s hG 56 rfl
    have a63 : 63 < n := lt83 (GB_n hG) rfl
    have s63 : S 63 = .inr (.int, 18, 0) := GB_s hG 63 rfl
    refine mx_J.step (sn_185 0) (fun _ _ => rfl) ?_
    refine Jif_ne (show mx_Sn _ _ 1 (mx_if_ne 63 4) from sn_185 1) (by omega) (fun q1 => ?_) (fun q1 => ?_)
    · skip
      refine mx_J.step (sn_185 63) (fun _ _ => rfl) ?_
      refine mx_J.step (sn_185 64) (fun _ _ => rfl) ?_
      have c73 : ∀ (k2_0 : Int), 0 ≤ k2_0 ∧ k2_0 ≤ 4 → (wy (4 * 19 + k2_0) = wy (4 * 19 + x1) ∧ k2_0 ≤ 4) → mx_J (tB l D b0 ad Hb tau) mt_185 (d + 4) 73 [some (.ref 56), some (xI 4), some (xI x1), some (xI x2), none] [xI k2_0] h Post := by
        intro k2_0 f2_0 f2_1
        refine mx_J.step (ls2 := [some (.ref 56), some (xI 4), some (xI x1), some (xI x2), some (xI k2_0)]) (sn_185 73) (fun _ _ => rfl) ?_
        have c75 : ∀ (m3 : Nat) (w3_4 : Int) (Z4 : xZ) (h4 : mx_H), w3_4 - 0 < (m3 : Int) → 0 ≤ w3_4 ∧ w3_4 ≤ 4 → (Z4 56 18 + wy (4 * 19 + w3_4) = Z 56 18 + wy (4 * 19 + x1)) → XH n s S Z4 h4 → GB n S Z4 → fr' [(56, 18), (61, (-1)), (63, (-1))] Z Z4 → mx_J (tB l D b0 ad Hb tau) mt_185 (d + 4) 75 [some (.ref 56), some (xI 4), some (xI x1), some (xI x2), some (xI w3_4)] [] h4 Post := by
          intro m3
          induction m3 with
          | zero => intro w3_4 Z4 h4 q3 f3_0 f3_1 hx4 hG4 hf4; exact absurd q3 (by omega)
          | succ m3 ih3 =>
            intro w3_4 Z4 h4 q3 f3_0 f3_1 hx4 hG4 hf4
            have b5 : 0 ≤ Z4 56 18 ∧ Z4 56 18 ≤ 385 := hG4.pr 56 18
            refine mx_J.step (sn_185 75) (fun _ _ => rfl) ?_
            refine Jif_le (show mx_Sn _ _ 77 (mx_if_le 107 80) from sn_185 77) (by omega) (fun q6 => ?_) (fun q6 => ?_)
            · skip
              have w0 : wy (4 * 19 + w3_4) = 0 := by rw [show w3_4 = 0 by omega]; exact Wy0 (by omega)
              have b7 : 0 ≤ Z4 56 18 ∧ Z4 56 18 ≤ 385 := hG4.pr 56 18
              have b8 : 0 ≤ Z4 56 18 ∧ Z4 56 18 ≤ 385 := hG4.pr 56 18
              exact mx_J.ret (sn_185 107) (fun _ _ => rfl) (hP Z4 h4 hx4 hG4 (fr_tr (M := [(56, 18), (61, (-1)), (63, (-1))]) fr_rf (hf4) (M1 := []) rfl rfl) (by omega))
            · skip
              refine mx_J.step (sn_185 80) (fun _ _ => rfl) ?_
              refine JgetR (g := 17) (b := 63) hx4 (show mx_Sn _ _ 81 (mx_getf 12 17 84) from sn_185 81) a56 s56 rfl rfl (hG4.prr 56 17 rfl) ?_
              refine mx_J.step (sn_185 84) (fun _ _ => rfl) ?_
              refine mx_J.step (sn_185 85) (fun _ _ => rfl) ?_
              refine JiastI hx4 (show mx_Sn _ _ 87 (mx_iast 1 88) from sn_185 87) a63 s63 rfl (by omega) (fun Z10 h10 hx10 hE10 => ?_)
              have hG10 := GB_up hG4 hE10 (show 0 ≤ w3_4 ∧ w3_4 ≤ 18 by omega) trivial rfl
              have wr := WRr (n := 4) (m := w3_4) (by omega) (by omega)
              refine mx_J.step (sn_185 88) (fun _ _ => rfl) ?_
              refine mx_J.step (sn_185 89) (fun _ _ => rfl) ?_
              refine mx_J.step (sn_185 90) (fun _ _ => rfl) ?_
              refine Jisub (show mx_Sn _ _ 92 (mx_isub 93) from sn_185 92) ?_
              refine mx_J.step (sn_185 93) (fun _ _ => rfl) ?_
              refine mx_J.step (sn_185 95) (fun _ _ => rfl) ?_
              refine JcI (z := 1) (show mx_Sn _ _ 96 (mx_const (.int 1) 97) from sn_185 96) rfl ?_
              refine Jiadd (show mx_Sn _ _ 97 (mx_iadd 98) from sn_185 97) ?_
              have eq12 : Z10 56 18 = Z4 56 18 := (up_nk hE10 rfl)
              have b13 : 0 ≤ Z4 56 18 ∧ Z4 56 18 ≤ 385 := hG4.pr 56 18
              obtain ⟨Z11, h11, hc11, hx11, hG11, hf11, b11⟩ := ct_185_56_le3 (d := d + 0) (l := l) (D := D) (b0 := b0) (ad := ad) (Hb := Hb) (tau := tau) hx10 hG10 (show 0 ≤ 4 - w3_4 ∧ 4 - w3_4 ≤ 3 by omega) (show 0 ≤ w3_4 ∧ w3_4 ≤ 18 by omega) (show 0 ≤ x2 + 1 ∧ x2 + 1 ≤ 18 by omega) (show Z10 56 18 + wy ((4 - w3_4) * 19 + w3_4) ≤ 385 by first | omega | (simp only [eq12]; omega)) (show (x2 + 1) + (4 - w3_4) ≤ 18 by first | omega | (simp only [eq12]; omega))
              try rw [eq12] at b11
              have b14 : 0 ≤ Z11 56 18 ∧ Z11 56 18 ≤ 385 := hG11.pr 56 18
              refine Jcv0 hx10 (show mx_Sn _ _ 98 (mx_callv 185 4 12 101) from sn_185 98) a56 s56 hc11 rfl rfl rfl ?_
              refine Jiinc (z := w3_4) (cz := (-1)) (ls2 := [some (.ref 56), some (xI 4), some (xI x1), some (xI x2), some (xI (w3_4 + (-1)))]) (show mx_Sn _ _ 101 (mx_iinc 4 (-1) 104) from sn_185 101) rfl rfl rfl rfl ?_
              refine mx_J.step (sn_185 104) (fun _ _ => rfl) ?_
              have b15 : 0 ≤ Z11 56 18 ∧ Z11 56 18 ≤ 385 := hG11.pr 56 18
              exact ih3 (w3_4 + (-1)) Z11 h11 (by omega) (by omega) (by omega) hx11 hG11 (fr_tr (M := [(56, 18), (61, (-1)), (63, (-1))]) (fr_tr (M := [(56, 18), (61, (-1)), (63, (-1))]) (fr_tr (M := [(56, 18), (61, (-1)), (63, (-1))]) fr_rf (hf4) (M1 := []) rfl rfl) (fr_ua hE10) rfl rfl) (hf11) rfl rfl)
        have b16 : 0 ≤ Z 56 18 ∧ Z 56 18 ≤ 385 := hG.pr 56 18
        exact c75 (Int.toNat (k2_0 - 0) + 1) k2_0 Z h (by omega) (by omega) (by omega) hx hG fr_rf
      refine Jicmp_ge (show mx_Sn _ _ 65 (mx_icmp_ge 72 68) from sn_185 65) (by omega) (by omega) (fun q17 => ?_) (fun q17 => ?_)
      · skip
        refine mx_J.step (sn_185 72) (fun _ _ => rfl) ?_
        exact c73 4 (by omega) (by first | exact ⟨rfl, by omega⟩ | exact ⟨WSs (n := 4) (by omega) (by omega), by omega⟩)
      · skip
        refine mx_J.step (sn_185 68) (fun _ _ => rfl) ?_
        refine mx_J.step (sn_185 69) (fun _ _ => rfl) ?_
        exact c73 x1 (by omega) (by first | exact ⟨rfl, by omega⟩ | exact ⟨WSs (n := 4) (by omega) (by omega), by omega⟩)
    · skip
      exfalso; omega
theorem ct_185_56_i4 {l : Launch} {D : va_G} {b0 : Nat} {ad : Nat → Nat} {Hb : Heap} {tau : Nat → Int64} {d n s : Nat} {S : Nat → xS} {Z : xZ} {h : mx_H} (hx : XH n s S Z h) (hG : GB n S Z)  {x1 x2 : Int} (p1 : 0 ≤ x1 ∧ x1 ≤ 18) (p2 : 0 ≤ x2 ∧ x2 ≤ 18) (k0 : Z 56 18 + wy (4 * 19 + x1) ≤ 385) (k1 : x2 + 4 ≤ 18) : ∃ (Z' : xZ) (h' : mx_H), mx_Ca (tB l D b0 ad Hb tau) (d + 5) 185 [.ref 56, xI 4, xI x1, xI x2] h (none, h') ∧ XH n s S Z' h' ∧ GB n S Z' ∧ fr' [(56, 18), (61, (-1)), (63, (-1))] Z Z' ∧ (Z' 56 18 = Z 56 18 + wy (4 * 19 + x1)) := by
  obtain ⟨r, hca, Z', h', e, q⟩ := Jmt (B := tB l D b0 ad Hb tau) (M := mt_185) (mi := 185) (as := [.ref 56, xI 4, xI x1, xI x2]) (d := d + 4) (ls := [some (.ref 56), some (xI 4), some (xI x1), some (xI x2), none]) rfl rfl rfl rfl rfl rfl (cw_185_56_i4 (l := l) (D := D) (b0 := b0) (ad := ad) (Hb := Hb) (tau := tau) (d := d) (Post := fun r => ∃ (Z' : xZ) (h' : mx_H), r = (none, h') ∧ XH n s S Z' h' ∧ GB n S Z' ∧ fr' [(56, 18), (61, (-1)), (63, (-1))] Z Z' ∧ (Z' 56 18 = Z 56 18 + wy (4 * 19 + x1))) hx hG p1 p2 k0 k1 (fun Z' h' q1 q2 q3 q4 => ⟨Z', h', rfl, q1, q2, q3, q4⟩))
  subst e; exact ⟨Z', h', hca, q⟩
theorem ct_185_56_le4 {l : Launch} {D : va_G} {b0 : Nat} {ad : Nat → Nat} {Hb : Heap} {tau : Nat → Int64} {d n s : Nat} {S : Nat → xS} {Z : xZ} {h : mx_H} (hx : XH n s S Z h) (hG : GB n S Z) {x0 x1 x2 : Int} (p0 : 0 ≤ x0 ∧ x0 ≤ 4) (p1 : 0 ≤ x1 ∧ x1 ≤ 18) (p2 : 0 ≤ x2 ∧ x2 ≤ 18) (k0 : Z 56 18 + wy (x0 * 19 + x1) ≤ 385) (k1 : x2 + x0 ≤ 18) : ∃ (Z' : xZ) (h' : mx_H), mx_Ca (tB l D b0 ad Hb tau) (d + 5) 185 [.ref 56, xI x0, xI x1, xI x2] h (none, h') ∧ XH n s S Z' h' ∧ GB n S Z' ∧ fr' [(56, 18), (61, (-1)), (63, (-1))] Z Z' ∧ (Z' 56 18 = Z 56 18 + wy (x0 * 19 + x1)) := by
  have hc : x0 = 0 ∨ x0 = 1 ∨ x0 = 2 ∨ x0 = 3 ∨ x0 = 4 := by omega
  rcases hc with hc | hc | hc | hc | hc
  · subst hc
    obtain ⟨Z', h', hca, q1, q2, q3, q4⟩ := ct_185_56_i0 (d := d + 4) (l := l) (D := D) (b0 := b0) (ad := ad) (Hb := Hb) (tau := tau) hx hG p1 p2 k0 k1
    exact ⟨Z', h', hca, q1, q2, fr_tr (M1 := []) fr_rf q3 rfl rfl, q4⟩
  · subst hc
    obtain ⟨Z', h', hca, q1, q2, q3, q4⟩ := ct_185_56_i1 (d := d + 3) (l := l) (D := D) (b0 := b0) (ad := ad) (Hb := Hb) (tau := tau) hx hG p1 p2 k0 k1
    exact ⟨Z', h', hca, q1, q2, fr_tr (M1 := []) fr_rf q3 rfl rfl, q4⟩
  · subst hc
    obtain ⟨Z', h', hca, q1, q2, q3, q4⟩ := ct_185_56_i2 (d := d + 2) (l := l) (D := D) (b0 := b0) (ad := ad) (Hb := Hb) (tau := tau) hx hG p1 p2 k0 k1
    exact ⟨Z', h', hca, q1, q2, fr_tr (M1 := []) fr_rf q3 rfl rfl, q4⟩
  · subst hc
    obtain ⟨Z', h', hca, q1, q2, q3, q4⟩ := ct_185_56_i3 (d := d + 1) (l := l) (D := D) (b0 := b0) (ad := ad) (Hb := Hb) (tau := tau) hx hG p1 p2 k0 k1
    exact ⟨Z', h', hca, q1, q2, fr_tr (M1 := []) fr_rf q3 rfl rfl, q4⟩
  · subst hc
    obtain ⟨Z', h', hca, q1, q2, q3, q4⟩ := ct_185_56_i4 (d := d + 0) (l := l) (D := D) (b0 := b0) (ad := ad) (Hb := Hb) (tau := tau) hx hG p1 p2 k0 k1
    exact ⟨Z', h', hca, q1, q2, fr_tr (M1 := []) fr_rf q3 rfl rfl, q4⟩
set_option maxRecDepth 100000 in
theorem cw_185_56_i5 {l : Launch} {D : va_G} {b0 : Nat} {ad : Nat → Nat} {Hb : Heap} {tau : Nat → Int64} {d n s : Nat} {S : Nat → xS} {Z : xZ} {h : mx_H} {Post : mx_R → Prop} (hx : XH n s S Z h) (hG : GB n S Z)  {x1 x2 : Int} (p1 : 0 ≤ x1 ∧ x1 ≤ 18) (p2 : 0 ≤ x2 ∧ x2 ≤ 18) (k0 : Z 56 18 + wy (5 * 19 + x1) ≤ 385) (k1 : x2 + 5 ≤ 18) (hP : ∀ (Z' : xZ) (h' : mx_H), XH n s S Z' h' → GB n S Z' → fr' [(56, 18), (61, (-1)), (63, (-1))] Z Z' → Z' 56 18 = Z 56 18 + wy (5 * 19 + x1) → Post (none, h')) : mx_J (tB l D b0 ad Hb tau) mt_185 (d + 5) 0 [some (.ref 56), some (xI 5), some (xI x1), some (xI x2), none] [] h Post := by
    have a56 : 56 < n := lt83 (GB_n hG) rfl
    have s56 : S 56 = .inl (12, [0, 2, 2, 2, 2, 0, 0, 0, 0, 0, 0, 0, 0, 0, 0, 2, 2, 2, 0, 2, 2, 2, 0, 0, 2, 2, 2, 2, 2, 2, 0, 0, 2, 2, 2, 2, 2, 2, 2, 2, 2, 2]) := GB_s hG 56 rfl
    have a63 : 63 < n := lt83 (GB_n hG) rfl
    have s63 : S 63 = .inr (.int, 18, 0) := GB_s hG 63 rfl
    refine mx_J.step (sn_185 0) (fun _ _ => rfl) ?_
    refine Jif_ne (show mx_Sn _ _ 1 (mx_if_ne 63 4) from sn_185 1) (by omega) (fun q1 => ?_) (fun q1 => ?_)
    · skip
      refine mx_J.step (sn_185 63) (fun _ _ => rfl) ?_
      refine mx_J.step (sn_185 64) (fun _ _ => rfl) ?_
      have c73 : ∀ (k2_0 : Int), 0 ≤ k2_0 ∧ k2_0 ≤ 5 → (wy (5 * 19 + k2_0) = wy (5 * 19 + x1) ∧ k2_0 ≤ 5) → mx_J (tB l D b0 ad Hb tau) mt_185 (d + 5) 73 [some (.ref 56), some (xI 5), some (xI x1), some (xI x2), none] [xI k2_0] h Post := by
        intro k2_0 f2_0 f2_1
        refine mx_J.step (ls2 := [some (.ref 56), some (xI 5), some (xI x1), some (xI x2), some (xI k2_0)]) (sn_185 73) (fun _ _ => rfl) ?_
        have c75 : ∀ (m3 : Nat) (w3_4 : Int) (Z4 : xZ) (h4 : mx_H), w3_4 - 0 < (m3 : Int) → 0 ≤ w3_4 ∧ w3_4 ≤ 5 → (Z4 56 18 + wy (5 * 19 + w3_4) = Z 56 18 + wy (5 * 19 + x1)) → XH n s S Z4 h4 → GB n S Z4 → fr' [(56, 18), (61, (-1)), (63, (-1))] Z Z4 → mx_J (tB l D b0 ad Hb tau) mt_185 (d + 5) 75 [some (.ref 56), some (xI 5), some (xI x1), some (xI x2), some (xI w3_4)] [] h4 Post := by
          intro m3
          induction m3 with
          | zero => intro w3_4 Z4 h4 q3 f3_0 f3_1 hx4 hG4 hf4; exact absurd q3 (by omega)
          | succ m3 ih3 =>
            intro w3_4 Z4 h4 q3 f3_0 f3_1 hx4 hG4 hf4
            have b5 : 0 ≤ Z4 56 18 ∧ Z4 56 18 ≤ 385 := hG4.pr 56 18
            refine mx_J.step (sn_185 75) (fun _ _ => rfl) ?_
            refine Jif_le (show mx_Sn _ _ 77 (mx_if_le 107 80) from sn_185 77) (by omega) (fun q6 => ?_) (fun q6 => ?_)
            · skip
              have w0 : wy (5 * 19 + w3_4) = 0 := by rw [show w3_4 = 0 by omega]; exact Wy0 (by omega)
              have b7 : 0 ≤ Z4 56 18 ∧ Z4 56 18 ≤ 385 := hG4.pr 56 18
              have b8 : 0 ≤ Z4 56 18 ∧ Z4 56 18 ≤ 385 := hG4.pr 56 18
              exact mx_J.ret (sn_185 107) (fun _ _ => rfl) (hP Z4 h4 hx4 hG4 (fr_tr (M := [(56, 18), (61, (-1)), (63, (-1))]) fr_rf (hf4) (M1 := []) rfl rfl) (by omega))
            · skip
              refine mx_J.step (sn_185 80) (fun _ _ => rfl) ?_
              refine JgetR (g := 17) (b := 63) hx4 (show mx_Sn _ _ 81 (mx_getf 12 17 84) from sn_185 81) a56 s56 rfl rfl (hG4.prr 56 17 rfl) ?_
              refine mx_J.step (sn_185 84) (fun _ _ => rfl) ?_
              refine mx_J.step (sn_185 85) (fun _ _ => rfl) ?_
              refine JiastI hx4 (show mx_Sn _ _ 87 (mx_iast 1 88) from sn_185 87) a63 s63 rfl (by omega) (fun Z10 h10 hx10 hE10 => ?_)
              have hG10 := GB_up hG4 hE10 (show 0 ≤ w3_4 ∧ w3_4 ≤ 18 by omega) trivial rfl
              have wr := WRr (n := 5) (m := w3_4) (by omega) (by omega)
              refine mx_J.step (sn_185 88) (fun _ _ => rfl) ?_
              refine mx_J.step (sn_185 89) (fun _ _ => rfl) ?_
              refine mx_J.step (sn_185 90) (fun _ _ => rfl) ?_
              refine Jisub (show mx_Sn _ _ 92 (mx_isub 93) from sn_185 92) ?_
              refine mx_J.step (sn_185 93) (fun _ _ => rfl) ?_
              refine mx_J.step (sn_185 95) (fun _ _ => rfl) ?_
              refine JcI (z := 1) (show mx_Sn _ _ 96 (mx_const (.int 1) 97) from sn_185 96) rfl ?_
              refine Jiadd (show mx_Sn _ _ 97 (mx_iadd 98) from sn_185 97) ?_
              have eq12 : Z10 56 18 = Z4 56 18 := (up_nk hE10 rfl)
              have b13 : 0 ≤ Z4 56 18 ∧ Z4 56 18 ≤ 385 := hG4.pr 56 18
              obtain ⟨Z11, h11, hc11, hx11, hG11, hf11, b11⟩ := ct_185_56_le4 (d := d + 0) (l := l) (D := D) (b0 := b0) (ad := ad) (Hb := Hb) (tau := tau) hx10 hG10 (show 0 ≤ 5 - w3_4 ∧ 5 - w3_4 ≤ 4 by omega) (show 0 ≤ w3_4 ∧ w3_4 ≤ 18 by omega) (show 0 ≤ x2 + 1 ∧ x2 + 1 ≤ 18 by omega) (show Z10 56 18 + wy ((5 - w3_4) * 19 + w3_4) ≤ 385 by first | omega | (simp only [eq12]; omega)) (show (x2 + 1) + (5 - w3_4) ≤ 18 by first | omega | (simp only [eq12]; omega))
              try rw [eq12] at b11
              have b14 : 0 ≤ Z11 56 18 ∧ Z11 56 18 ≤ 385 := hG11.pr 56 18
              refine Jcv0 hx10 (show mx_Sn _ _ 98 (mx_callv 185 4 12 101) from sn_185 98) a56 s56 hc11 rfl rfl rfl ?_
              refine Jiinc (z := w3_4) (cz := (-1)) (ls2 := [some (.ref 56), some (xI 5), some (xI x1), some (xI x2), some (xI (w3_4 + (-1)))]) (show mx_Sn _ _ 101 (mx_iinc 4 (-1) 104) from sn_185 101) rfl rfl rfl rfl ?_
              refine mx_J.step (sn_185 104) (fun _ _ => rfl) ?_
              have b15 : 0 ≤ Z11 56 18 ∧ Z11 56 18 ≤ 385 := hG11.pr 56 18
              exact ih3 (w3_4 + (-1)) Z11 h11 (by omega) (by omega) (by omega) hx11 hG11 (fr_tr (M := [(56, 18), (61, (-1)), (63, (-1))]) (fr_tr (M := [(56, 18), (61, (-1)), (63, (-1))]) (fr_tr (M := [(56, 18), (61, (-1)), (63, (-1))]) fr_rf (hf4) (M1 := []) rfl rfl) (fr_ua hE10) rfl rfl) (hf11) rfl rfl)
        have b16 : 0 ≤ Z 56 18 ∧ Z 56 18 ≤ 385 := hG.pr 56 18
        exact c75 (Int.toNat (k2_0 - 0) + 1) k2_0 Z h (by omega) (by omega) (by omega) hx hG fr_rf
      refine Jicmp_ge (show mx_Sn _ _ 65 (mx_icmp_ge 72 68) from sn_185 65) (by omega) (by omega) (fun q17 => ?_) (fun q17 => ?_)
      · skip
        refine mx_J.step (sn_185 72) (fun _ _ => rfl) ?_
        exact c73 5 (by omega) (by first | exact ⟨rfl, by omega⟩ | exact ⟨WSs (n := 5) (by omega) (by omega), by omega⟩)
      · skip
        refine mx_J.step (sn_185 68) (fun _ _ => rfl) ?_
        refine mx_J.step (sn_185 69) (fun _ _ => rfl) ?_
        exact c73 x1 (by omega) (by first | exact ⟨rfl, by omega⟩ | exact ⟨WSs (n := 5) (by omega) (by omega), by omega⟩)
    · skip
      exfalso; omega
theorem ct_185_56_i5 {l : Launch} {D : va_G} {b0 : Nat} {ad : Nat → Nat} {Hb : Heap} {tau : Nat → Int64} {d n s : Nat} {S : Nat → xS} {Z : xZ} {h : mx_H} (hx : XH n s S Z h) (hG : GB n S Z)  {x1 x2 : Int} (p1 : 0 ≤ x1 ∧ x1 ≤ 18) (p2 : 0 ≤ x2 ∧ x2 ≤ 18) (k0 : Z 56 18 + wy (5 * 19 + x1) ≤ 385) (k1 : x2 + 5 ≤ 18) : ∃ (Z' : xZ) (h' : mx_H), mx_Ca (tB l D b0 ad Hb tau) (d + 6) 185 [.ref 56, xI 5, xI x1, xI x2] h (none, h') ∧ XH n s S Z' h' ∧ GB n S Z' ∧ fr' [(56, 18), (61, (-1)), (63, (-1))] Z Z' ∧ (Z' 56 18 = Z 56 18 + wy (5 * 19 + x1)) := by
  obtain ⟨r, hca, Z', h', e, q⟩ := Jmt (B := tB l D b0 ad Hb tau) (M := mt_185) (mi := 185) (as := [.ref 56, xI 5, xI x1, xI x2]) (d := d + 5) (ls := [some (.ref 56), some (xI 5), some (xI x1), some (xI x2), none]) rfl rfl rfl rfl rfl rfl (cw_185_56_i5 (l := l) (D := D) (b0 := b0) (ad := ad) (Hb := Hb) (tau := tau) (d := d) (Post := fun r => ∃ (Z' : xZ) (h' : mx_H), r = (none, h') ∧ XH n s S Z' h' ∧ GB n S Z' ∧ fr' [(56, 18), (61, (-1)), (63, (-1))] Z Z' ∧ (Z' 56 18 = Z 56 18 + wy (5 * 19 + x1))) hx hG p1 p2 k0 k1 (fun Z' h' q1 q2 q3 q4 => ⟨Z', h', rfl, q1, q2, q3, q4⟩))
  subst e; exact ⟨Z', h', hca, q⟩
theorem ct_185_56_le5 {l : Launch} {D : va_G} {b0 : Nat} {ad : Nat → Nat} {Hb : Heap} {tau : Nat → Int64} {d n s : Nat} {S : Nat → xS} {Z : xZ} {h : mx_H} (hx : XH n s S Z h) (hG : GB n S Z) {x0 x1 x2 : Int} (p0 : 0 ≤ x0 ∧ x0 ≤ 5) (p1 : 0 ≤ x1 ∧ x1 ≤ 18) (p2 : 0 ≤ x2 ∧ x2 ≤ 18) (k0 : Z 56 18 + wy (x0 * 19 + x1) ≤ 385) (k1 : x2 + x0 ≤ 18) : ∃ (Z' : xZ) (h' : mx_H), mx_Ca (tB l D b0 ad Hb tau) (d + 6) 185 [.ref 56, xI x0, xI x1, xI x2] h (none, h') ∧ XH n s S Z' h' ∧ GB n S Z' ∧ fr' [(56, 18), (61, (-1)), (63, (-1))] Z Z' ∧ (Z' 56 18 = Z 56 18 + wy (x0 * 19 + x1)) := by
  have hc : x0 = 0 ∨ x0 = 1 ∨ x0 = 2 ∨ x0 = 3 ∨ x0 = 4 ∨ x0 = 5 := by omega
  rcases hc with hc | hc | hc | hc | hc | hc
  · subst hc
    obtain ⟨Z', h', hca, q1, q2, q3, q4⟩ := ct_185_56_i0 (d := d + 5) (l := l) (D := D) (b0 := b0) (ad := ad) (Hb := Hb) (tau := tau) hx hG p1 p2 k0 k1
    exact ⟨Z', h', hca, q1, q2, fr_tr (M1 := []) fr_rf q3 rfl rfl, q4⟩
  · subst hc
    obtain ⟨Z', h', hca, q1, q2, q3, q4⟩ := ct_185_56_i1 (d := d + 4) (l := l) (D := D) (b0 := b0) (ad := ad) (Hb := Hb) (tau := tau) hx hG p1 p2 k0 k1
    exact ⟨Z', h', hca, q1, q2, fr_tr (M1 := []) fr_rf q3 rfl rfl, q4⟩
  · subst hc
    obtain ⟨Z', h', hca, q1, q2, q3, q4⟩ := ct_185_56_i2 (d := d + 3) (l := l) (D := D) (b0 := b0) (ad := ad) (Hb := Hb) (tau := tau) hx hG p1 p2 k0 k1
    exact ⟨Z', h', hca, q1, q2, fr_tr (M1 := []) fr_rf q3 rfl rfl, q4⟩
  · subst hc
    obtain ⟨Z', h', hca, q1, q2, q3, q4⟩ := ct_185_56_i3 (d := d + 2) (l := l) (D := D) (b0 := b0) (ad := ad) (Hb := Hb) (tau := tau) hx hG p1 p2 k0 k1
    exact ⟨Z', h', hca, q1, q2, fr_tr (M1 := []) fr_rf q3 rfl rfl, q4⟩
  · subst hc
    obtain ⟨Z', h', hca, q1, q2, q3, q4⟩ := ct_185_56_i4 (d := d + 1) (l := l) (D := D) (b0 := b0) (ad := ad) (Hb := Hb) (tau := tau) hx hG p1 p2 k0 k1
    exact ⟨Z', h', hca, q1, q2, fr_tr (M1 := []) fr_rf q3 rfl rfl, q4⟩
  · subst hc
    obtain ⟨Z', h', hca, q1, q2, q3, q4⟩ := ct_185_56_i5 (d := d + 0) (l := l) (D := D) (b0 := b0) (ad := ad) (Hb := Hb) (tau := tau) hx hG p1 p2 k0 k1
    exact ⟨Z', h', hca, q1, q2, fr_tr (M1 := []) fr_rf q3 rfl rfl, q4⟩
set_option maxRecDepth 100000 in
theorem cw_185_56_i6 {l : Launch} {D : va_G} {b0 : Nat} {ad : Nat → Nat} {Hb : Heap} {tau : Nat → Int64} {d n s : Nat} {S : Nat → xS} {Z : xZ} {h : mx_H} {Post : mx_R → Prop} (hx : XH n s S Z h) (hG : GB n S Z)  {x1 x2 : Int} (p1 : 0 ≤ x1 ∧ x1 ≤ 18) (p2 : 0 ≤ x2 ∧ x2 ≤ 18) (k0 : Z 56 18 + wy (6 * 19 + x1) ≤ 385) (k1 : x2 + 6 ≤ 18) (hP : ∀ (Z' : xZ) (h' : mx_H), XH n s S Z' h' → GB n S Z' → fr' [(56, 18), (61, (-1)), (63, (-1))] Z Z' → Z' 56 18 = Z 56 18 + wy (6 * 19 + x1) → Post (none, h')) : mx_J (tB l D b0 ad Hb tau) mt_185 (d + 6) 0 [some (.ref 56), some (xI 6), some (xI x1), some (xI x2), none] [] h Post := by
    have a56 : 56 < n := lt83 (GB_n hG) rfl
    have s56 : S 56 = .inl (12, [0, 2, 2, 2, 2, 0, 0, 0, 0, 0, 0, 0, 0, 0, 0, 2, 2, 2, 0, 2, 2, 2, 0, 0, 2, 2, 2, 2, 2, 2, 0, 0, 2, 2, 2, 2, 2, 2, 2, 2, 2, 2]) := GB_s hG 56 rfl
    have a63 : 63 < n := lt83 (GB_n hG) rfl
    have s63 : S 63 = .inr (.int, 18, 0) := GB_s hG 63 rfl
    refine mx_J.step (sn_185 0) (fun _ _ => rfl) ?_
    refine Jif_ne (show mx_Sn _ _ 1 (mx_if_ne 63 4) from sn_185 1) (by omega) (fun q1 => ?_) (fun q1 => ?_)
    · skip
      refine mx_J.step (sn_185 63) (fun _ _ => rfl) ?_
      refine mx_J.step (sn_185 64) (fun _ _ => rfl) ?_
      have c73 : ∀ (k2_0 : Int), 0 ≤ k2_0 ∧ k2_0 ≤ 6 → (wy (6 * 19 + k2_0) = wy (6 * 19 + x1) ∧ k2_0 ≤ 6) → mx_J (tB l D b0 ad Hb tau) mt_185 (d + 6) 73 [some (.ref 56), some (xI 6), some (xI x1), some (xI x2), none] [xI k2_0] h Post := by
        intro k2_0 f2_0 f2_1
        refine mx_J.step (ls2 := [some (.ref 56), some (xI 6), some (xI x1), some (xI x2), some (xI k2_0)]) (sn_185 73) (fun _ _ => rfl) ?_
        have c75 : ∀ (m3 : Nat) (w3_4 : Int) (Z4 : xZ) (h4 : mx_H), w3_4 - 0 < (m3 : Int) → 0 ≤ w3_4 ∧ w3_4 ≤ 6 → (Z4 56 18 + wy (6 * 19 + w3_4) = Z 56 18 + wy (6 * 19 + x1)) → XH n s S Z4 h4 → GB n S Z4 → fr' [(56, 18), (61, (-1)), (63, (-1))] Z Z4 → mx_J (tB l D b0 ad Hb tau) mt_185 (d + 6) 75 [some (.ref 56), some (xI 6), some (xI x1), some (xI x2), some (xI w3_4)] [] h4 Post := by
          intro m3
          induction m3 with
          | zero => intro w3_4 Z4 h4 q3 f3_0 f3_1 hx4 hG4 hf4; exact absurd q3 (by omega)
          | succ m3 ih3 =>
            intro w3_4 Z4 h4 q3 f3_0 f3_1 hx4 hG4 hf4
            have b5 : 0 ≤ Z4 56 18 ∧ Z4 56 18 ≤ 385 := hG4.pr 56 18
            refine mx_J.step (sn_185 75) (fun _ _ => rfl) ?_
            refine Jif_le (show mx_Sn _ _ 77 (mx_if_le 107 80) from sn_185 77) (by omega) (fun q6 => ?_) (fun q6 => ?_)
            · skip
              have w0 : wy (6 * 19 + w3_4) = 0 := by rw [show w3_4 = 0 by omega]; exact Wy0 (by omega)
              have b7 : 0 ≤ Z4 56 18 ∧ Z4 56 18 ≤ 385 := hG4.pr 56 18
              have b8 : 0 ≤ Z4 56 18 ∧ Z4 56 18 ≤ 385 := hG4.pr 56 18
              exact mx_J.ret (sn_185 107) (fun _ _ => rfl) (hP Z4 h4 hx4 hG4 (fr_tr (M := [(56, 18), (61, (-1)), (63, (-1))]) fr_rf (hf4) (M1 := []) rfl rfl) (by omega))
            · skip
              refine mx_J.step (sn_185 80) (fun _ _ => rfl) ?_
              refine JgetR (g := 17) (b := 63) hx4 (show mx_Sn _ _ 81 (mx_getf 12 17 84) from sn_185 81) a56 s56 rfl rfl (hG4.prr 56 17 rfl) ?_
              refine mx_J.step (sn_185 84) (fun _ _ => rfl) ?_
              refine mx_J.step (sn_185 85) (fun _ _ => rfl) ?_
              refine JiastI hx4 (show mx_Sn _ _ 87 (mx_iast 1 88) from sn_185 87) a63 s63 rfl (by omega) (fun Z10 h10 hx10 hE10 => ?_)
              have hG10 := GB_up hG4 hE10 (show 0 ≤ w3_4 ∧ w3_4 ≤ 18 by omega) trivial rfl
              have wr := WRr (n := 6) (m := w3_4) (by omega) (by omega)
              refine mx_J.step (sn_185 88) (fun _ _ => rfl) ?_
              refine mx_J.step (sn_185 89) (fun _ _ => rfl) ?_
              refine mx_J.step (sn_185 90) (fun _ _ => rfl) ?_
              refine Jisub (show mx_Sn _ _ 92 (mx_isub 93) from sn_185 92) ?_
              refine mx_J.step (sn_185 93) (fun _ _ => rfl) ?_
              refine mx_J.step (sn_185 95) (fun _ _ => rfl) ?_
              refine JcI (z := 1) (show mx_Sn _ _ 96 (mx_const (.int 1) 97) from sn_185 96) rfl ?_
              refine Jiadd (show mx_Sn _ _ 97 (mx_iadd 98) from sn_185 97) ?_
              have eq12 : Z10 56 18 = Z4 56 18 := (up_nk hE10 rfl)
              have b13 : 0 ≤ Z4 56 18 ∧ Z4 56 18 ≤ 385 := hG4.pr 56 18
              obtain ⟨Z11, h11, hc11, hx11, hG11, hf11, b11⟩ := ct_185_56_le5 (d := d + 0) (l := l) (D := D) (b0 := b0) (ad := ad) (Hb := Hb) (tau := tau) hx10 hG10 (show 0 ≤ 6 - w3_4 ∧ 6 - w3_4 ≤ 5 by omega) (show 0 ≤ w3_4 ∧ w3_4 ≤ 18 by omega) (show 0 ≤ x2 + 1 ∧ x2 + 1 ≤ 18 by omega) (show Z10 56 18 + wy ((6 - w3_4) * 19 + w3_4) ≤ 385 by first | omega | (simp only [eq12]; omega)) (show (x2 + 1) + (6 - w3_4) ≤ 18 by first | omega | (simp only [eq12]; omega))
              try rw [eq12] at b11
              have b14 : 0 ≤ Z11 56 18 ∧ Z11 56 18 ≤ 385 := hG11.pr 56 18
              refine Jcv0 hx10 (show mx_Sn _ _ 98 (mx_callv 185 4 12 101) from sn_185 98) a56 s56 hc11 rfl rfl rfl ?_
              refine Jiinc (z := w3_4) (cz := (-1)) (ls2 := [some (.ref 56), some (xI 6), some (xI x1), some (xI x2), some (xI (w3_4 + (-1)))]) (show mx_Sn _ _ 101 (mx_iinc 4 (-1) 104) from sn_185 101) rfl rfl rfl rfl ?_
              refine mx_J.step (sn_185 104) (fun _ _ => rfl) ?_
              have b15 : 0 ≤ Z11 56 18 ∧ Z11 56 18 ≤ 385 := hG11.pr 56 18
              exact ih3 (w3_4 + (-1)) Z11 h11 (by omega) (by omega) (by omega) hx11 hG11 (fr_tr (M := [(56, 18), (61, (-1)), (63, (-1))]) (fr_tr (M := [(56, 18), (61, (-1)), (63, (-1))]) (fr_tr (M := [(56, 18), (61, (-1)), (63, (-1))]) fr_rf (hf4) (M1 := []) rfl rfl) (fr_ua hE10) rfl rfl) (hf11) rfl rfl)
        have b16 : 0 ≤ Z 56 18 ∧ Z 56 18 ≤ 385 := hG.pr 56 18
        exact c75 (Int.toNat (k2_0 - 0) + 1) k2_0 Z h (by omega) (by omega) (by omega) hx hG fr_rf
      refine Jicmp_ge (show mx_Sn _ _ 65 (mx_icmp_ge 72 68) from sn_185 65) (by omega) (by omega) (fun q17 => ?_) (fun q17 => ?_)
      · skip
        refine mx_J.step (sn_185 72) (fun _ _ => rfl) ?_
        exact c73 6 (by omega) (by first | exact ⟨rfl, by omega⟩ | exact ⟨WSs (n := 6) (by omega) (by omega), by omega⟩)
      · skip
        refine mx_J.step (sn_185 68) (fun _ _ => rfl) ?_
        refine mx_J.step (sn_185 69) (fun _ _ => rfl) ?_
        exact c73 x1 (by omega) (by first | exact ⟨rfl, by omega⟩ | exact ⟨WSs (n := 6) (by omega) (by omega), by omega⟩)
    · skip
      exfalso; omega
theorem ct_185_56_i6 {l : Launch} {D : va_G} {b0 : Nat} {ad : Nat → Nat} {Hb : Heap} {tau : Nat → Int64} {d n s : Nat} {S : Nat → xS} {Z : xZ} {h : mx_H} (hx : XH n s S Z h) (hG : GB n S Z)  {x1 x2 : Int} (p1 : 0 ≤ x1 ∧ x1 ≤ 18) (p2 : 0 ≤ x2 ∧ x2 ≤ 18) (k0 : Z 56 18 + wy (6 * 19 + x1) ≤ 385) (k1 : x2 + 6 ≤ 18) : ∃ (Z' : xZ) (h' : mx_H), mx_Ca (tB l D b0 ad Hb tau) (d + 7) 185 [.ref 56, xI 6, xI x1, xI x2] h (none, h') ∧ XH n s S Z' h' ∧ GB n S Z' ∧ fr' [(56, 18), (61, (-1)), (63, (-1))] Z Z' ∧ (Z' 56 18 = Z 56 18 + wy (6 * 19 + x1)) := by
  obtain ⟨r, hca, Z', h', e, q⟩ := Jmt (B := tB l D b0 ad Hb tau) (M := mt_185) (mi := 185) (as := [.ref 56, xI 6, xI x1, xI x2]) (d := d + 6) (ls := [some (.ref 56), some (xI 6), some (xI x1), some (xI x2), none]) rfl rfl rfl rfl rfl rfl (cw_185_56_i6 (l := l) (D := D) (b0 := b0) (ad := ad) (Hb := Hb) (tau := tau) (d := d) (Post := fun r => ∃ (Z' : xZ) (h' : mx_H), r = (none, h') ∧ XH n s S Z' h' ∧ GB n S Z' ∧ fr' [(56, 18), (61, (-1)), (63, (-1))] Z Z' ∧ (Z' 56 18 = Z 56 18 + wy (6 * 19 + x1))) hx hG p1 p2 k0 k1 (fun Z' h' q1 q2 q3 q4 => ⟨Z', h', rfl, q1, q2, q3, q4⟩))
  subst e; exact ⟨Z', h', hca, q⟩
theorem ct_185_56_le6 {l : Launch} {D : va_G} {b0 : Nat} {ad : Nat → Nat} {Hb : Heap} {tau : Nat → Int64} {d n s : Nat} {S : Nat → xS} {Z : xZ} {h : mx_H} (hx : XH n s S Z h) (hG : GB n S Z) {x0 x1 x2 : Int} (p0 : 0 ≤ x0 ∧ x0 ≤ 6) (p1 : 0 ≤ x1 ∧ x1 ≤ 18) (p2 : 0 ≤ x2 ∧ x2 ≤ 18) (k0 : Z 56 18 + wy (x0 * 19 + x1) ≤ 385) (k1 : x2 + x0 ≤ 18) : ∃ (Z' : xZ) (h' : mx_H), mx_Ca (tB l D b0 ad Hb tau) (d + 7) 185 [.ref 56, xI x0, xI x1, xI x2] h (none, h') ∧ XH n s S Z' h' ∧ GB n S Z' ∧ fr' [(56, 18), (61, (-1)), (63, (-1))] Z Z' ∧ (Z' 56 18 = Z 56 18 + wy (x0 * 19 + x1)) := by
  have hc : x0 = 0 ∨ x0 = 1 ∨ x0 = 2 ∨ x0 = 3 ∨ x0 = 4 ∨ x0 = 5 ∨ x0 = 6 := by omega
  rcases hc with hc | hc | hc | hc | hc | hc | hc
  · subst hc
    obtain ⟨Z', h', hca, q1, q2, q3, q4⟩ := ct_185_56_i0 (d := d + 6) (l := l) (D := D) (b0 := b0) (ad := ad) (Hb := Hb) (tau := tau) hx hG p1 p2 k0 k1
    exact ⟨Z', h', hca, q1, q2, fr_tr (M1 := []) fr_rf q3 rfl rfl, q4⟩
  · subst hc
    obtain ⟨Z', h', hca, q1, q2, q3, q4⟩ := ct_185_56_i1 (d := d + 5) (l := l) (D := D) (b0 := b0) (ad := ad) (Hb := Hb) (tau := tau) hx hG p1 p2 k0 k1
    exact ⟨Z', h', hca, q1, q2, fr_tr (M1 := []) fr_rf q3 rfl rfl, q4⟩
  · subst hc
    obtain ⟨Z', h', hca, q1, q2, q3, q4⟩ := ct_185_56_i2 (d := d + 4) (l := l) (D := D) (b0 := b0) (ad := ad) (Hb := Hb) (tau := tau) hx hG p1 p2 k0 k1
    exact ⟨Z', h', hca, q1, q2, fr_tr (M1 := []) fr_rf q3 rfl rfl, q4⟩
  · subst hc
    obtain ⟨Z', h', hca, q1, q2, q3, q4⟩ := ct_185_56_i3 (d := d + 3) (l := l) (D := D) (b0 := b0) (ad := ad) (Hb := Hb) (tau := tau) hx hG p1 p2 k0 k1
    exact ⟨Z', h', hca, q1, q2, fr_tr (M1 := []) fr_rf q3 rfl rfl, q4⟩
  · subst hc
    obtain ⟨Z', h', hca, q1, q2, q3, q4⟩ := ct_185_56_i4 (d := d + 2) (l := l) (D := D) (b0 := b0) (ad := ad) (Hb := Hb) (tau := tau) hx hG p1 p2 k0 k1
    exact ⟨Z', h', hca, q1, q2, fr_tr (M1 := []) fr_rf q3 rfl rfl, q4⟩
  · subst hc
    obtain ⟨Z', h', hca, q1, q2, q3, q4⟩ := ct_185_56_i5 (d := d + 1) (l := l) (D := D) (b0 := b0) (ad := ad) (Hb := Hb) (tau := tau) hx hG p1 p2 k0 k1
    exact ⟨Z', h', hca, q1, q2, fr_tr (M1 := []) fr_rf q3 rfl rfl, q4⟩
  · subst hc
    obtain ⟨Z', h', hca, q1, q2, q3, q4⟩ := ct_185_56_i6 (d := d + 0) (l := l) (D := D) (b0 := b0) (ad := ad) (Hb := Hb) (tau := tau) hx hG p1 p2 k0 k1
    exact ⟨Z', h', hca, q1, q2, fr_tr (M1 := []) fr_rf q3 rfl rfl, q4⟩
set_option maxRecDepth 100000 in
theorem cw_185_56_i7 {l : Launch} {D : va_G} {b0 : Nat} {ad : Nat → Nat} {Hb : Heap} {tau : Nat → Int64} {d n s : Nat} {S : Nat → xS} {Z : xZ} {h : mx_H} {Post : mx_R → Prop} (hx : XH n s S Z h) (hG : GB n S Z)  {x1 x2 : Int} (p1 : 0 ≤ x1 ∧ x1 ≤ 18) (p2 : 0 ≤ x2 ∧ x2 ≤ 18) (k0 : Z 56 18 + wy (7 * 19 + x1) ≤ 385) (k1 : x2 + 7 ≤ 18) (hP : ∀ (Z' : xZ) (h' : mx_H), XH n s S Z' h' → GB n S Z' → fr' [(56, 18), (61, (-1)), (63, (-1))] Z Z' → Z' 56 18 = Z 56 18 + wy (7 * 19 + x1) → Post (none, h')) : mx_J (tB l D b0 ad Hb tau) mt_185 (d + 7) 0 [some (.ref 56), some (xI 7), some (xI x1), some (xI x2), none] [] h Post := by
    have a56 : 56 < n := lt83 (GB_n hG) rfl
    have s56 : S 56 = .inl (12, [0, 2, 2, 2, 2, 0, 0, 0, 0, 0, 0, 0, 0, 0, 0, 2, 2, 2, 0, 2, 2, 2, 0, 0, 2, 2, 2, 2, 2, 2, 0, 0, 2, 2, 2, 2, 2, 2, 2, 2, 2, 2]) := GB_s hG 56 rfl
    have a63 : 63 < n := lt83 (GB_n hG) rfl
    have s63 : S 63 = .inr (.int, 18, 0) := GB_s hG 63 rfl
    refine mx_J.step (sn_185 0) (fun _ _ => rfl) ?_
    refine Jif_ne (show mx_Sn _ _ 1 (mx_if_ne 63 4) from sn_185 1) (by omega) (fun q1 => ?_) (fun q1 => ?_)
    · skip
      refine mx_J.step (sn_185 63) (fun _ _ => rfl) ?_
      refine mx_J.step (sn_185 64) (fun _ _ => rfl) ?_
      have c73 : ∀ (k2_0 : Int), 0 ≤ k2_0 ∧ k2_0 ≤ 7 → (wy (7 * 19 + k2_0) = wy (7 * 19 + x1) ∧ k2_0 ≤ 7) → mx_J (tB l D b0 ad Hb tau) mt_185 (d + 7) 73 [some (.ref 56), some (xI 7), some (xI x1), some (xI x2), none] [xI k2_0] h Post := by
        intro k2_0 f2_0 f2_1
        refine mx_J.step (ls2 := [some (.ref 56), some (xI 7), some (xI x1), some (xI x2), some (xI k2_0)]) (sn_185 73) (fun _ _ => rfl) ?_
        have c75 : ∀ (m3 : Nat) (w3_4 : Int) (Z4 : xZ) (h4 : mx_H), w3_4 - 0 < (m3 : Int) → 0 ≤ w3_4 ∧ w3_4 ≤ 7 → (Z4 56 18 + wy (7 * 19 + w3_4) = Z 56 18 + wy (7 * 19 + x1)) → XH n s S Z4 h4 → GB n S Z4 → fr' [(56, 18), (61, (-1)), (63, (-1))] Z Z4 → mx_J (tB l D b0 ad Hb tau) mt_185 (d + 7) 75 [some (.ref 56), some (xI 7), some (xI x1), some (xI x2), some (xI w3_4)] [] h4 Post := by
          intro m3
          induction m3 with
          | zero => intro w3_4 Z4 h4 q3 f3_0 f3_1 hx4 hG4 hf4; exact absurd q3 (by omega)
          | succ m3 ih3 =>
            intro w3_4 Z4 h4 q3 f3_0 f3_1 hx4 hG4 hf4
            have b5 : 0 ≤ Z4 56 18 ∧ Z4 56 18 ≤ 385 := hG4.pr 56 18
            refine mx_J.step (sn_185 75) (fun _ _ => rfl) ?_
            refine Jif_le (show mx_Sn _ _ 77 (mx_if_le 107 80) from sn_185 77) (by omega) (fun q6 => ?_) (fun q6 => ?_)
            · skip
              have w0 : wy (7 * 19 + w3_4) = 0 := by rw [show w3_4 = 0 by omega]; exact Wy0 (by omega)
              have b7 : 0 ≤ Z4 56 18 ∧ Z4 56 18 ≤ 385 := hG4.pr 56 18
              have b8 : 0 ≤ Z4 56 18 ∧ Z4 56 18 ≤ 385 := hG4.pr 56 18
              exact mx_J.ret (sn_185 107) (fun _ _ => rfl) (hP Z4 h4 hx4 hG4 (fr_tr (M := [(56, 18), (61, (-1)), (63, (-1))]) fr_rf (hf4) (M1 := []) rfl rfl) (by omega))
            · skip
              refine mx_J.step (sn_185 80) (fun _ _ => rfl) ?_
              refine JgetR (g := 17) (b := 63) hx4 (show mx_Sn _ _ 81 (mx_getf 12 17 84) from sn_185 81) a56 s56 rfl rfl (hG4.prr 56 17 rfl) ?_
              refine mx_J.step (sn_185 84) (fun _ _ => rfl) ?_
              refine mx_J.step (sn_185 85) (fun _ _ => rfl) ?_
              refine JiastI hx4 (show mx_Sn _ _ 87 (mx_iast 1 88) from sn_185 87) a63 s63 rfl (by omega) (fun Z10 h10 hx10 hE10 => ?_)
              have hG10 := GB_up hG4 hE10 (show 0 ≤ w3_4 ∧ w3_4 ≤ 18 by omega) trivial rfl
              have wr := WRr (n := 7) (m := w3_4) (by omega) (by omega)
              refine mx_J.step (sn_185 88) (fun _ _ => rfl) ?_
              refine mx_J.step (sn_185 89) (fun _ _ => rfl) ?_
              refine mx_J.step (sn_185 90) (fun _ _ => rfl) ?_
              refine Jisub (show mx_Sn _ _ 92 (mx_isub 93) from sn_185 92) ?_
              refine mx_J.step (sn_185 93) (fun _ _ => rfl) ?_
              refine mx_J.step (sn_185 95) (fun _ _ => rfl) ?_
              refine JcI (z := 1) (show mx_Sn _ _ 96 (mx_const (.int 1) 97) from sn_185 96) rfl ?_
              refine Jiadd (show mx_Sn _ _ 97 (mx_iadd 98) from sn_185 97) ?_
              have eq12 : Z10 56 18 = Z4 56 18 := (up_nk hE10 rfl)
              have b13 : 0 ≤ Z4 56 18 ∧ Z4 56 18 ≤ 385 := hG4.pr 56 18
              obtain ⟨Z11, h11, hc11, hx11, hG11, hf11, b11⟩ := ct_185_56_le6 (d := d + 0) (l := l) (D := D) (b0 := b0) (ad := ad) (Hb := Hb) (tau := tau) hx10 hG10 (show 0 ≤ 7 - w3_4 ∧ 7 - w3_4 ≤ 6 by omega) (show 0 ≤ w3_4 ∧ w3_4 ≤ 18 by omega) (show 0 ≤ x2 + 1 ∧ x2 + 1 ≤ 18 by omega) (show Z10 56 18 + wy ((7 - w3_4) * 19 + w3_4) ≤ 385 by first | omega | (simp only [eq12]; omega)) (show (x2 + 1) + (7 - w3_4) ≤ 18 by first | omega | (simp only [eq12]; omega))
              try rw [eq12] at b11
              have b14 : 0 ≤ Z11 56 18 ∧ Z11 56 18 ≤ 385 := hG11.pr 56 18
              refine Jcv0 hx10 (show mx_Sn _ _ 98 (mx_callv 185 4 12 101) from sn_185 98) a56 s56 hc11 rfl rfl rfl ?_
              refine Jiinc (z := w3_4) (cz := (-1)) (ls2 := [some (.ref 56), some (xI 7), some (xI x1), some (xI x2), some (xI (w3_4 + (-1)))]) (show mx_Sn _ _ 101 (mx_iinc 4 (-1) 104) from sn_185 101) rfl rfl rfl rfl ?_
              refine mx_J.step (sn_185 104) (fun _ _ => rfl) ?_
              have b15 : 0 ≤ Z11 56 18 ∧ Z11 56 18 ≤ 385 := hG11.pr 56 18
              exact ih3 (w3_4 + (-1)) Z11 h11 (by omega) (by omega) (by omega) hx11 hG11 (fr_tr (M := [(56, 18), (61, (-1)), (63, (-1))]) (fr_tr (M := [(56, 18), (61, (-1)), (63, (-1))]) (fr_tr (M := [(56, 18), (61, (-1)), (63, (-1))]) fr_rf (hf4) (M1 := []) rfl rfl) (fr_ua hE10) rfl rfl) (hf11) rfl rfl)
        have b16 : 0 ≤ Z 56 18 ∧ Z 56 18 ≤ 385 := hG.pr 56 18
        exact c75 (Int.toNat (k2_0 - 0) + 1) k2_0 Z h (by omega) (by omega) (by omega) hx hG fr_rf
      refine Jicmp_ge (show mx_Sn _ _ 65 (mx_icmp_ge 72 68) from sn_185 65) (by omega) (by omega) (fun q17 => ?_) (fun q17 => ?_)
      · skip
        refine mx_J.step (sn_185 72) (fun _ _ => rfl) ?_
        exact c73 7 (by omega) (by first | exact ⟨rfl, by omega⟩ | exact ⟨WSs (n := 7) (by omega) (by omega), by omega⟩)
      · skip
        refine mx_J.step (sn_185 68) (fun _ _ => rfl) ?_
        refine mx_J.step (sn_185 69) (fun _ _ => rfl) ?_
        exact c73 x1 (by omega) (by first | exact ⟨rfl, by omega⟩ | exact ⟨WSs (n := 7) (by omega) (by omega), by omega⟩)
    · skip
      exfalso; omega
theorem ct_185_56_i7 {l : Launch} {D : va_G} {b0 : Nat} {ad : Nat → Nat} {Hb : Heap} {tau : Nat → Int64} {d n s : Nat} {S : Nat → xS} {Z : xZ} {h : mx_H} (hx : XH n s S Z h) (hG : GB n S Z)  {x1 x2 : Int} (p1 : 0 ≤ x1 ∧ x1 ≤ 18) (p2 : 0 ≤ x2 ∧ x2 ≤ 18) (k0 : Z 56 18 + wy (7 * 19 + x1) ≤ 385) (k1 : x2 + 7 ≤ 18) : ∃ (Z' : xZ) (h' : mx_H), mx_Ca (tB l D b0 ad Hb tau) (d + 8) 185 [.ref 56, xI 7, xI x1, xI x2] h (none, h') ∧ XH n s S Z' h' ∧ GB n S Z' ∧ fr' [(56, 18), (61, (-1)), (63, (-1))] Z Z' ∧ (Z' 56 18 = Z 56 18 + wy (7 * 19 + x1)) := by
  obtain ⟨r, hca, Z', h', e, q⟩ := Jmt (B := tB l D b0 ad Hb tau) (M := mt_185) (mi := 185) (as := [.ref 56, xI 7, xI x1, xI x2]) (d := d + 7) (ls := [some (.ref 56), some (xI 7), some (xI x1), some (xI x2), none]) rfl rfl rfl rfl rfl rfl (cw_185_56_i7 (l := l) (D := D) (b0 := b0) (ad := ad) (Hb := Hb) (tau := tau) (d := d) (Post := fun r => ∃ (Z' : xZ) (h' : mx_H), r = (none, h') ∧ XH n s S Z' h' ∧ GB n S Z' ∧ fr' [(56, 18), (61, (-1)), (63, (-1))] Z Z' ∧ (Z' 56 18 = Z 56 18 + wy (7 * 19 + x1))) hx hG p1 p2 k0 k1 (fun Z' h' q1 q2 q3 q4 => ⟨Z', h', rfl, q1, q2, q3, q4⟩))
  subst e; exact ⟨Z', h', hca, q⟩
theorem ct_185_56_le7 {l : Launch} {D : va_G} {b0 : Nat} {ad : Nat → Nat} {Hb : Heap} {tau : Nat → Int64} {d n s : Nat} {S : Nat → xS} {Z : xZ} {h : mx_H} (hx : XH n s S Z h) (hG : GB n S Z) {x0 x1 x2 : Int} (p0 : 0 ≤ x0 ∧ x0 ≤ 7) (p1 : 0 ≤ x1 ∧ x1 ≤ 18) (p2 : 0 ≤ x2 ∧ x2 ≤ 18) (k0 : Z 56 18 + wy (x0 * 19 + x1) ≤ 385) (k1 : x2 + x0 ≤ 18) : ∃ (Z' : xZ) (h' : mx_H), mx_Ca (tB l D b0 ad Hb tau) (d + 8) 185 [.ref 56, xI x0, xI x1, xI x2] h (none, h') ∧ XH n s S Z' h' ∧ GB n S Z' ∧ fr' [(56, 18), (61, (-1)), (63, (-1))] Z Z' ∧ (Z' 56 18 = Z 56 18 + wy (x0 * 19 + x1)) := by
  have hc : x0 = 0 ∨ x0 = 1 ∨ x0 = 2 ∨ x0 = 3 ∨ x0 = 4 ∨ x0 = 5 ∨ x0 = 6 ∨ x0 = 7 := by omega
  rcases hc with hc | hc | hc | hc | hc | hc | hc | hc
  · subst hc
    obtain ⟨Z', h', hca, q1, q2, q3, q4⟩ := ct_185_56_i0 (d := d + 7) (l := l) (D := D) (b0 := b0) (ad := ad) (Hb := Hb) (tau := tau) hx hG p1 p2 k0 k1
    exact ⟨Z', h', hca, q1, q2, fr_tr (M1 := []) fr_rf q3 rfl rfl, q4⟩
  · subst hc
    obtain ⟨Z', h', hca, q1, q2, q3, q4⟩ := ct_185_56_i1 (d := d + 6) (l := l) (D := D) (b0 := b0) (ad := ad) (Hb := Hb) (tau := tau) hx hG p1 p2 k0 k1
    exact ⟨Z', h', hca, q1, q2, fr_tr (M1 := []) fr_rf q3 rfl rfl, q4⟩
  · subst hc
    obtain ⟨Z', h', hca, q1, q2, q3, q4⟩ := ct_185_56_i2 (d := d + 5) (l := l) (D := D) (b0 := b0) (ad := ad) (Hb := Hb) (tau := tau) hx hG p1 p2 k0 k1
    exact ⟨Z', h', hca, q1, q2, fr_tr (M1 := []) fr_rf q3 rfl rfl, q4⟩
  · subst hc
    obtain ⟨Z', h', hca, q1, q2, q3, q4⟩ := ct_185_56_i3 (d := d + 4) (l := l) (D := D) (b0 := b0) (ad := ad) (Hb := Hb) (tau := tau) hx hG p1 p2 k0 k1
    exact ⟨Z', h', hca, q1, q2, fr_tr (M1 := []) fr_rf q3 rfl rfl, q4⟩
  · subst hc
    obtain ⟨Z', h', hca, q1, q2, q3, q4⟩ := ct_185_56_i4 (d := d + 3) (l := l) (D := D) (b0 := b0) (ad := ad) (Hb := Hb) (tau := tau) hx hG p1 p2 k0 k1
    exact ⟨Z', h', hca, q1, q2, fr_tr (M1 := []) fr_rf q3 rfl rfl, q4⟩
  · subst hc
    obtain ⟨Z', h', hca, q1, q2, q3, q4⟩ := ct_185_56_i5 (d := d + 2) (l := l) (D := D) (b0 := b0) (ad := ad) (Hb := Hb) (tau := tau) hx hG p1 p2 k0 k1
    exact ⟨Z', h', hca, q1, q2, fr_tr (M1 := []) fr_rf q3 rfl rfl, q4⟩
  · subst hc
    obtain ⟨Z', h', hca, q1, q2, q3, q4⟩ := ct_185_56_i6 (d := d + 1) (l := l) (D := D) (b0 := b0) (ad := ad) (Hb := Hb) (tau := tau) hx hG p1 p2 k0 k1
    exact ⟨Z', h', hca, q1, q2, fr_tr (M1 := []) fr_rf q3 rfl rfl, q4⟩
  · subst hc
    obtain ⟨Z', h', hca, q1, q2, q3, q4⟩ := ct_185_56_i7 (d := d + 0) (l := l) (D := D) (b0 := b0) (ad := ad) (Hb := Hb) (tau := tau) hx hG p1 p2 k0 k1
    exact ⟨Z', h', hca, q1, q2, fr_tr (M1 := []) fr_rf q3 rfl rfl, q4⟩
set_option maxRecDepth 100000 in
theorem cw_185_56_i8 {l : Launch} {D : va_G} {b0 : Nat} {ad : Nat → Nat} {Hb : Heap} {tau : Nat → Int64} {d n s : Nat} {S : Nat → xS} {Z : xZ} {h : mx_H} {Post : mx_R → Prop} (hx : XH n s S Z h) (hG : GB n S Z)  {x1 x2 : Int} (p1 : 0 ≤ x1 ∧ x1 ≤ 18) (p2 : 0 ≤ x2 ∧ x2 ≤ 18) (k0 : Z 56 18 + wy (8 * 19 + x1) ≤ 385) (k1 : x2 + 8 ≤ 18) (hP : ∀ (Z' : xZ) (h' : mx_H), XH n s S Z' h' → GB n S Z' → fr' [(56, 18), (61, (-1)), (63, (-1))] Z Z' → Z' 56 18 = Z 56 18 + wy (8 * 19 + x1) → Post (none, h')) : mx_J (tB l D b0 ad Hb tau) mt_185 (d + 8) 0 [some (.ref 56), some (xI 8), some (xI x1), some (xI x2), none] [] h Post := by
    have a56 : 56 < n := lt83 (GB_n hG) rfl
    have s56 : S 56 = .inl (12, [0, 2, 2, 2, 2, 0, 0, 0, 0, 0, 0, 0, 0, 0, 0, 2, 2, 2, 0, 2, 2, 2, 0, 0, 2, 2, 2, 2, 2, 2, 0, 0, 2, 2, 2, 2, 2, 2, 2, 2, 2, 2]) := GB_s hG 56 rfl
    have a63 : 63 < n := lt83 (GB_n hG) rfl
    have s63 : S 63 = .inr (.int, 18, 0) := GB_s hG 63 rfl
    refine mx_J.step (sn_185 0) (fun _ _ => rfl) ?_
    refine Jif_ne (show mx_Sn _ _ 1 (mx_if_ne 63 4) from sn_185 1) (by omega) (fun q1 => ?_) (fun q1 => ?_)
    · skip
      refine mx_J.step (sn_185 63) (fun _ _ => rfl) ?_
      refine mx_J.step (sn_185 64) (fun _ _ => rfl) ?_
      have c73 : ∀ (k2_0 : Int), 0 ≤ k2_0 ∧ k2_0 ≤ 8 → (wy (8 * 19 + k2_0) = wy (8 * 19 + x1) ∧ k2_0 ≤ 8) → mx_J (tB l D b0 ad Hb tau) mt_185 (d + 8) 73 [some (.ref 56), some (xI 8), some (xI x1), some (xI x2), none] [xI k2_0] h Post := by
        intro k2_0 f2_0 f2_1
        refine mx_J.step (ls2 := [some (.ref 56), some (xI 8), some (xI x1), some (xI x2), some (xI k2_0)]) (sn_185 73) (fun _ _ => rfl) ?_
        have c75 : ∀ (m3 : Nat) (w3_4 : Int) (Z4 : xZ) (h4 : mx_H), w3_4 - 0 < (m3 : Int) → 0 ≤ w3_4 ∧ w3_4 ≤ 8 → (Z4 56 18 + wy (8 * 19 + w3_4) = Z 56 18 + wy (8 * 19 + x1)) → XH n s S Z4 h4 → GB n S Z4 → fr' [(56, 18), (61, (-1)), (63, (-1))] Z Z4 → mx_J (tB l D b0 ad Hb tau) mt_185 (d + 8) 75 [some (.ref 56), some (xI 8), some (xI x1), some (xI x2), some (xI w3_4)] [] h4 Post := by
          intro m3
          induction m3 with
          | zero => intro w3_4 Z4 h4 q3 f3_0 f3_1 hx4 hG4 hf4; exact absurd q3 (by omega)
          | succ m3 ih3 =>
            intro w3_4 Z4 h4 q3 f3_0 f3_1 hx4 hG4 hf4
            have b5 : 0 ≤ Z4 56 18 ∧ Z4 56 18 ≤ 385 := hG4.pr 56 18
            refine mx_J.step (sn_185 75) (fun _ _ => rfl) ?_
            refine Jif_le (show mx_Sn _ _ 77 (mx_if_le 107 80) from sn_185 77) (by omega) (fun q6 => ?_) (fun q6 => ?_)
            · skip
              have w0 : wy (8 * 19 + w3_4) = 0 := by rw [show w3_4 = 0 by omega]; exact Wy0 (by omega)
              have b7 : 0 ≤ Z4 56 18 ∧ Z4 56 18 ≤ 385 := hG4.pr 56 18
              have b8 : 0 ≤ Z4 56 18 ∧ Z4 56 18 ≤ 385 := hG4.pr 56 18
              exact mx_J.ret (sn_185 107) (fun _ _ => rfl) (hP Z4 h4 hx4 hG4 (fr_tr (M := [(56, 18), (61, (-1)), (63, (-1))]) fr_rf (hf4) (M1 := []) rfl rfl) (by omega))
            · skip
              refine mx_J.step (sn_185 80) (fun _ _ => rfl) ?_
              refine JgetR (g := 17) (b := 63) hx4 (show mx_Sn _ _ 81 (mx_getf 12 17 84) from sn_185 81) a56 s56 rfl rfl (hG4.prr 56 17 rfl) ?_
              refine mx_J.step (sn_185 84) (fun _ _ => rfl) ?_
              refine mx_J.step (sn_185 85) (fun _ _ => rfl) ?_
              refine JiastI hx4 (show mx_Sn _ _ 87 (mx_iast 1 88) from sn_185 87) a63 s63 rfl (by omega) (fun Z10 h10 hx10 hE10 => ?_)
              have hG10 := GB_up hG4 hE10 (show 0 ≤ w3_4 ∧ w3_4 ≤ 18 by omega) trivial rfl
              have wr := WRr (n := 8) (m := w3_4) (by omega) (by omega)
              refine mx_J.step (sn_185 88) (fun _ _ => rfl) ?_
              refine mx_J.step (sn_185 89) (fun _ _ => rfl) ?_
              refine mx_J.step (sn_185 90) (fun _ _ => rfl) ?_
              refine Jisub (show mx_Sn _ _ 92 (mx_isub 93) from sn_185 92) ?_
              refine mx_J.step (sn_185 93) (fun _ _ => rfl) ?_
              refine mx_J.step (sn_185 95) (fun _ _ => rfl) ?_
              refine JcI (z := 1) (show mx_Sn _ _ 96 (mx_const (.int 1) 97) from sn_185 96) rfl ?_
              refine Jiadd (show mx_Sn _ _ 97 (mx_iadd 98) from sn_185 97) ?_
              have eq12 : Z10 56 18 = Z4 56 18 := (up_nk hE10 rfl)
              have b13 : 0 ≤ Z4 56 18 ∧ Z4 56 18 ≤ 385 := hG4.pr 56 18
              obtain ⟨Z11, h11, hc11, hx11, hG11, hf11, b11⟩ := ct_185_56_le7 (d := d + 0) (l := l) (D := D) (b0 := b0) (ad := ad) (Hb := Hb) (tau := tau) hx10 hG10 (show 0 ≤ 8 - w3_4 ∧ 8 - w3_4 ≤ 7 by omega) (show 0 ≤ w3_4 ∧ w3_4 ≤ 18 by omega) (show 0 ≤ x2 + 1 ∧ x2 + 1 ≤ 18 by omega) (show Z10 56 18 + wy ((8 - w3_4) * 19 + w3_4) ≤ 385 by first | omega | (simp only [eq12]; omega)) (show (x2 + 1) + (8 - w3_4) ≤ 18 by first | omega | (simp only [eq12]; omega))
              try rw [eq12] at b11
              have b14 : 0 ≤ Z11 56 18 ∧ Z11 56 18 ≤ 385 := hG11.pr 56 18
              refine Jcv0 hx10 (show mx_Sn _ _ 98 (mx_callv 185 4 12 101) from sn_185 98) a56 s56 hc11 rfl rfl rfl ?_
              refine Jiinc (z := w3_4) (cz := (-1)) (ls2 := [some (.ref 56), some (xI 8), some (xI x1), some (xI x2), some (xI (w3_4 + (-1)))]) (show mx_Sn _ _ 101 (mx_iinc 4 (-1) 104) from sn_185 101) rfl rfl rfl rfl ?_
              refine mx_J.step (sn_185 104) (fun _ _ => rfl) ?_
              have b15 : 0 ≤ Z11 56 18 ∧ Z11 56 18 ≤ 385 := hG11.pr 56 18
              exact ih3 (w3_4 + (-1)) Z11 h11 (by omega) (by omega) (by omega) hx11 hG11 (fr_tr (M := [(56, 18), (61, (-1)), (63, (-1))]) (fr_tr (M := [(56, 18), (61, (-1)), (63, (-1))]) (fr_tr (M := [(56, 18), (61, (-1)), (63, (-1))]) fr_rf (hf4) (M1 := []) rfl rfl) (fr_ua hE10) rfl rfl) (hf11) rfl rfl)
        have b16 : 0 ≤ Z 56 18 ∧ Z 56 18 ≤ 385 := hG.pr 56 18
        exact c75 (Int.toNat (k2_0 - 0) + 1) k2_0 Z h (by omega) (by omega) (by omega) hx hG fr_rf
      refine Jicmp_ge (show mx_Sn _ _ 65 (mx_icmp_ge 72 68) from sn_185 65) (by omega) (by omega) (fun q17 => ?_) (fun q17 => ?_)
      · skip
        refine mx_J.step (sn_185 72) (fun _ _ => rfl) ?_
        exact c73 8 (by omega) (by first | exact ⟨rfl, by omega⟩ | exact ⟨WSs (n := 8) (by omega) (by omega), by omega⟩)
      · skip
        refine mx_J.step (sn_185 68) (fun _ _ => rfl) ?_
        refine mx_J.step (sn_185 69) (fun _ _ => rfl) ?_
        exact c73 x1 (by omega) (by first | exact ⟨rfl, by omega⟩ | exact ⟨WSs (n := 8) (by omega) (by omega), by omega⟩)
    · skip
      exfalso; omega
theorem ct_185_56_i8 {l : Launch} {D : va_G} {b0 : Nat} {ad : Nat → Nat} {Hb : Heap} {tau : Nat → Int64} {d n s : Nat} {S : Nat → xS} {Z : xZ} {h : mx_H} (hx : XH n s S Z h) (hG : GB n S Z)  {x1 x2 : Int} (p1 : 0 ≤ x1 ∧ x1 ≤ 18) (p2 : 0 ≤ x2 ∧ x2 ≤ 18) (k0 : Z 56 18 + wy (8 * 19 + x1) ≤ 385) (k1 : x2 + 8 ≤ 18) : ∃ (Z' : xZ) (h' : mx_H), mx_Ca (tB l D b0 ad Hb tau) (d + 9) 185 [.ref 56, xI 8, xI x1, xI x2] h (none, h') ∧ XH n s S Z' h' ∧ GB n S Z' ∧ fr' [(56, 18), (61, (-1)), (63, (-1))] Z Z' ∧ (Z' 56 18 = Z 56 18 + wy (8 * 19 + x1)) := by
  obtain ⟨r, hca, Z', h', e, q⟩ := Jmt (B := tB l D b0 ad Hb tau) (M := mt_185) (mi := 185) (as := [.ref 56, xI 8, xI x1, xI x2]) (d := d + 8) (ls := [some (.ref 56), some (xI 8), some (xI x1), some (xI x2), none]) rfl rfl rfl rfl rfl rfl (cw_185_56_i8 (l := l) (D := D) (b0 := b0) (ad := ad) (Hb := Hb) (tau := tau) (d := d) (Post := fun r => ∃ (Z' : xZ) (h' : mx_H), r = (none, h') ∧ XH n s S Z' h' ∧ GB n S Z' ∧ fr' [(56, 18), (61, (-1)), (63, (-1))] Z Z' ∧ (Z' 56 18 = Z 56 18 + wy (8 * 19 + x1))) hx hG p1 p2 k0 k1 (fun Z' h' q1 q2 q3 q4 => ⟨Z', h', rfl, q1, q2, q3, q4⟩))
  subst e; exact ⟨Z', h', hca, q⟩
theorem ct_185_56_le8 {l : Launch} {D : va_G} {b0 : Nat} {ad : Nat → Nat} {Hb : Heap} {tau : Nat → Int64} {d n s : Nat} {S : Nat → xS} {Z : xZ} {h : mx_H} (hx : XH n s S Z h) (hG : GB n S Z) {x0 x1 x2 : Int} (p0 : 0 ≤ x0 ∧ x0 ≤ 8) (p1 : 0 ≤ x1 ∧ x1 ≤ 18) (p2 : 0 ≤ x2 ∧ x2 ≤ 18) (k0 : Z 56 18 + wy (x0 * 19 + x1) ≤ 385) (k1 : x2 + x0 ≤ 18) : ∃ (Z' : xZ) (h' : mx_H), mx_Ca (tB l D b0 ad Hb tau) (d + 9) 185 [.ref 56, xI x0, xI x1, xI x2] h (none, h') ∧ XH n s S Z' h' ∧ GB n S Z' ∧ fr' [(56, 18), (61, (-1)), (63, (-1))] Z Z' ∧ (Z' 56 18 = Z 56 18 + wy (x0 * 19 + x1)) := by
  have hc : x0 = 0 ∨ x0 = 1 ∨ x0 = 2 ∨ x0 = 3 ∨ x0 = 4 ∨ x0 = 5 ∨ x0 = 6 ∨ x0 = 7 ∨ x0 = 8 := by omega
  rcases hc with hc | hc | hc | hc | hc | hc | hc | hc | hc
  · subst hc
    obtain ⟨Z', h', hca, q1, q2, q3, q4⟩ := ct_185_56_i0 (d := d + 8) (l := l) (D := D) (b0 := b0) (ad := ad) (Hb := Hb) (tau := tau) hx hG p1 p2 k0 k1
    exact ⟨Z', h', hca, q1, q2, fr_tr (M1 := []) fr_rf q3 rfl rfl, q4⟩
  · subst hc
    obtain ⟨Z', h', hca, q1, q2, q3, q4⟩ := ct_185_56_i1 (d := d + 7) (l := l) (D := D) (b0 := b0) (ad := ad) (Hb := Hb) (tau := tau) hx hG p1 p2 k0 k1
    exact ⟨Z', h', hca, q1, q2, fr_tr (M1 := []) fr_rf q3 rfl rfl, q4⟩
  · subst hc
    obtain ⟨Z', h', hca, q1, q2, q3, q4⟩ := ct_185_56_i2 (d := d + 6) (l := l) (D := D) (b0 := b0) (ad := ad) (Hb := Hb) (tau := tau) hx hG p1 p2 k0 k1
    exact ⟨Z', h', hca, q1, q2, fr_tr (M1 := []) fr_rf q3 rfl rfl, q4⟩
  · subst hc
    obtain ⟨Z', h', hca, q1, q2, q3, q4⟩ := ct_185_56_i3 (d := d + 5) (l := l) (D := D) (b0 := b0) (ad := ad) (Hb := Hb) (tau := tau) hx hG p1 p2 k0 k1
    exact ⟨Z', h', hca, q1, q2, fr_tr (M1 := []) fr_rf q3 rfl rfl, q4⟩
  · subst hc
    obtain ⟨Z', h', hca, q1, q2, q3, q4⟩ := ct_185_56_i4 (d := d + 4) (l := l) (D := D) (b0 := b0) (ad := ad) (Hb := Hb) (tau := tau) hx hG p1 p2 k0 k1
    exact ⟨Z', h', hca, q1, q2, fr_tr (M1 := []) fr_rf q3 rfl rfl, q4⟩
  · subst hc
    obtain ⟨Z', h', hca, q1, q2, q3, q4⟩ := ct_185_56_i5 (d := d + 3) (l := l) (D := D) (b0 := b0) (ad := ad) (Hb := Hb) (tau := tau) hx hG p1 p2 k0 k1
    exact ⟨Z', h', hca, q1, q2, fr_tr (M1 := []) fr_rf q3 rfl rfl, q4⟩
  · subst hc
    obtain ⟨Z', h', hca, q1, q2, q3, q4⟩ := ct_185_56_i6 (d := d + 2) (l := l) (D := D) (b0 := b0) (ad := ad) (Hb := Hb) (tau := tau) hx hG p1 p2 k0 k1
    exact ⟨Z', h', hca, q1, q2, fr_tr (M1 := []) fr_rf q3 rfl rfl, q4⟩
  · subst hc
    obtain ⟨Z', h', hca, q1, q2, q3, q4⟩ := ct_185_56_i7 (d := d + 1) (l := l) (D := D) (b0 := b0) (ad := ad) (Hb := Hb) (tau := tau) hx hG p1 p2 k0 k1
    exact ⟨Z', h', hca, q1, q2, fr_tr (M1 := []) fr_rf q3 rfl rfl, q4⟩
  · subst hc
    obtain ⟨Z', h', hca, q1, q2, q3, q4⟩ := ct_185_56_i8 (d := d + 0) (l := l) (D := D) (b0 := b0) (ad := ad) (Hb := Hb) (tau := tau) hx hG p1 p2 k0 k1
    exact ⟨Z', h', hca, q1, q2, fr_tr (M1 := []) fr_rf q3 rfl rfl, q4⟩
set_option maxRecDepth 100000 in
theorem cw_185_56_i9 {l : Launch} {D : va_G} {b0 : Nat} {ad : Nat → Nat} {Hb : Heap} {tau : Nat → Int64} {d n s : Nat} {S : Nat → xS} {Z : xZ} {h : mx_H} {Post : mx_R → Prop} (hx : XH n s S Z h) (hG : GB n S Z)  {x1 x2 : Int} (p1 : 0 ≤ x1 ∧ x1 ≤ 18) (p2 : 0 ≤ x2 ∧ x2 ≤ 18) (k0 : Z 56 18 + wy (9 * 19 + x1) ≤ 385) (k1 : x2 + 9 ≤ 18) (hP : ∀ (Z' : xZ) (h' : mx_H), XH n s S Z' h' → GB n S Z' → fr' [(56, 18), (61, (-1)), (63, (-1))] Z Z' → Z' 56 18 = Z 56 18 + wy (9 * 19 + x1) → Post (none, h')) : mx_J (tB l D b0 ad Hb tau) mt_185 (d + 9) 0 [some (.ref 56), some (xI 9), some (xI x1), some (xI x2), none] [] h Post := by
    have a56 : 56 < n := lt83 (GB_n hG) rfl
    have s56 : S 56 = .inl (12, [0, 2, 2, 2, 2, 0, 0, 0, 0, 0, 0, 0, 0, 0, 0, 2, 2, 2, 0, 2, 2, 2, 0, 0, 2, 2, 2, 2, 2, 2, 0, 0, 2, 2, 2, 2, 2, 2, 2, 2, 2, 2]) := GB_s hG 56 rfl
    have a63 : 63 < n := lt83 (GB_n hG) rfl
    have s63 : S 63 = .inr (.int, 18, 0) := GB_s hG 63 rfl
    refine mx_J.step (sn_185 0) (fun _ _ => rfl) ?_
    refine Jif_ne (show mx_Sn _ _ 1 (mx_if_ne 63 4) from sn_185 1) (by omega) (fun q1 => ?_) (fun q1 => ?_)
    · skip
      refine mx_J.step (sn_185 63) (fun _ _ => rfl) ?_
      refine mx_J.step (sn_185 64) (fun _ _ => rfl) ?_
      have c73 : ∀ (k2_0 : Int), 0 ≤ k2_0 ∧ k2_0 ≤ 9 → (wy (9 * 19 + k2_0) = wy (9 * 19 + x1) ∧ k2_0 ≤ 9) → mx_J (tB l D b0 ad Hb tau) mt_185 (d + 9) 73 [some (.ref 56), some (xI 9), some (xI x1), some (xI x2), none] [xI k2_0] h Post := by
        intro k2_0 f2_0 f2_1
        refine mx_J.step (ls2 := [some (.ref 56), some (xI 9), some (xI x1), some (xI x2), some (xI k2_0)]) (sn_185 73) (fun _ _ => rfl) ?_
        have c75 : ∀ (m3 : Nat) (w3_4 : Int) (Z4 : xZ) (h4 : mx_H), w3_4 - 0 < (m3 : Int) → 0 ≤ w3_4 ∧ w3_4 ≤ 9 → (Z4 56 18 + wy (9 * 19 + w3_4) = Z 56 18 + wy (9 * 19 + x1)) → XH n s S Z4 h4 → GB n S Z4 → fr' [(56, 18), (61, (-1)), (63, (-1))] Z Z4 → mx_J (tB l D b0 ad Hb tau) mt_185 (d + 9) 75 [some (.ref 56), some (xI 9), some (xI x1), some (xI x2), some (xI w3_4)] [] h4 Post := by
          intro m3
          induction m3 with
          | zero => intro w3_4 Z4 h4 q3 f3_0 f3_1 hx4 hG4 hf4; exact absurd q3 (by omega)
          | succ m3 ih3 =>
            intro w3_4 Z4 h4 q3 f3_0 f3_1 hx4 hG4 hf4
            have b5 : 0 ≤ Z4 56 18 ∧ Z4 56 18 ≤ 385 := hG4.pr 56 18
            refine mx_J.step (sn_185 75) (fun _ _ => rfl) ?_
            refine Jif_le (show mx_Sn _ _ 77 (mx_if_le 107 80) from sn_185 77) (by omega) (fun q6 => ?_) (fun q6 => ?_)
            · skip
              have w0 : wy (9 * 19 + w3_4) = 0 := by rw [show w3_4 = 0 by omega]; exact Wy0 (by omega)
              have b7 : 0 ≤ Z4 56 18 ∧ Z4 56 18 ≤ 385 := hG4.pr 56 18
              have b8 : 0 ≤ Z4 56 18 ∧ Z4 56 18 ≤ 385 := hG4.pr 56 18
              exact mx_J.ret (sn_185 107) (fun _ _ => rfl) (hP Z4 h4 hx4 hG4 (fr_tr (M := [(56, 18), (61, (-1)), (63, (-1))]) fr_rf (hf4) (M1 := []) rfl rfl) (by omega))
            · skip
              refine mx_J.step (sn_185 80) (fun _ _ => rfl) ?_
              refine JgetR (g := 17) (b := 63) hx4 (show mx_Sn _ _ 81 (mx_getf 12 17 84) from sn_185 81) a56 s56 rfl rfl (hG4.prr 56 17 rfl) ?_
              refine mx_J.step (sn_185 84) (fun _ _ => rfl) ?_
              refine mx_J.step (sn_185 85) (fun _ _ => rfl) ?_
              refine JiastI hx4 (show mx_Sn _ _ 87 (mx_iast 1 88) from sn_185 87) a63 s63 rfl (by omega) (fun Z10 h10 hx10 hE10 => ?_)
              have hG10 := GB_up hG4 hE10 (show 0 ≤ w3_4 ∧ w3_4 ≤ 18 by omega) trivial rfl
              have wr := WRr (n := 9) (m := w3_4) (by omega) (by omega)
              refine mx_J.step (sn_185 88) (fun _ _ => rfl) ?_
              refine mx_J.step (sn_185 89) (fun _ _ => rfl) ?_
              refine mx_J.step (sn_185 90) (fun _ _ => rfl) ?_
              refine Jisub (show mx_Sn _ _ 92 (mx_isub 93) from sn_185 92) ?_
              refine mx_J.step (sn_185 93) (fun _ _ => rfl) ?_
              refine mx_J.step (sn_185 95) (fun _ _ => rfl) ?_
              refine JcI (z := 1) (show mx_Sn _ _ 96 (mx_const (.int 1) 97) from sn_185 96) rfl ?_
              refine Jiadd (show mx_Sn _ _ 97 (mx_iadd 98) from sn_185 97) ?_
              have eq12 : Z10 56 18 = Z4 56 18 := (up_nk hE10 rfl)
              have b13 : 0 ≤ Z4 56 18 ∧ Z4 56 18 ≤ 385 := hG4.pr 56 18
              obtain ⟨Z11, h11, hc11, hx11, hG11, hf11, b11⟩ := ct_185_56_le8 (d := d + 0) (l := l) (D := D) (b0 := b0) (ad := ad) (Hb := Hb) (tau := tau) hx10 hG10 (show 0 ≤ 9 - w3_4 ∧ 9 - w3_4 ≤ 8 by omega) (show 0 ≤ w3_4 ∧ w3_4 ≤ 18 by omega) (show 0 ≤ x2 + 1 ∧ x2 + 1 ≤ 18 by omega) (show Z10 56 18 + wy ((9 - w3_4) * 19 + w3_4) ≤ 385 by first | omega | (simp only [eq12]; omega)) (show (x2 + 1) + (9 - w3_4) ≤ 18 by first | omega | (simp only [eq12]; omega))
              try rw [eq12] at b11
              have b14 : 0 ≤ Z11 56 18 ∧ Z11 56 18 ≤ 385 := hG11.pr 56 18
              refine Jcv0 hx10 (show mx_Sn _ _ 98 (mx_callv 185 4 12 101) from sn_185 98) a56 s56 hc11 rfl rfl rfl ?_
              refine Jiinc (z := w3_4) (cz := (-1)) (ls2 := [some (.ref 56), some (xI 9), some (xI x1), some (xI x2), some (xI (w3_4 + (-1)))]) (show mx_Sn _ _ 101 (mx_iinc 4 (-1) 104) from sn_185 101) rfl rfl rfl rfl ?_
              refine mx_J.step (sn_185 104) (fun _ _ => rfl) ?_
              have b15 : 0 ≤ Z11 56 18 ∧ Z11 56 18 ≤ 385 := hG11.pr 56 18
              exact ih3 (w3_4 + (-1)) Z11 h11 (by omega) (by omega) (by omega) hx11 hG11 (fr_tr (M := [(56, 18), (61, (-1)), (63, (-1))]) (fr_tr (M := [(56, 18), (61, (-1)), (63, (-1))]) (fr_tr (M := [(56, 18), (61, (-1)), (63, (-1))]) fr_rf (hf4) (M1 := []) rfl rfl) (fr_ua hE10) rfl rfl) (hf11) rfl rfl)
        have b16 : 0 ≤ Z 56 18 ∧ Z 56 18 ≤ 385 := hG.pr 56 18
        exact c75 (Int.toNat (k2_0 - 0) + 1) k2_0 Z h (by omega) (by omega) (by omega) hx hG fr_rf
      refine Jicmp_ge (show mx_Sn _ _ 65 (mx_icmp_ge 72 68) from sn_185 65) (by omega) (by omega) (fun q17 => ?_) (fun q17 => ?_)
      · skip
        refine mx_J.step (sn_185 72) (fun _ _ => rfl) ?_
        exact c73 9 (by omega) (by first | exact ⟨rfl, by omega⟩ | exact ⟨WSs (n := 9) (by omega) (by omega), by omega⟩)
      · skip
        refine mx_J.step (sn_185 68) (fun _ _ => rfl) ?_
        refine mx_J.step (sn_185 69) (fun _ _ => rfl) ?_
        exact c73 x1 (by omega) (by first | exact ⟨rfl, by omega⟩ | exact ⟨WSs (n := 9) (by omega) (by omega), by omega⟩)
    · skip
      exfalso; omega
theorem ct_185_56_i9 {l : Launch} {D : va_G} {b0 : Nat} {ad : Nat → Nat} {Hb : Heap} {tau : Nat → Int64} {d n s : Nat} {S : Nat → xS} {Z : xZ} {h : mx_H} (hx : XH n s S Z h) (hG : GB n S Z)  {x1 x2 : Int} (p1 : 0 ≤ x1 ∧ x1 ≤ 18) (p2 : 0 ≤ x2 ∧ x2 ≤ 18) (k0 : Z 56 18 + wy (9 * 19 + x1) ≤ 385) (k1 : x2 + 9 ≤ 18) : ∃ (Z' : xZ) (h' : mx_H), mx_Ca (tB l D b0 ad Hb tau) (d + 10) 185 [.ref 56, xI 9, xI x1, xI x2] h (none, h') ∧ XH n s S Z' h' ∧ GB n S Z' ∧ fr' [(56, 18), (61, (-1)), (63, (-1))] Z Z' ∧ (Z' 56 18 = Z 56 18 + wy (9 * 19 + x1)) := by
  obtain ⟨r, hca, Z', h', e, q⟩ := Jmt (B := tB l D b0 ad Hb tau) (M := mt_185) (mi := 185) (as := [.ref 56, xI 9, xI x1, xI x2]) (d := d + 9) (ls := [some (.ref 56), some (xI 9), some (xI x1), some (xI x2), none]) rfl rfl rfl rfl rfl rfl (cw_185_56_i9 (l := l) (D := D) (b0 := b0) (ad := ad) (Hb := Hb) (tau := tau) (d := d) (Post := fun r => ∃ (Z' : xZ) (h' : mx_H), r = (none, h') ∧ XH n s S Z' h' ∧ GB n S Z' ∧ fr' [(56, 18), (61, (-1)), (63, (-1))] Z Z' ∧ (Z' 56 18 = Z 56 18 + wy (9 * 19 + x1))) hx hG p1 p2 k0 k1 (fun Z' h' q1 q2 q3 q4 => ⟨Z', h', rfl, q1, q2, q3, q4⟩))
  subst e; exact ⟨Z', h', hca, q⟩
theorem ct_185_56_le9 {l : Launch} {D : va_G} {b0 : Nat} {ad : Nat → Nat} {Hb : Heap} {tau : Nat → Int64} {d n s : Nat} {S : Nat → xS} {Z : xZ} {h : mx_H} (hx : XH n s S Z h) (hG : GB n S Z) {x0 x1 x2 : Int} (p0 : 0 ≤ x0 ∧ x0 ≤ 9) (p1 : 0 ≤ x1 ∧ x1 ≤ 18) (p2 : 0 ≤ x2 ∧ x2 ≤ 18) (k0 : Z 56 18 + wy (x0 * 19 + x1) ≤ 385) (k1 : x2 + x0 ≤ 18) : ∃ (Z' : xZ) (h' : mx_H), mx_Ca (tB l D b0 ad Hb tau) (d + 10) 185 [.ref 56, xI x0, xI x1, xI x2] h (none, h') ∧ XH n s S Z' h' ∧ GB n S Z' ∧ fr' [(56, 18), (61, (-1)), (63, (-1))] Z Z' ∧ (Z' 56 18 = Z 56 18 + wy (x0 * 19 + x1)) := by
  have hc : x0 = 0 ∨ x0 = 1 ∨ x0 = 2 ∨ x0 = 3 ∨ x0 = 4 ∨ x0 = 5 ∨ x0 = 6 ∨ x0 = 7 ∨ x0 = 8 ∨ x0 = 9 := by omega
  rcases hc with hc | hc | hc | hc | hc | hc | hc | hc | hc | hc
  · subst hc
    obtain ⟨Z', h', hca, q1, q2, q3, q4⟩ := ct_185_56_i0 (d := d + 9) (l := l) (D := D) (b0 := b0) (ad := ad) (Hb := Hb) (tau := tau) hx hG p1 p2 k0 k1
    exact ⟨Z', h', hca, q1, q2, fr_tr (M1 := []) fr_rf q3 rfl rfl, q4⟩
  · subst hc
    obtain ⟨Z', h', hca, q1, q2, q3, q4⟩ := ct_185_56_i1 (d := d + 8) (l := l) (D := D) (b0 := b0) (ad := ad) (Hb := Hb) (tau := tau) hx hG p1 p2 k0 k1
    exact ⟨Z', h', hca, q1, q2, fr_tr (M1 := []) fr_rf q3 rfl rfl, q4⟩
  · subst hc
    obtain ⟨Z', h', hca, q1, q2, q3, q4⟩ := ct_185_56_i2 (d := d + 7) (l := l) (D := D) (b0 := b0) (ad := ad) (Hb := Hb) (tau := tau) hx hG p1 p2 k0 k1
    exact ⟨Z', h', hca, q1, q2, fr_tr (M1 := []) fr_rf q3 rfl rfl, q4⟩
  · subst hc
    obtain ⟨Z', h', hca, q1, q2, q3, q4⟩ := ct_185_56_i3 (d := d + 6) (l := l) (D := D) (b0 := b0) (ad := ad) (Hb := Hb) (tau := tau) hx hG p1 p2 k0 k1
    exact ⟨Z', h', hca, q1, q2, fr_tr (M1 := []) fr_rf q3 rfl rfl, q4⟩
  · subst hc
    obtain ⟨Z', h', hca, q1, q2, q3, q4⟩ := ct_185_56_i4 (d := d + 5) (l := l) (D := D) (b0 := b0) (ad := ad) (Hb := Hb) (tau := tau) hx hG p1 p2 k0 k1
    exact ⟨Z', h', hca, q1, q2, fr_tr (M1 := []) fr_rf q3 rfl rfl, q4⟩
  · subst hc
    obtain ⟨Z', h', hca, q1, q2, q3, q4⟩ := ct_185_56_i5 (d := d + 4) (l := l) (D := D) (b0 := b0) (ad := ad) (Hb := Hb) (tau := tau) hx hG p1 p2 k0 k1
    exact ⟨Z', h', hca, q1, q2, fr_tr (M1 := []) fr_rf q3 rfl rfl, q4⟩
  · subst hc
    obtain ⟨Z', h', hca, q1, q2, q3, q4⟩ := ct_185_56_i6 (d := d + 3) (l := l) (D := D) (b0 := b0) (ad := ad) (Hb := Hb) (tau := tau) hx hG p1 p2 k0 k1
    exact ⟨Z', h', hca, q1, q2, fr_tr (M1 := []) fr_rf q3 rfl rfl, q4⟩
  · subst hc
    obtain ⟨Z', h', hca, q1, q2, q3, q4⟩ := ct_185_56_i7 (d := d + 2) (l := l) (D := D) (b0 := b0) (ad := ad) (Hb := Hb) (tau := tau) hx hG p1 p2 k0 k1
    exact ⟨Z', h', hca, q1, q2, fr_tr (M1 := []) fr_rf q3 rfl rfl, q4⟩
  · subst hc
    obtain ⟨Z', h', hca, q1, q2, q3, q4⟩ := ct_185_56_i8 (d := d + 1) (l := l) (D := D) (b0 := b0) (ad := ad) (Hb := Hb) (tau := tau) hx hG p1 p2 k0 k1
    exact ⟨Z', h', hca, q1, q2, fr_tr (M1 := []) fr_rf q3 rfl rfl, q4⟩
  · subst hc
    obtain ⟨Z', h', hca, q1, q2, q3, q4⟩ := ct_185_56_i9 (d := d + 0) (l := l) (D := D) (b0 := b0) (ad := ad) (Hb := Hb) (tau := tau) hx hG p1 p2 k0 k1
    exact ⟨Z', h', hca, q1, q2, fr_tr (M1 := []) fr_rf q3 rfl rfl, q4⟩
set_option maxRecDepth 100000 in
theorem cw_185_56_i10 {l : Launch} {D : va_G} {b0 : Nat} {ad : Nat → Nat} {Hb : Heap} {tau : Nat → Int64} {d n s : Nat} {S : Nat → xS} {Z : xZ} {h : mx_H} {Post : mx_R → Prop} (hx : XH n s S Z h) (hG : GB n S Z)  {x1 x2 : Int} (p1 : 0 ≤ x1 ∧ x1 ≤ 18) (p2 : 0 ≤ x2 ∧ x2 ≤ 18) (k0 : Z 56 18 + wy (10 * 19 + x1) ≤ 385) (k1 : x2 + 10 ≤ 18) (hP : ∀ (Z' : xZ) (h' : mx_H), XH n s S Z' h' → GB n S Z' → fr' [(56, 18), (61, (-1)), (63, (-1))] Z Z' → Z' 56 18 = Z 56 18 + wy (10 * 19 + x1) → Post (none, h')) : mx_J (tB l D b0 ad Hb tau) mt_185 (d + 10) 0 [some (.ref 56), some (xI 10), some (xI x1), some (xI x2), none] [] h Post := by
    have a56 : 56 < n := lt83 (GB_n hG) rfl
    have s56 : S 56 = .inl (12, [0, 2, 2, 2, 2, 0, 0, 0, 0, 0, 0, 0, 0, 0, 0, 2, 2, 2, 0, 2, 2, 2, 0, 0, 2, 2, 2, 2, 2, 2, 0, 0, 2, 2, 2, 2, 2, 2, 2, 2, 2, 2]) := GB_s hG 56 rfl
    have a63 : 63 < n := lt83 (GB_n hG) rfl
    have s63 : S 63 = .inr (.int, 18, 0) := GB_s hG 63 rfl
    refine mx_J.step (sn_185 0) (fun _ _ => rfl) ?_
    refine Jif_ne (show mx_Sn _ _ 1 (mx_if_ne 63 4) from sn_185 1) (by omega) (fun q1 => ?_) (fun q1 => ?_)
    · skip
      refine mx_J.step (sn_185 63) (fun _ _ => rfl) ?_
      refine mx_J.step (sn_185 64) (fun _ _ => rfl) ?_
      have c73 : ∀ (k2_0 : Int), 0 ≤ k2_0 ∧ k2_0 ≤ 10 → (wy (10 * 19 + k2_0) = wy (10 * 19 + x1) ∧ k2_0 ≤ 10) → mx_J (tB l D b0 ad Hb tau) mt_185 (d + 10) 73 [some (.ref 56), some (xI 10), some (xI x1), some (xI x2), none] [xI k2_0] h Post := by
        intro k2_0 f2_0 f2_1
        refine mx_J.step (ls2 := [some (.ref 56), some (xI 10), some (xI x1), some (xI x2), some (xI k2_0)]) (sn_185 73) (fun _ _ => rfl) ?_
        have c75 : ∀ (m3 : Nat) (w3_4 : Int) (Z4 : xZ) (h4 : mx_H), w3_4 - 0 < (m3 : Int) → 0 ≤ w3_4 ∧ w3_4 ≤ 10 → (Z4 56 18 + wy (10 * 19 + w3_4) = Z 56 18 + wy (10 * 19 + x1)) → XH n s S Z4 h4 → GB n S Z4 → fr' [(56, 18), (61, (-1)), (63, (-1))] Z Z4 → mx_J (tB l D b0 ad Hb tau) mt_185 (d + 10) 75 [some (.ref 56), some (xI 10), some (xI x1), some (xI x2), some (xI w3_4)] [] h4 Post := by
          intro m3
          induction m3 with
          | zero => intro w3_4 Z4 h4 q3 f3_0 f3_1 hx4 hG4 hf4; exact absurd q3 (by omega)
          | succ m3 ih3 =>
            intro w3_4 Z4 h4 q3 f3_0 f3_1 hx4 hG4 hf4
            have b5 : 0 ≤ Z4 56 18 ∧ Z4 56 18 ≤ 385 := hG4.pr 56 18
            refine mx_J.step (sn_185 75) (fun _ _ => rfl) ?_
            refine Jif_le (show mx_Sn _ _ 77 (mx_if_le 107 80) from sn_185 77) (by omega) (fun q6 => ?_) (fun q6 => ?_)
            · skip
              have w0 : wy (10 * 19 + w3_4) = 0 := by rw [show w3_4 = 0 by omega]; exact Wy0 (by omega)
              have b7 : 0 ≤ Z4 56 18 ∧ Z4 56 18 ≤ 385 := hG4.pr 56 18
              have b8 : 0 ≤ Z4 56 18 ∧ Z4 56 18 ≤ 385 := hG4.pr 56 18
              exact mx_J.ret (sn_185 107) (fun _ _ => rfl) (hP Z4 h4 hx4 hG4 (fr_tr (M := [(56, 18), (61, (-1)), (63, (-1))]) fr_rf (hf4) (M1 := []) rfl rfl) (by omega))
            · skip
              refine mx_J.step (sn_185 80) (fun _ _ => rfl) ?_
              refine JgetR (g := 17) (b := 63) hx4 (show mx_Sn _ _ 81 (mx_getf 12 17 84) from sn_185 81) a56 s56 rfl rfl (hG4.prr 56 17 rfl) ?_
              refine mx_J.step (sn_185 84) (fun _ _ => rfl) ?_
              refine mx_J.step (sn_185 85) (fun _ _ => rfl) ?_
              refine JiastI hx4 (show mx_Sn _ _ 87 (mx_iast 1 88) from sn_185 87) a63 s63 rfl (by omega) (fun Z10 h10 hx10 hE10 => ?_)
              have hG10 := GB_up hG4 hE10 (show 0 ≤ w3_4 ∧ w3_4 ≤ 18 by omega) trivial rfl
              have wr := WRr (n := 10) (m := w3_4) (by omega) (by omega)
              refine mx_J.step (sn_185 88) (fun _ _ => rfl) ?_
              refine mx_J.step (sn_185 89) (fun _ _ => rfl) ?_
              refine mx_J.step (sn_185 90) (fun _ _ => rfl) ?_
              refine Jisub (show mx_Sn _ _ 92 (mx_isub 93) from sn_185 92) ?_
              refine mx_J.step (sn_185 93) (fun _ _ => rfl) ?_
              refine mx_J.step (sn_185 95) (fun _ _ => rfl) ?_
              refine JcI (z := 1) (show mx_Sn _ _ 96 (mx_const (.int 1) 97) from sn_185 96) rfl ?_
              refine Jiadd (show mx_Sn _ _ 97 (mx_iadd 98) from sn_185 97) ?_
              have eq12 : Z10 56 18 = Z4 56 18 := (up_nk hE10 rfl)
              have b13 : 0 ≤ Z4 56 18 ∧ Z4 56 18 ≤ 385 := hG4.pr 56 18
              obtain ⟨Z11, h11, hc11, hx11, hG11, hf11, b11⟩ := ct_185_56_le9 (d := d + 0) (l := l) (D := D) (b0 := b0) (ad := ad) (Hb := Hb) (tau := tau) hx10 hG10 (show 0 ≤ 10 - w3_4 ∧ 10 - w3_4 ≤ 9 by omega) (show 0 ≤ w3_4 ∧ w3_4 ≤ 18 by omega) (show 0 ≤ x2 + 1 ∧ x2 + 1 ≤ 18 by omega) (show Z10 56 18 + wy ((10 - w3_4) * 19 + w3_4) ≤ 385 by first | omega | (simp only [eq12]; omega)) (show (x2 + 1) + (10 - w3_4) ≤ 18 by first | omega | (simp only [eq12]; omega))
              try rw [eq12] at b11
              have b14 : 0 ≤ Z11 56 18 ∧ Z11 56 18 ≤ 385 := hG11.pr 56 18
              refine Jcv0 hx10 (show mx_Sn _ _ 98 (mx_callv 185 4 12 101) from sn_185 98) a56 s56 hc11 rfl rfl rfl ?_
              refine Jiinc (z := w3_4) (cz := (-1)) (ls2 := [some (.ref 56), some (xI 10), some (xI x1), some (xI x2), some (xI (w3_4 + (-1)))]) (show mx_Sn _ _ 101 (mx_iinc 4 (-1) 104) from sn_185 101) rfl rfl rfl rfl ?_
              refine mx_J.step (sn_185 104) (fun _ _ => rfl) ?_
              have b15 : 0 ≤ Z11 56 18 ∧ Z11 56 18 ≤ 385 := hG11.pr 56 18
              exact ih3 (w3_4 + (-1)) Z11 h11 (by omega) (by omega) (by omega) hx11 hG11 (fr_tr (M := [(56, 18), (61, (-1)), (63, (-1))]) (fr_tr (M := [(56, 18), (61, (-1)), (63, (-1))]) (fr_tr (M := [(56, 18), (61, (-1)), (63, (-1))]) fr_rf (hf4) (M1 := []) rfl rfl) (fr_ua hE10) rfl rfl) (hf11) rfl rfl)
        have b16 : 0 ≤ Z 56 18 ∧ Z 56 18 ≤ 385 := hG.pr 56 18
        exact c75 (Int.toNat (k2_0 - 0) + 1) k2_0 Z h (by omega) (by omega) (by omega) hx hG fr_rf
      refine Jicmp_ge (show mx_Sn _ _ 65 (mx_icmp_ge 72 68) from sn_185 65) (by omega) (by omega) (fun q17 => ?_) (fun q17 => ?_)
      · skip
        refine mx_J.step (sn_185 72) (fun _ _ => rfl) ?_
        exact c73 10 (by omega) (by first | exact ⟨rfl, by omega⟩ | exact ⟨WSs (n := 10) (by omega) (by omega), by omega⟩)
      · skip
        refine mx_J.step (sn_185 68) (fun _ _ => rfl) ?_
        refine mx_J.step (sn_185 69) (fun _ _ => rfl) ?_
        exact c73 x1 (by omega) (by first | exact ⟨rfl, by omega⟩ | exact ⟨WSs (n := 10) (by omega) (by omega), by omega⟩)
    · skip
      exfalso; omega
theorem ct_185_56_i10 {l : Launch} {D : va_G} {b0 : Nat} {ad : Nat → Nat} {Hb : Heap} {tau : Nat → Int64} {d n s : Nat} {S : Nat → xS} {Z : xZ} {h : mx_H} (hx : XH n s S Z h) (hG : GB n S Z)  {x1 x2 : Int} (p1 : 0 ≤ x1 ∧ x1 ≤ 18) (p2 : 0 ≤ x2 ∧ x2 ≤ 18) (k0 : Z 56 18 + wy (10 * 19 + x1) ≤ 385) (k1 : x2 + 10 ≤ 18) : ∃ (Z' : xZ) (h' : mx_H), mx_Ca (tB l D b0 ad Hb tau) (d + 11) 185 [.ref 56, xI 10, xI x1, xI x2] h (none, h') ∧ XH n s S Z' h' ∧ GB n S Z' ∧ fr' [(56, 18), (61, (-1)), (63, (-1))] Z Z' ∧ (Z' 56 18 = Z 56 18 + wy (10 * 19 + x1)) := by
  obtain ⟨r, hca, Z', h', e, q⟩ := Jmt (B := tB l D b0 ad Hb tau) (M := mt_185) (mi := 185) (as := [.ref 56, xI 10, xI x1, xI x2]) (d := d + 10) (ls := [some (.ref 56), some (xI 10), some (xI x1), some (xI x2), none]) rfl rfl rfl rfl rfl rfl (cw_185_56_i10 (l := l) (D := D) (b0 := b0) (ad := ad) (Hb := Hb) (tau := tau) (d := d) (Post := fun r => ∃ (Z' : xZ) (h' : mx_H), r = (none, h') ∧ XH n s S Z' h' ∧ GB n S Z' ∧ fr' [(56, 18), (61, (-1)), (63, (-1))] Z Z' ∧ (Z' 56 18 = Z 56 18 + wy (10 * 19 + x1))) hx hG p1 p2 k0 k1 (fun Z' h' q1 q2 q3 q4 => ⟨Z', h', rfl, q1, q2, q3, q4⟩))
  subst e; exact ⟨Z', h', hca, q⟩
theorem ct_185_56_le10 {l : Launch} {D : va_G} {b0 : Nat} {ad : Nat → Nat} {Hb : Heap} {tau : Nat → Int64} {d n s : Nat} {S : Nat → xS} {Z : xZ} {h : mx_H} (hx : XH n s S Z h) (hG : GB n S Z) {x0 x1 x2 : Int} (p0 : 0 ≤ x0 ∧ x0 ≤ 10) (p1 : 0 ≤ x1 ∧ x1 ≤ 18) (p2 : 0 ≤ x2 ∧ x2 ≤ 18) (k0 : Z 56 18 + wy (x0 * 19 + x1) ≤ 385) (k1 : x2 + x0 ≤ 18) : ∃ (Z' : xZ) (h' : mx_H), mx_Ca (tB l D b0 ad Hb tau) (d + 11) 185 [.ref 56, xI x0, xI x1, xI x2] h (none, h') ∧ XH n s S Z' h' ∧ GB n S Z' ∧ fr' [(56, 18), (61, (-1)), (63, (-1))] Z Z' ∧ (Z' 56 18 = Z 56 18 + wy (x0 * 19 + x1)) := by
  have hc : x0 = 0 ∨ x0 = 1 ∨ x0 = 2 ∨ x0 = 3 ∨ x0 = 4 ∨ x0 = 5 ∨ x0 = 6 ∨ x0 = 7 ∨ x0 = 8 ∨ x0 = 9 ∨ x0 = 10 := by omega
  rcases hc with hc | hc | hc | hc | hc | hc | hc | hc | hc | hc | hc
  · subst hc
    obtain ⟨Z', h', hca, q1, q2, q3, q4⟩ := ct_185_56_i0 (d := d + 10) (l := l) (D := D) (b0 := b0) (ad := ad) (Hb := Hb) (tau := tau) hx hG p1 p2 k0 k1
    exact ⟨Z', h', hca, q1, q2, fr_tr (M1 := []) fr_rf q3 rfl rfl, q4⟩
  · subst hc
    obtain ⟨Z', h', hca, q1, q2, q3, q4⟩ := ct_185_56_i1 (d := d + 9) (l := l) (D := D) (b0 := b0) (ad := ad) (Hb := Hb) (tau := tau) hx hG p1 p2 k0 k1
    exact ⟨Z', h', hca, q1, q2, fr_tr (M1 := []) fr_rf q3 rfl rfl, q4⟩
  · subst hc
    obtain ⟨Z', h', hca, q1, q2, q3, q4⟩ := ct_185_56_i2 (d := d + 8) (l := l) (D := D) (b0 := b0) (ad := ad) (Hb := Hb) (tau := tau) hx hG p1 p2 k0 k1
    exact ⟨Z', h', hca, q1, q2, fr_tr (M1 := []) fr_rf q3 rfl rfl, q4⟩
  · subst hc
    obtain ⟨Z', h', hca, q1, q2, q3, q4⟩ := ct_185_56_i3 (d := d + 7) (l := l) (D := D) (b0 := b0) (ad := ad) (Hb := Hb) (tau := tau) hx hG p1 p2 k0 k1
    exact ⟨Z', h', hca, q1, q2, fr_tr (M1 := []) fr_rf q3 rfl rfl, q4⟩
  · subst hc
    obtain ⟨Z', h', hca, q1, q2, q3, q4⟩ := ct_185_56_i4 (d := d + 6) (l := l) (D := D) (b0 := b0) (ad := ad) (Hb := Hb) (tau := tau) hx hG p1 p2 k0 k1
    exact ⟨Z', h', hca, q1, q2, fr_tr (M1 := []) fr_rf q3 rfl rfl, q4⟩
  · subst hc
    obtain ⟨Z', h', hca, q1, q2, q3, q4⟩ := ct_185_56_i5 (d := d + 5) (l := l) (D := D) (b0 := b0) (ad := ad) (Hb := Hb) (tau := tau) hx hG p1 p2 k0 k1
    exact ⟨Z', h', hca, q1, q2, fr_tr (M1 := []) fr_rf q3 rfl rfl, q4⟩
  · subst hc
    obtain ⟨Z', h', hca, q1, q2, q3, q4⟩ := ct_185_56_i6 (d := d + 4) (l := l) (D := D) (b0 := b0) (ad := ad) (Hb := Hb) (tau := tau) hx hG p1 p2 k0 k1
    exact ⟨Z', h', hca, q1, q2, fr_tr (M1 := []) fr_rf q3 rfl rfl, q4⟩
  · subst hc
    obtain ⟨Z', h', hca, q1, q2, q3, q4⟩ := ct_185_56_i7 (d := d + 3) (l := l) (D := D) (b0 := b0) (ad := ad) (Hb := Hb) (tau := tau) hx hG p1 p2 k0 k1
    exact ⟨Z', h', hca, q1, q2, fr_tr (M1 := []) fr_rf q3 rfl rfl, q4⟩
  · subst hc
    obtain ⟨Z', h', hca, q1, q2, q3, q4⟩ := ct_185_56_i8 (d := d + 2) (l := l) (D := D) (b0 := b0) (ad := ad) (Hb := Hb) (tau := tau) hx hG p1 p2 k0 k1
    exact ⟨Z', h', hca, q1, q2, fr_tr (M1 := []) fr_rf q3 rfl rfl, q4⟩
  · subst hc
    obtain ⟨Z', h', hca, q1, q2, q3, q4⟩ := ct_185_56_i9 (d := d + 1) (l := l) (D := D) (b0 := b0) (ad := ad) (Hb := Hb) (tau := tau) hx hG p1 p2 k0 k1
    exact ⟨Z', h', hca, q1, q2, fr_tr (M1 := []) fr_rf q3 rfl rfl, q4⟩
  · subst hc
    obtain ⟨Z', h', hca, q1, q2, q3, q4⟩ := ct_185_56_i10 (d := d + 0) (l := l) (D := D) (b0 := b0) (ad := ad) (Hb := Hb) (tau := tau) hx hG p1 p2 k0 k1
    exact ⟨Z', h', hca, q1, q2, fr_tr (M1 := []) fr_rf q3 rfl rfl, q4⟩
set_option maxRecDepth 100000 in
theorem cw_185_56_i11 {l : Launch} {D : va_G} {b0 : Nat} {ad : Nat → Nat} {Hb : Heap} {tau : Nat → Int64} {d n s : Nat} {S : Nat → xS} {Z : xZ} {h : mx_H} {Post : mx_R → Prop} (hx : XH n s S Z h) (hG : GB n S Z)  {x1 x2 : Int} (p1 : 0 ≤ x1 ∧ x1 ≤ 18) (p2 : 0 ≤ x2 ∧ x2 ≤ 18) (k0 : Z 56 18 + wy (11 * 19 + x1) ≤ 385) (k1 : x2 + 11 ≤ 18) (hP : ∀ (Z' : xZ) (h' : mx_H), XH n s S Z' h' → GB n S Z' → fr' [(56, 18), (61, (-1)), (63, (-1))] Z Z' → Z' 56 18 = Z 56 18 + wy (11 * 19 + x1) → Post (none, h')) : mx_J (tB l D b0 ad Hb tau) mt_185 (d + 11) 0 [some (.ref 56), some (xI 11), some (xI x1), some (xI x2), none] [] h Post := by
    have a56 : 56 < n := lt83 (GB_n hG) rfl
    have s56 : S 56 = .inl (12, [0, 2, 2, 2, 2, 0, 0, 0, 0, 0, 0, 0, 0, 0, 0, 2, 2, 2, 0, 2, 2, 2, 0, 0, 2, 2, 2, 2, 2, 2, 0, 0, 2, 2, 2, 2, 2, 2, 2, 2, 2, 2]) := GB_s hG 56 rfl
    have a63 : 63 < n := lt83 (GB_n hG) rfl
    have s63 : S 63 = .inr (.int, 18, 0) := GB_s hG 63 rfl
    refine mx_J.step (sn_185 0) (fun _ _ => rfl) ?_
    refine Jif_ne (show mx_Sn _ _ 1 (mx_if_ne 63 4) from sn_185 1) (by omega) (fun q1 => ?_) (fun q1 => ?_)
    · skip
      refine mx_J.step (sn_185 63) (fun _ _ => rfl) ?_
      refine mx_J.step (sn_185 64) (fun _ _ => rfl) ?_
      have c73 : ∀ (k2_0 : Int), 0 ≤ k2_0 ∧ k2_0 ≤ 11 → (wy (11 * 19 + k2_0) = wy (11 * 19 + x1) ∧ k2_0 ≤ 11) → mx_J (tB l D b0 ad Hb tau) mt_185 (d + 11) 73 [some (.ref 56), some (xI 11), some (xI x1), some (xI x2), none] [xI k2_0] h Post := by
        intro k2_0 f2_0 f2_1
        refine mx_J.step (ls2 := [some (.ref 56), some (xI 11), some (xI x1), some (xI x2), some (xI k2_0)]) (sn_185 73) (fun _ _ => rfl) ?_
        have c75 : ∀ (m3 : Nat) (w3_4 : Int) (Z4 : xZ) (h4 : mx_H), w3_4 - 0 < (m3 : Int) → 0 ≤ w3_4 ∧ w3_4 ≤ 11 → (Z4 56 18 + wy (11 * 19 + w3_4) = Z 56 18 + wy (11 * 19 + x1)) → XH n s S Z4 h4 → GB n S Z4 → fr' [(56, 18), (61, (-1)), (63, (-1))] Z Z4 → mx_J (tB l D b0 ad Hb tau) mt_185 (d + 11) 75 [some (.ref 56), some (xI 11), some (xI x1), some (xI x2), some (xI w3_4)] [] h4 Post := by
          intro m3
          induction m3 with
          | zero => intro w3_4 Z4 h4 q3 f3_0 f3_1 hx4 hG4 hf4; exact absurd q3 (by omega)
          | succ m3 ih3 =>
            intro w3_4 Z4 h4 q3 f3_0 f3_1 hx4 hG4 hf4
            have b5 : 0 ≤ Z4 56 18 ∧ Z4 56 18 ≤ 385 := hG4.pr 56 18
            refine mx_J.step (sn_185 75) (fun _ _ => rfl) ?_
            refine Jif_le (show mx_Sn _ _ 77 (mx_if_le 107 80) from sn_185 77) (by omega) (fun q6 => ?_) (fun q6 => ?_)
            · skip
              have w0 : wy (11 * 19 + w3_4) = 0 := by rw [show w3_4 = 0 by omega]; exact Wy0 (by omega)
              have b7 : 0 ≤ Z4 56 18 ∧ Z4 56 18 ≤ 385 := hG4.pr 56 18
              have b8 : 0 ≤ Z4 56 18 ∧ Z4 56 18 ≤ 385 := hG4.pr 56 18
              exact mx_J.ret (sn_185 107) (fun _ _ => rfl) (hP Z4 h4 hx4 hG4 (fr_tr (M := [(56, 18), (61, (-1)), (63, (-1))]) fr_rf (hf4) (M1 := []) rfl rfl) (by omega))
            · skip
              refine mx_J.step (sn_185 80) (fun _ _ => rfl) ?_
              refine JgetR (g := 17) (b := 63) hx4 (show mx_Sn _ _ 81 (mx_getf 12 17 84) from sn_185 81) a56 s56 rfl rfl (hG4.prr 56 17 rfl) ?_
              refine mx_J.step (sn_185 84) (fun _ _ => rfl) ?_
              refine mx_J.step (sn_185 85) (fun _ _ => rfl) ?_
              refine JiastI hx4 (show mx_Sn _ _ 87 (mx_iast 1 88) from sn_185 87) a63 s63 rfl (by omega) (fun Z10 h10 hx10 hE10 => ?_)
              have hG10 := GB_up hG4 hE10 (show 0 ≤ w3_4 ∧ w3_4 ≤ 18 by omega) trivial rfl
              have wr := WRr (n := 11) (m := w3_4) (by omega) (by omega)
              refine mx_J.step (sn_185 88) (fun _ _ => rfl) ?_
              refine mx_J.step (sn_185 89) (fun _ _ => rfl) ?_
              refine mx_J.step (sn_185 90) (fun _ _ => rfl) ?_
              refine Jisub (show mx_Sn _ _ 92 (mx_isub 93) from sn_185 92) ?_
              refine mx_J.step (sn_185 93) (fun _ _ => rfl) ?_
              refine mx_J.step (sn_185 95) (fun _ _ => rfl) ?_
              refine JcI (z := 1) (show mx_Sn _ _ 96 (mx_const (.int 1) 97) from sn_185 96) rfl ?_
              refine Jiadd (show mx_Sn _ _ 97 (mx_iadd 98) from sn_185 97) ?_
              have eq12 : Z10 56 18 = Z4 56 18 := (up_nk hE10 rfl)
              have b13 : 0 ≤ Z4 56 18 ∧ Z4 56 18 ≤ 385 := hG4.pr 56 18
              obtain ⟨Z11, h11, hc11, hx11, hG11, hf11, b11⟩ := ct_185_56_le10 (d := d + 0) (l := l) (D := D) (b0 := b0) (ad := ad) (Hb := Hb) (tau := tau) hx10 hG10 (show 0 ≤ 11 - w3_4 ∧ 11 - w3_4 ≤ 10 by omega) (show 0 ≤ w3_4 ∧ w3_4 ≤ 18 by omega) (show 0 ≤ x2 + 1 ∧ x2 + 1 ≤ 18 by omega) (show Z10 56 18 + wy ((11 - w3_4) * 19 + w3_4) ≤ 385 by first | omega | (simp only [eq12]; omega)) (show (x2 + 1) + (11 - w3_4) ≤ 18 by first | omega | (simp only [eq12]; omega))
              try rw [eq12] at b11
              have b14 : 0 ≤ Z11 56 18 ∧ Z11 56 18 ≤ 385 := hG11.pr 56 18
              refine Jcv0 hx10 (show mx_Sn _ _ 98 (mx_callv 185 4 12 101) from sn_185 98) a56 s56 hc11 rfl rfl rfl ?_
              refine Jiinc (z := w3_4) (cz := (-1)) (ls2 := [some (.ref 56), some (xI 11), some (xI x1), some (xI x2), some (xI (w3_4 + (-1)))]) (show mx_Sn _ _ 101 (mx_iinc 4 (-1) 104) from sn_185 101) rfl rfl rfl rfl ?_
              refine mx_J.step (sn_185 104) (fun _ _ => rfl) ?_
              have b15 : 0 ≤ Z11 56 18 ∧ Z11 56 18 ≤ 385 := hG11.pr 56 18
              exact ih3 (w3_4 + (-1)) Z11 h11 (by omega) (by omega) (by omega) hx11 hG11 (fr_tr (M := [(56, 18), (61, (-1)), (63, (-1))]) (fr_tr (M := [(56, 18), (61, (-1)), (63, (-1))]) (fr_tr (M := [(56, 18), (61, (-1)), (63, (-1))]) fr_rf (hf4) (M1 := []) rfl rfl) (fr_ua hE10) rfl rfl) (hf11) rfl rfl)
        have b16 : 0 ≤ Z 56 18 ∧ Z 56 18 ≤ 385 := hG.pr 56 18
        exact c75 (Int.toNat (k2_0 - 0) + 1) k2_0 Z h (by omega) (by omega) (by omega) hx hG fr_rf
      refine Jicmp_ge (show mx_Sn _ _ 65 (mx_icmp_ge 72 68) from sn_185 65) (by omega) (by omega) (fun q17 => ?_) (fun q17 => ?_)
      · skip
        refine mx_J.step (sn_185 72) (fun _ _ => rfl) ?_
        exact c73 11 (by omega) (by first | exact ⟨rfl, by omega⟩ | exact ⟨WSs (n := 11) (by omega) (by omega), by omega⟩)
      · skip
        refine mx_J.step (sn_185 68) (fun _ _ => rfl) ?_
        refine mx_J.step (sn_185 69) (fun _ _ => rfl) ?_
        exact c73 x1 (by omega) (by first | exact ⟨rfl, by omega⟩ | exact ⟨WSs (n := 11) (by omega) (by omega), by omega⟩)
    · skip
      exfalso; omega
theorem ct_185_56_i11 {l : Launch} {D : va_G} {b0 : Nat} {ad : Nat → Nat} {Hb : Heap} {tau : Nat → Int64} {d n s : Nat} {S : Nat → xS} {Z : xZ} {h : mx_H} (hx : XH n s S Z h) (hG : GB n S Z)  {x1 x2 : Int} (p1 : 0 ≤ x1 ∧ x1 ≤ 18) (p2 : 0 ≤ x2 ∧ x2 ≤ 18) (k0 : Z 56 18 + wy (11 * 19 + x1) ≤ 385) (k1 : x2 + 11 ≤ 18) : ∃ (Z' : xZ) (h' : mx_H), mx_Ca (tB l D b0 ad Hb tau) (d + 12) 185 [.ref 56, xI 11, xI x1, xI x2] h (none, h') ∧ XH n s S Z' h' ∧ GB n S Z' ∧ fr' [(56, 18), (61, (-1)), (63, (-1))] Z Z' ∧ (Z' 56 18 = Z 56 18 + wy (11 * 19 + x1)) := by
  obtain ⟨r, hca, Z', h', e, q⟩ := Jmt (B := tB l D b0 ad Hb tau) (M := mt_185) (mi := 185) (as := [.ref 56, xI 11, xI x1, xI x2]) (d := d + 11) (ls := [some (.ref 56), some (xI 11), some (xI x1), some (xI x2), none]) rfl rfl rfl rfl rfl rfl (cw_185_56_i11 (l := l) (D := D) (b0 := b0) (ad := ad) (Hb := Hb) (tau := tau) (d := d) (Post := fun r => ∃ (Z' : xZ) (h' : mx_H), r = (none, h') ∧ XH n s S Z' h' ∧ GB n S Z' ∧ fr' [(56, 18), (61, (-1)), (63, (-1))] Z Z' ∧ (Z' 56 18 = Z 56 18 + wy (11 * 19 + x1))) hx hG p1 p2 k0 k1 (fun Z' h' q1 q2 q3 q4 => ⟨Z', h', rfl, q1, q2, q3, q4⟩))
  subst e; exact ⟨Z', h', hca, q⟩
theorem ct_185_56_le11 {l : Launch} {D : va_G} {b0 : Nat} {ad : Nat → Nat} {Hb : Heap} {tau : Nat → Int64} {d n s : Nat} {S : Nat → xS} {Z : xZ} {h : mx_H} (hx : XH n s S Z h) (hG : GB n S Z) {x0 x1 x2 : Int} (p0 : 0 ≤ x0 ∧ x0 ≤ 11) (p1 : 0 ≤ x1 ∧ x1 ≤ 18) (p2 : 0 ≤ x2 ∧ x2 ≤ 18) (k0 : Z 56 18 + wy (x0 * 19 + x1) ≤ 385) (k1 : x2 + x0 ≤ 18) : ∃ (Z' : xZ) (h' : mx_H), mx_Ca (tB l D b0 ad Hb tau) (d + 12) 185 [.ref 56, xI x0, xI x1, xI x2] h (none, h') ∧ XH n s S Z' h' ∧ GB n S Z' ∧ fr' [(56, 18), (61, (-1)), (63, (-1))] Z Z' ∧ (Z' 56 18 = Z 56 18 + wy (x0 * 19 + x1)) := by
  have hc : x0 = 0 ∨ x0 = 1 ∨ x0 = 2 ∨ x0 = 3 ∨ x0 = 4 ∨ x0 = 5 ∨ x0 = 6 ∨ x0 = 7 ∨ x0 = 8 ∨ x0 = 9 ∨ x0 = 10 ∨ x0 = 11 := by omega
  rcases hc with hc | hc | hc | hc | hc | hc | hc | hc | hc | hc | hc | hc
  · subst hc
    obtain ⟨Z', h', hca, q1, q2, q3, q4⟩ := ct_185_56_i0 (d := d + 11) (l := l) (D := D) (b0 := b0) (ad := ad) (Hb := Hb) (tau := tau) hx hG p1 p2 k0 k1
    exact ⟨Z', h', hca, q1, q2, fr_tr (M1 := []) fr_rf q3 rfl rfl, q4⟩
  · subst hc
    obtain ⟨Z', h', hca, q1, q2, q3, q4⟩ := ct_185_56_i1 (d := d + 10) (l := l) (D := D) (b0 := b0) (ad := ad) (Hb := Hb) (tau := tau) hx hG p1 p2 k0 k1
    exact ⟨Z', h', hca, q1, q2, fr_tr (M1 := []) fr_rf q3 rfl rfl, q4⟩
  · subst hc
    obtain ⟨Z', h', hca, q1, q2, q3, q4⟩ := ct_185_56_i2 (d := d + 9) (l := l) (D := D) (b0 := b0) (ad := ad) (Hb := Hb) (tau := tau) hx hG p1 p2 k0 k1
    exact ⟨Z', h', hca, q1, q2, fr_tr (M1 := []) fr_rf q3 rfl rfl, q4⟩
  · subst hc
    obtain ⟨Z', h', hca, q1, q2, q3, q4⟩ := ct_185_56_i3 (d := d + 8) (l := l) (D := D) (b0 := b0) (ad := ad) (Hb := Hb) (tau := tau) hx hG p1 p2 k0 k1
    exact ⟨Z', h', hca, q1, q2, fr_tr (M1 := []) fr_rf q3 rfl rfl, q4⟩
  · subst hc
    obtain ⟨Z', h', hca, q1, q2, q3, q4⟩ := ct_185_56_i4 (d := d + 7) (l := l) (D := D) (b0 := b0) (ad := ad) (Hb := Hb) (tau := tau) hx hG p1 p2 k0 k1
    exact ⟨Z', h', hca, q1, q2, fr_tr (M1 := []) fr_rf q3 rfl rfl, q4⟩
  · subst hc
    obtain ⟨Z', h', hca, q1, q2, q3, q4⟩ := ct_185_56_i5 (d := d + 6) (l := l) (D := D) (b0 := b0) (ad := ad) (Hb := Hb) (tau := tau) hx hG p1 p2 k0 k1
    exact ⟨Z', h', hca, q1, q2, fr_tr (M1 := []) fr_rf q3 rfl rfl, q4⟩
  · subst hc
    obtain ⟨Z', h', hca, q1, q2, q3, q4⟩ := ct_185_56_i6 (d := d + 5) (l := l) (D := D) (b0 := b0) (ad := ad) (Hb := Hb) (tau := tau) hx hG p1 p2 k0 k1
    exact ⟨Z', h', hca, q1, q2, fr_tr (M1 := []) fr_rf q3 rfl rfl, q4⟩
  · subst hc
    obtain ⟨Z', h', hca, q1, q2, q3, q4⟩ := ct_185_56_i7 (d := d + 4) (l := l) (D := D) (b0 := b0) (ad := ad) (Hb := Hb) (tau := tau) hx hG p1 p2 k0 k1
    exact ⟨Z', h', hca, q1, q2, fr_tr (M1 := []) fr_rf q3 rfl rfl, q4⟩
  · subst hc
    obtain ⟨Z', h', hca, q1, q2, q3, q4⟩ := ct_185_56_i8 (d := d + 3) (l := l) (D := D) (b0 := b0) (ad := ad) (Hb := Hb) (tau := tau) hx hG p1 p2 k0 k1
    exact ⟨Z', h', hca, q1, q2, fr_tr (M1 := []) fr_rf q3 rfl rfl, q4⟩
  · subst hc
    obtain ⟨Z', h', hca, q1, q2, q3, q4⟩ := ct_185_56_i9 (d := d + 2) (l := l) (D := D) (b0 := b0) (ad := ad) (Hb := Hb) (tau := tau) hx hG p1 p2 k0 k1
    exact ⟨Z', h', hca, q1, q2, fr_tr (M1 := []) fr_rf q3 rfl rfl, q4⟩
  · subst hc
    obtain ⟨Z', h', hca, q1, q2, q3, q4⟩ := ct_185_56_i10 (d := d + 1) (l := l) (D := D) (b0 := b0) (ad := ad) (Hb := Hb) (tau := tau) hx hG p1 p2 k0 k1
    exact ⟨Z', h', hca, q1, q2, fr_tr (M1 := []) fr_rf q3 rfl rfl, q4⟩
  · subst hc
    obtain ⟨Z', h', hca, q1, q2, q3, q4⟩ := ct_185_56_i11 (d := d + 0) (l := l) (D := D) (b0 := b0) (ad := ad) (Hb := Hb) (tau := tau) hx hG p1 p2 k0 k1
    exact ⟨Z', h', hca, q1, q2, fr_tr (M1 := []) fr_rf q3 rfl rfl, q4⟩
set_option maxRecDepth 100000 in
theorem cw_185_56_i12 {l : Launch} {D : va_G} {b0 : Nat} {ad : Nat → Nat} {Hb : Heap} {tau : Nat → Int64} {d n s : Nat} {S : Nat → xS} {Z : xZ} {h : mx_H} {Post : mx_R → Prop} (hx : XH n s S Z h) (hG : GB n S Z)  {x1 x2 : Int} (p1 : 0 ≤ x1 ∧ x1 ≤ 18) (p2 : 0 ≤ x2 ∧ x2 ≤ 18) (k0 : Z 56 18 + wy (12 * 19 + x1) ≤ 385) (k1 : x2 + 12 ≤ 18) (hP : ∀ (Z' : xZ) (h' : mx_H), XH n s S Z' h' → GB n S Z' → fr' [(56, 18), (61, (-1)), (63, (-1))] Z Z' → Z' 56 18 = Z 56 18 + wy (12 * 19 + x1) → Post (none, h')) : mx_J (tB l D b0 ad Hb tau) mt_185 (d + 12) 0 [some (.ref 56), some (xI 12), some (xI x1), some (xI x2), none] [] h Post := by
    have a56 : 56 < n := lt83 (GB_n hG) rfl
    have s56 : S 56 = .inl (12, [0, 2, 2, 2, 2, 0, 0, 0, 0, 0, 0, 0, 0, 0, 0, 2, 2, 2, 0, 2, 2, 2, 0, 0, 2, 2, 2, 2, 2, 2, 0, 0, 2, 2, 2, 2, 2, 2, 2, 2, 2, 2]) := GB_s hG 56 rfl
    have a63 : 63 < n := lt83 (GB_n hG) rfl
    have s63 : S 63 = .inr (.int, 18, 0) := GB_s hG 63 rfl
    refine mx_J.step (sn_185 0) (fun _ _ => rfl) ?_
    refine Jif_ne (show mx_Sn _ _ 1 (mx_if_ne 63 4) from sn_185 1) (by omega) (fun q1 => ?_) (fun q1 => ?_)
    · skip
      refine mx_J.step (sn_185 63) (fun _ _ => rfl) ?_
      refine mx_J.step (sn_185 64) (fun _ _ => rfl) ?_
      have c73 : ∀ (k2_0 : Int), 0 ≤ k2_0 ∧ k2_0 ≤ 12 → (wy (12 * 19 + k2_0) = wy (12 * 19 + x1) ∧ k2_0 ≤ 12) → mx_J (tB l D b0 ad Hb tau) mt_185 (d + 12) 73 [some (.ref 56), some (xI 12), some (xI x1), some (xI x2), none] [xI k2_0] h Post := by
        intro k2_0 f2_0 f2_1
        refine mx_J.step (ls2 := [some (.ref 56), some (xI 12), some (xI x1), some (xI x2), some (xI k2_0)]) (sn_185 73) (fun _ _ => rfl) ?_
        have c75 : ∀ (m3 : Nat) (w3_4 : Int) (Z4 : xZ) (h4 : mx_H), w3_4 - 0 < (m3 : Int) → 0 ≤ w3_4 ∧ w3_4 ≤ 12 → (Z4 56 18 + wy (12 * 19 + w3_4) = Z 56 18 + wy (12 * 19 + x1)) → XH n s S Z4 h4 → GB n S Z4 → fr' [(56, 18), (61, (-1)), (63, (-1))] Z Z4 → mx_J (tB l D b0 ad Hb tau) mt_185 (d + 12) 75 [some (.ref 56), some (xI 12), some (xI x1), some (xI x2), some (xI w3_4)] [] h4 Post := by
          intro m3
          induction m3 with
          | zero => intro w3_4 Z4 h4 q3 f3_0 f3_1 hx4 hG4 hf4; exact absurd q3 (by omega)
          | succ m3 ih3 =>
            intro w3_4 Z4 h4 q3 f3_0 f3_1 hx4 hG4 hf4
            have b5 : 0 ≤ Z4 56 18 ∧ Z4 56 18 ≤ 385 := hG4.pr 56 18
            refine mx_J.step (sn_185 75) (fun _ _ => rfl) ?_
            refine Jif_le (show mx_Sn _ _ 77 (mx_if_le 107 80) from sn_185 77) (by omega) (fun q6 => ?_) (fun q6 => ?_)
            · skip
              have w0 : wy (12 * 19 + w3_4) = 0 := by rw [show w3_4 = 0 by omega]; exact Wy0 (by omega)
              have b7 : 0 ≤ Z4 56 18 ∧ Z4 56 18 ≤ 385 := hG4.pr 56 18
              have b8 : 0 ≤ Z4 56 18 ∧ Z4 56 18 ≤ 385 := hG4.pr 56 18
              exact mx_J.ret (sn_185 107) (fun _ _ => rfl) (hP Z4 h4 hx4 hG4 (fr_tr (M := [(56, 18), (61, (-1)), (63, (-1))]) fr_rf (hf4) (M1 := []) rfl rfl) (by omega))
            · skip
              refine mx_J.step (sn_185 80) (fun _ _ => rfl) ?_
              refine JgetR (g := 17) (b := 63) hx4 (show mx_Sn _ _ 81 (mx_getf 12 17 84) from sn_185 81) a56 s56 rfl rfl (hG4.prr 56 17 rfl) ?_
              refine mx_J.step (sn_185 84) (fun _ _ => rfl) ?_
              refine mx_J.step (sn_185 85) (fun _ _ => rfl) ?_
              refine JiastI hx4 (show mx_Sn _ _ 87 (mx_iast 1 88) from sn_185 87) a63 s63 rfl (by omega) (fun Z10 h10 hx10 hE10 => ?_)
              have hG10 := GB_up hG4 hE10 (show 0 ≤ w3_4 ∧ w3_4 ≤ 18 by omega) trivial rfl
              have wr := WRr (n := 12) (m := w3_4) (by omega) (by omega)
              refine mx_J.step (sn_185 88) (fun _ _ => rfl) ?_
              refine mx_J.step (sn_185 89) (fun _ _ => rfl) ?_
              refine mx_J.step (sn_185 90) (fun _ _ => rfl) ?_
              refine Jisub (show mx_Sn _ _ 92 (mx_isub 93) from sn_185 92) ?_
              refine mx_J.step (sn_185 93) (fun _ _ => rfl) ?_
              refine mx_J.step (sn_185 95) (fun _ _ => rfl) ?_
              refine JcI (z := 1) (show mx_Sn _ _ 96 (mx_const (.int 1) 97) from sn_185 96) rfl ?_
              refine Jiadd (show mx_Sn _ _ 97 (mx_iadd 98) from sn_185 97) ?_
              have eq12 : Z10 56 18 = Z4 56 18 := (up_nk hE10 rfl)
              have b13 : 0 ≤ Z4 56 18 ∧ Z4 56 18 ≤ 385 := hG4.pr 56 18
              obtain ⟨Z11, h11, hc11, hx11, hG11, hf11, b11⟩ := ct_185_56_le11 (d := d + 0) (l := l) (D := D) (b0 := b0) (ad := ad) (Hb := Hb) (tau := tau) hx10 hG10 (show 0 ≤ 12 - w3_4 ∧ 12 - w3_4 ≤ 11 by omega) (show 0 ≤ w3_4 ∧ w3_4 ≤ 18 by omega) (show 0 ≤ x2 + 1 ∧ x2 + 1 ≤ 18 by omega) (show Z10 56 18 + wy ((12 - w3_4) * 19 + w3_4) ≤ 385 by first | omega | (simp only [eq12]; omega)) (show (x2 + 1) + (12 - w3_4) ≤ 18 by first | omega | (simp only [eq12]; omega))
              try rw [eq12] at b11
              have b14 : 0 ≤ Z11 56 18 ∧ Z11 56 18 ≤ 385 := hG11.pr 56 18
              refine Jcv0 hx10 (show mx_Sn _ _ 98 (mx_callv 185 4 12 101) from sn_185 98) a56 s56 hc11 rfl rfl rfl ?_
              refine Jiinc (z := w3_4) (cz := (-1)) (ls2 := [some (.ref 56), some (xI 12), some (xI x1), some (xI x2), some (xI (w3_4 + (-1)))]) (show mx_Sn _ _ 101 (mx_iinc 4 (-1) 104) from sn_185 101) rfl rfl rfl rfl ?_
              refine mx_J.step (sn_185 104) (fun _ _ => rfl) ?_
              have b15 : 0 ≤ Z11 56 18 ∧ Z11 56 18 ≤ 385 := hG11.pr 56 18
              exact ih3 (w3_4 + (-1)) Z11 h11 (by omega) (by omega) (by omega) hx11 hG11 (fr_tr (M := [(56, 18), (61, (-1)), (63, (-1))]) (fr_tr (M := [(56, 18), (61, (-1)), (63, (-1))]) (fr_tr (M := [(56, 18), (61, (-1)), (63, (-1))]) fr_rf (hf4) (M1 := []) rfl rfl) (fr_ua hE10) rfl rfl) (hf11) rfl rfl)
        have b16 : 0 ≤ Z 56 18 ∧ Z 56 18 ≤ 385 := hG.pr 56 18
        exact c75 (Int.toNat (k2_0 - 0) + 1) k2_0 Z h (by omega) (by omega) (by omega) hx hG fr_rf
      refine Jicmp_ge (show mx_Sn _ _ 65 (mx_icmp_ge 72 68) from sn_185 65) (by omega) (by omega) (fun q17 => ?_) (fun q17 => ?_)
      · skip
        refine mx_J.step (sn_185 72) (fun _ _ => rfl) ?_
        exact c73 12 (by omega) (by first | exact ⟨rfl, by omega⟩ | exact ⟨WSs (n := 12) (by omega) (by omega), by omega⟩)
      · skip
        refine mx_J.step (sn_185 68) (fun _ _ => rfl) ?_
        refine mx_J.step (sn_185 69) (fun _ _ => rfl) ?_
        exact c73 x1 (by omega) (by first | exact ⟨rfl, by omega⟩ | exact ⟨WSs (n := 12) (by omega) (by omega), by omega⟩)
    · skip
      exfalso; omega
theorem ct_185_56_i12 {l : Launch} {D : va_G} {b0 : Nat} {ad : Nat → Nat} {Hb : Heap} {tau : Nat → Int64} {d n s : Nat} {S : Nat → xS} {Z : xZ} {h : mx_H} (hx : XH n s S Z h) (hG : GB n S Z)  {x1 x2 : Int} (p1 : 0 ≤ x1 ∧ x1 ≤ 18) (p2 : 0 ≤ x2 ∧ x2 ≤ 18) (k0 : Z 56 18 + wy (12 * 19 + x1) ≤ 385) (k1 : x2 + 12 ≤ 18) : ∃ (Z' : xZ) (h' : mx_H), mx_Ca (tB l D b0 ad Hb tau) (d + 13) 185 [.ref 56, xI 12, xI x1, xI x2] h (none, h') ∧ XH n s S Z' h' ∧ GB n S Z' ∧ fr' [(56, 18), (61, (-1)), (63, (-1))] Z Z' ∧ (Z' 56 18 = Z 56 18 + wy (12 * 19 + x1)) := by
  obtain ⟨r, hca, Z', h', e, q⟩ := Jmt (B := tB l D b0 ad Hb tau) (M := mt_185) (mi := 185) (as := [.ref 56, xI 12, xI x1, xI x2]) (d := d + 12) (ls := [some (.ref 56), some (xI 12), some (xI x1), some (xI x2), none]) rfl rfl rfl rfl rfl rfl (cw_185_56_i12 (l := l) (D := D) (b0 := b0) (ad := ad) (Hb := Hb) (tau := tau) (d := d) (Post := fun r => ∃ (Z' : xZ) (h' : mx_H), r = (none, h') ∧ XH n s S Z' h' ∧ GB n S Z' ∧ fr' [(56, 18), (61, (-1)), (63, (-1))] Z Z' ∧ (Z' 56 18 = Z 56 18 + wy (12 * 19 + x1))) hx hG p1 p2 k0 k1 (fun Z' h' q1 q2 q3 q4 => ⟨Z', h', rfl, q1, q2, q3, q4⟩))
  subst e; exact ⟨Z', h', hca, q⟩
theorem ct_185_56_le12 {l : Launch} {D : va_G} {b0 : Nat} {ad : Nat → Nat} {Hb : Heap} {tau : Nat → Int64} {d n s : Nat} {S : Nat → xS} {Z : xZ} {h : mx_H} (hx : XH n s S Z h) (hG : GB n S Z) {x0 x1 x2 : Int} (p0 : 0 ≤ x0 ∧ x0 ≤ 12) (p1 : 0 ≤ x1 ∧ x1 ≤ 18) (p2 : 0 ≤ x2 ∧ x2 ≤ 18) (k0 : Z 56 18 + wy (x0 * 19 + x1) ≤ 385) (k1 : x2 + x0 ≤ 18) : ∃ (Z' : xZ) (h' : mx_H), mx_Ca (tB l D b0 ad Hb tau) (d + 13) 185 [.ref 56, xI x0, xI x1, xI x2] h (none, h') ∧ XH n s S Z' h' ∧ GB n S Z' ∧ fr' [(56, 18), (61, (-1)), (63, (-1))] Z Z' ∧ (Z' 56 18 = Z 56 18 + wy (x0 * 19 + x1)) := by
  have hc : x0 = 0 ∨ x0 = 1 ∨ x0 = 2 ∨ x0 = 3 ∨ x0 = 4 ∨ x0 = 5 ∨ x0 = 6 ∨ x0 = 7 ∨ x0 = 8 ∨ x0 = 9 ∨ x0 = 10 ∨ x0 = 11 ∨ x0 = 12 := by omega
  rcases hc with hc | hc | hc | hc | hc | hc | hc | hc | hc | hc | hc | hc | hc
  · subst hc
    obtain ⟨Z', h', hca, q1, q2, q3, q4⟩ := ct_185_56_i0 (d := d + 12) (l := l) (D := D) (b0 := b0) (ad := ad) (Hb := Hb) (tau := tau) hx hG p1 p2 k0 k1
    exact ⟨Z', h', hca, q1, q2, fr_tr (M1 := []) fr_rf q3 rfl rfl, q4⟩
  · subst hc
    obtain ⟨Z', h', hca, q1, q2, q3, q4⟩ := ct_185_56_i1 (d := d + 11) (l := l) (D := D) (b0 := b0) (ad := ad) (Hb := Hb) (tau := tau) hx hG p1 p2 k0 k1
    exact ⟨Z', h', hca, q1, q2, fr_tr (M1 := []) fr_rf q3 rfl rfl, q4⟩
  · subst hc
    obtain ⟨Z', h', hca, q1, q2, q3, q4⟩ := ct_185_56_i2 (d := d + 10) (l := l) (D := D) (b0 := b0) (ad := ad) (Hb := Hb) (tau := tau) hx hG p1 p2 k0 k1
    exact ⟨Z', h', hca, q1, q2, fr_tr (M1 := []) fr_rf q3 rfl rfl, q4⟩
  · subst hc
    obtain ⟨Z', h', hca, q1, q2, q3, q4⟩ := ct_185_56_i3 (d := d + 9) (l := l) (D := D) (b0 := b0) (ad := ad) (Hb := Hb) (tau := tau) hx hG p1 p2 k0 k1
    exact ⟨Z', h', hca, q1, q2, fr_tr (M1 := []) fr_rf q3 rfl rfl, q4⟩
  · subst hc
    obtain ⟨Z', h', hca, q1, q2, q3, q4⟩ := ct_185_56_i4 (d := d + 8) (l := l) (D := D) (b0 := b0) (ad := ad) (Hb := Hb) (tau := tau) hx hG p1 p2 k0 k1
    exact ⟨Z', h', hca, q1, q2, fr_tr (M1 := []) fr_rf q3 rfl rfl, q4⟩
  · subst hc
    obtain ⟨Z', h', hca, q1, q2, q3, q4⟩ := ct_185_56_i5 (d := d + 7) (l := l) (D := D) (b0 := b0) (ad := ad) (Hb := Hb) (tau := tau) hx hG p1 p2 k0 k1
    exact ⟨Z', h', hca, q1, q2, fr_tr (M1 := []) fr_rf q3 rfl rfl, q4⟩
  · subst hc
    obtain ⟨Z', h', hca, q1, q2, q3, q4⟩ := ct_185_56_i6 (d := d + 6) (l := l) (D := D) (b0 := b0) (ad := ad) (Hb := Hb) (tau := tau) hx hG p1 p2 k0 k1
    exact ⟨Z', h', hca, q1, q2, fr_tr (M1 := []) fr_rf q3 rfl rfl, q4⟩
  · subst hc
    obtain ⟨Z', h', hca, q1, q2, q3, q4⟩ := ct_185_56_i7 (d := d + 5) (l := l) (D := D) (b0 := b0) (ad := ad) (Hb := Hb) (tau := tau) hx hG p1 p2 k0 k1
    exact ⟨Z', h', hca, q1, q2, fr_tr (M1 := []) fr_rf q3 rfl rfl, q4⟩
  · subst hc
    obtain ⟨Z', h', hca, q1, q2, q3, q4⟩ := ct_185_56_i8 (d := d + 4) (l := l) (D := D) (b0 := b0) (ad := ad) (Hb := Hb) (tau := tau) hx hG p1 p2 k0 k1
    exact ⟨Z', h', hca, q1, q2, fr_tr (M1 := []) fr_rf q3 rfl rfl, q4⟩
  · subst hc
    obtain ⟨Z', h', hca, q1, q2, q3, q4⟩ := ct_185_56_i9 (d := d + 3) (l := l) (D := D) (b0 := b0) (ad := ad) (Hb := Hb) (tau := tau) hx hG p1 p2 k0 k1
    exact ⟨Z', h', hca, q1, q2, fr_tr (M1 := []) fr_rf q3 rfl rfl, q4⟩
  · subst hc
    obtain ⟨Z', h', hca, q1, q2, q3, q4⟩ := ct_185_56_i10 (d := d + 2) (l := l) (D := D) (b0 := b0) (ad := ad) (Hb := Hb) (tau := tau) hx hG p1 p2 k0 k1
    exact ⟨Z', h', hca, q1, q2, fr_tr (M1 := []) fr_rf q3 rfl rfl, q4⟩
  · subst hc
    obtain ⟨Z', h', hca, q1, q2, q3, q4⟩ := ct_185_56_i11 (d := d + 1) (l := l) (D := D) (b0 := b0) (ad := ad) (Hb := Hb) (tau := tau) hx hG p1 p2 k0 k1
    exact ⟨Z', h', hca, q1, q2, fr_tr (M1 := []) fr_rf q3 rfl rfl, q4⟩
  · subst hc
    obtain ⟨Z', h', hca, q1, q2, q3, q4⟩ := ct_185_56_i12 (d := d + 0) (l := l) (D := D) (b0 := b0) (ad := ad) (Hb := Hb) (tau := tau) hx hG p1 p2 k0 k1
    exact ⟨Z', h', hca, q1, q2, fr_tr (M1 := []) fr_rf q3 rfl rfl, q4⟩
set_option maxRecDepth 100000 in
theorem cw_185_56_i13 {l : Launch} {D : va_G} {b0 : Nat} {ad : Nat → Nat} {Hb : Heap} {tau : Nat → Int64} {d n s : Nat} {S : Nat → xS} {Z : xZ} {h : mx_H} {Post : mx_R → Prop} (hx : XH n s S Z h) (hG : GB n S Z)  {x1 x2 : Int} (p1 : 0 ≤ x1 ∧ x1 ≤ 18) (p2 : 0 ≤ x2 ∧ x2 ≤ 18) (k0 : Z 56 18 + wy (13 * 19 + x1) ≤ 385) (k1 : x2 + 13 ≤ 18) (hP : ∀ (Z' : xZ) (h' : mx_H), XH n s S Z' h' → GB n S Z' → fr' [(56, 18), (61, (-1)), (63, (-1))] Z Z' → Z' 56 18 = Z 56 18 + wy (13 * 19 + x1) → Post (none, h')) : mx_J (tB l D b0 ad Hb tau) mt_185 (d + 13) 0 [some (.ref 56), some (xI 13), some (xI x1), some (xI x2), none] [] h Post := by
    have a56 : 56 < n := lt83 (GB_n hG) rfl
    have s56 : S 56 = .inl (12, [0, 2, 2, 2, 2, 0, 0, 0, 0, 0, 0, 0, 0, 0, 0, 2, 2, 2, 0, 2, 2, 2, 0, 0, 2, 2, 2, 2, 2, 2, 0, 0, 2, 2, 2, 2, 2, 2, 2, 2, 2, 2]) := GB_s hG 56 rfl
    have a63 : 63 < n := lt83 (GB_n hG) rfl
    have s63 : S 63 = .inr (.int, 18, 0) := GB_s hG 63 rfl
    refine mx_J.step (sn_185 0) (fun _ _ => rfl) ?_
    refine Jif_ne (show mx_Sn _ _ 1 (mx_if_ne 63 4) from sn_185 1) (by omega) (fun q1 => ?_) (fun q1 => ?_)
    · skip
      refine mx_J.step (sn_185 63) (fun _ _ => rfl) ?_
      refine mx_J.step (sn_185 64) (fun _ _ => rfl) ?_
      have c73 : ∀ (k2_0 : Int), 0 ≤ k2_0 ∧ k2_0 ≤ 13 → (wy (13 * 19 + k2_0) = wy (13 * 19 + x1) ∧ k2_0 ≤ 13) → mx_J (tB l D b0 ad Hb tau) mt_185 (d + 13) 73 [some (.ref 56), some (xI 13), some (xI x1), some (xI x2), none] [xI k2_0] h Post := by
        intro k2_0 f2_0 f2_1
        refine mx_J.step (ls2 := [some (.ref 56), some (xI 13), some (xI x1), some (xI x2), some (xI k2_0)]) (sn_185 73) (fun _ _ => rfl) ?_
        have c75 : ∀ (m3 : Nat) (w3_4 : Int) (Z4 : xZ) (h4 : mx_H), w3_4 - 0 < (m3 : Int) → 0 ≤ w3_4 ∧ w3_4 ≤ 13 → (Z4 56 18 + wy (13 * 19 + w3_4) = Z 56 18 + wy (13 * 19 + x1)) → XH n s S Z4 h4 → GB n S Z4 → fr' [(56, 18), (61, (-1)), (63, (-1))] Z Z4 → mx_J (tB l D b0 ad Hb tau) mt_185 (d + 13) 75 [some (.ref 56), some (xI 13), some (xI x1), some (xI x2), some (xI w3_4)] [] h4 Post := by
          intro m3
          induction m3 with
          | zero => intro w3_4 Z4 h4 q3 f3_0 f3_1 hx4 hG4 hf4; exact absurd q3 (by omega)
          | succ m3 ih3 =>
            intro w3_4 Z4 h4 q3 f3_0 f3_1 hx4 hG4 hf4
            have b5 : 0 ≤ Z4 56 18 ∧ Z4 56 18 ≤ 385 := hG4.pr 56 18
            refine mx_J.step (sn_185 75) (fun _ _ => rfl) ?_
            refine Jif_le (show mx_Sn _ _ 77 (mx_if_le 107 80) from sn_185 77) (by omega) (fun q6 => ?_) (fun q6 => ?_)
            · skip
              have w0 : wy (13 * 19 + w3_4) = 0 := by rw [show w3_4 = 0 by omega]; exact Wy0 (by omega)
              have b7 : 0 ≤ Z4 56 18 ∧ Z4 56 18 ≤ 385 := hG4.pr 56 18
              have b8 : 0 ≤ Z4 56 18 ∧ Z4 56 18 ≤ 385 := hG4.pr 56 18
              exact mx_J.ret (sn_185 107) (fun _ _ => rfl) (hP Z4 h4 hx4 hG4 (fr_tr (M := [(56, 18), (61, (-1)), (63, (-1))]) fr_rf (hf4) (M1 := []) rfl rfl) (by omega))
            · skip
              refine mx_J.step (sn_185 80) (fun _ _ => rfl) ?_
              refine JgetR (g := 17) (b := 63) hx4 (show mx_Sn _ _ 81 (mx_getf 12 17 84) from sn_185 81) a56 s56 rfl rfl (hG4.prr 56 17 rfl) ?_
              refine mx_J.step (sn_185 84) (fun _ _ => rfl) ?_
              refine mx_J.step (sn_185 85) (fun _ _ => rfl) ?_
              refine JiastI hx4 (show mx_Sn _ _ 87 (mx_iast 1 88) from sn_185 87) a63 s63 rfl (by omega) (fun Z10 h10 hx10 hE10 => ?_)
              have hG10 := GB_up hG4 hE10 (show 0 ≤ w3_4 ∧ w3_4 ≤ 18 by omega) trivial rfl
              have wr := WRr (n := 13) (m := w3_4) (by omega) (by omega)
              refine mx_J.step (sn_185 88) (fun _ _ => rfl) ?_
              refine mx_J.step (sn_185 89) (fun _ _ => rfl) ?_
              refine mx_J.step (sn_185 90) (fun _ _ => rfl) ?_
              refine Jisub (show mx_Sn _ _ 92 (mx_isub 93) from sn_185 92) ?_
              refine mx_J.step (sn_185 93) (fun _ _ => rfl) ?_
              refine mx_J.step (sn_185 95) (fun _ _ => rfl) ?_
              refine JcI (z := 1) (show mx_Sn _ _ 96 (mx_const (.int 1) 97) from sn_185 96) rfl ?_
              refine Jiadd (show mx_Sn _ _ 97 (mx_iadd 98) from sn_185 97) ?_
              have eq12 : Z10 56 18 = Z4 56 18 := (up_nk hE10 rfl)
              have b13 : 0 ≤ Z4 56 18 ∧ Z4 56 18 ≤ 385 := hG4.pr 56 18
              obtain ⟨Z11, h11, hc11, hx11, hG11, hf11, b11⟩ := ct_185_56_le12 (d := d + 0) (l := l) (D := D) (b0 := b0) (ad := ad) (Hb := Hb) (tau := tau) hx10 hG10 (show 0 ≤ 13 - w3_4 ∧ 13 - w3_4 ≤ 12 by omega) (show 0 ≤ w3_4 ∧ w3_4 ≤ 18 by omega) (show 0 ≤ x2 + 1 ∧ x2 + 1 ≤ 18 by omega) (show Z10 56 18 + wy ((13 - w3_4) * 19 + w3_4) ≤ 385 by first | omega | (simp only [eq12]; omega)) (show (x2 + 1) + (13 - w3_4) ≤ 18 by first | omega | (simp only [eq12]; omega))
              try rw [eq12] at b11
              have b14 : 0 ≤ Z11 56 18 ∧ Z11 56 18 ≤ 385 := hG11.pr 56 18
              refine Jcv0 hx10 (show mx_Sn _ _ 98 (mx_callv 185 4 12 101) from sn_185 98) a56 s56 hc11 rfl rfl rfl ?_
              refine Jiinc (z := w3_4) (cz := (-1)) (ls2 := [some (.ref 56), some (xI 13), some (xI x1), some (xI x2), some (xI (w3_4 + (-1)))]) (show mx_Sn _ _ 101 (mx_iinc 4 (-1) 104) from sn_185 101) rfl rfl rfl rfl ?_
              refine mx_J.step (sn_185 104) (fun _ _ => rfl) ?_
              have b15 : 0 ≤ Z11 56 18 ∧ Z11 56 18 ≤ 385 := hG11.pr 56 18
              exact ih3 (w3_4 + (-1)) Z11 h11 (by omega) (by omega) (by omega) hx11 hG11 (fr_tr (M := [(56, 18), (61, (-1)), (63, (-1))]) (fr_tr (M := [(56, 18), (61, (-1)), (63, (-1))]) (fr_tr (M := [(56, 18), (61, (-1)), (63, (-1))]) fr_rf (hf4) (M1 := []) rfl rfl) (fr_ua hE10) rfl rfl) (hf11) rfl rfl)
        have b16 : 0 ≤ Z 56 18 ∧ Z 56 18 ≤ 385 := hG.pr 56 18
        exact c75 (Int.toNat (k2_0 - 0) + 1) k2_0 Z h (by omega) (by omega) (by omega) hx hG fr_rf
      refine Jicmp_ge (show mx_Sn _ _ 65 (mx_icmp_ge 72 68) from sn_185 65) (by omega) (by omega) (fun q17 => ?_) (fun q17 => ?_)
      · skip
        refine mx_J.step (sn_185 72) (fun _ _ => rfl) ?_
        exact c73 13 (by omega) (by first | exact ⟨rfl, by omega⟩ | exact ⟨WSs (n := 13) (by omega) (by omega), by omega⟩)
      · skip
        refine mx_J.step (sn_185 68) (fun _ _ => rfl) ?_
        refine mx_J.step (sn_185 69) (fun _ _ => rfl) ?_
        exact c73 x1 (by omega) (by first | exact ⟨rfl, by omega⟩ | exact ⟨WSs (n := 13) (by omega) (by omega), by omega⟩)
    · skip
      exfalso; omega
theorem ct_185_56_i13 {l : Launch} {D : va_G} {b0 : Nat} {ad : Nat → Nat} {Hb : Heap} {tau : Nat → Int64} {d n s : Nat} {S : Nat → xS} {Z : xZ} {h : mx_H} (hx : XH n s S Z h) (hG : GB n S Z)  {x1 x2 : Int} (p1 : 0 ≤ x1 ∧ x1 ≤ 18) (p2 : 0 ≤ x2 ∧ x2 ≤ 18) (k0 : Z 56 18 + wy (13 * 19 + x1) ≤ 385) (k1 : x2 + 13 ≤ 18) : ∃ (Z' : xZ) (h' : mx_H), mx_Ca (tB l D b0 ad Hb tau) (d + 14) 185 [.ref 56, xI 13, xI x1, xI x2] h (none, h') ∧ XH n s S Z' h' ∧ GB n S Z' ∧ fr' [(56, 18), (61, (-1)), (63, (-1))] Z Z' ∧ (Z' 56 18 = Z 56 18 + wy (13 * 19 + x1)) := by
  obtain ⟨r, hca, Z', h', e, q⟩ := Jmt (B := tB l D b0 ad Hb tau) (M := mt_185) (mi := 185) (as := [.ref 56, xI 13, xI x1, xI x2]) (d := d + 13) (ls := [some (.ref 56), some (xI 13), some (xI x1), some (xI x2), none]) rfl rfl rfl rfl rfl rfl (cw_185_56_i13 (l := l) (D := D) (b0 := b0) (ad := ad) (Hb := Hb) (tau := tau) (d := d) (Post := fun r => ∃ (Z' : xZ) (h' : mx_H), r = (none, h') ∧ XH n s S Z' h' ∧ GB n S Z' ∧ fr' [(56, 18), (61, (-1)), (63, (-1))] Z Z' ∧ (Z' 56 18 = Z 56 18 + wy (13 * 19 + x1))) hx hG p1 p2 k0 k1 (fun Z' h' q1 q2 q3 q4 => ⟨Z', h', rfl, q1, q2, q3, q4⟩))
  subst e; exact ⟨Z', h', hca, q⟩
theorem ct_185_56_le13 {l : Launch} {D : va_G} {b0 : Nat} {ad : Nat → Nat} {Hb : Heap} {tau : Nat → Int64} {d n s : Nat} {S : Nat → xS} {Z : xZ} {h : mx_H} (hx : XH n s S Z h) (hG : GB n S Z) {x0 x1 x2 : Int} (p0 : 0 ≤ x0 ∧ x0 ≤ 13) (p1 : 0 ≤ x1 ∧ x1 ≤ 18) (p2 : 0 ≤ x2 ∧ x2 ≤ 18) (k0 : Z 56 18 + wy (x0 * 19 + x1) ≤ 385) (k1 : x2 + x0 ≤ 18) : ∃ (Z' : xZ) (h' : mx_H), mx_Ca (tB l D b0 ad Hb tau) (d + 14) 185 [.ref 56, xI x0, xI x1, xI x2] h (none, h') ∧ XH n s S Z' h' ∧ GB n S Z' ∧ fr' [(56, 18), (61, (-1)), (63, (-1))] Z Z' ∧ (Z' 56 18 = Z 56 18 + wy (x0 * 19 + x1)) := by
  have hc : x0 = 0 ∨ x0 = 1 ∨ x0 = 2 ∨ x0 = 3 ∨ x0 = 4 ∨ x0 = 5 ∨ x0 = 6 ∨ x0 = 7 ∨ x0 = 8 ∨ x0 = 9 ∨ x0 = 10 ∨ x0 = 11 ∨ x0 = 12 ∨ x0 = 13 := by omega
  rcases hc with hc | hc | hc | hc | hc | hc | hc | hc | hc | hc | hc | hc | hc | hc
  · subst hc
    obtain ⟨Z', h', hca, q1, q2, q3, q4⟩ := ct_185_56_i0 (d := d + 13) (l := l) (D := D) (b0 := b0) (ad := ad) (Hb := Hb) (tau := tau) hx hG p1 p2 k0 k1
    exact ⟨Z', h', hca, q1, q2, fr_tr (M1 := []) fr_rf q3 rfl rfl, q4⟩
  · subst hc
    obtain ⟨Z', h', hca, q1, q2, q3, q4⟩ := ct_185_56_i1 (d := d + 12) (l := l) (D := D) (b0 := b0) (ad := ad) (Hb := Hb) (tau := tau) hx hG p1 p2 k0 k1
    exact ⟨Z', h', hca, q1, q2, fr_tr (M1 := []) fr_rf q3 rfl rfl, q4⟩
  · subst hc
    obtain ⟨Z', h', hca, q1, q2, q3, q4⟩ := ct_185_56_i2 (d := d + 11) (l := l) (D := D) (b0 := b0) (ad := ad) (Hb := Hb) (tau := tau) hx hG p1 p2 k0 k1
    exact ⟨Z', h', hca, q1, q2, fr_tr (M1 := []) fr_rf q3 rfl rfl, q4⟩
  · subst hc
    obtain ⟨Z', h', hca, q1, q2, q3, q4⟩ := ct_185_56_i3 (d := d + 10) (l := l) (D := D) (b0 := b0) (ad := ad) (Hb := Hb) (tau := tau) hx hG p1 p2 k0 k1
    exact ⟨Z', h', hca, q1, q2, fr_tr (M1 := []) fr_rf q3 rfl rfl, q4⟩
  · subst hc
    obtain ⟨Z', h', hca, q1, q2, q3, q4⟩ := ct_185_56_i4 (d := d + 9) (l := l) (D := D) (b0 := b0) (ad := ad) (Hb := Hb) (tau := tau) hx hG p1 p2 k0 k1
    exact ⟨Z', h', hca, q1, q2, fr_tr (M1 := []) fr_rf q3 rfl rfl, q4⟩
  · subst hc
    obtain ⟨Z', h', hca, q1, q2, q3, q4⟩ := ct_185_56_i5 (d := d + 8) (l := l) (D := D) (b0 := b0) (ad := ad) (Hb := Hb) (tau := tau) hx hG p1 p2 k0 k1
    exact ⟨Z', h', hca, q1, q2, fr_tr (M1 := []) fr_rf q3 rfl rfl, q4⟩
  · subst hc
    obtain ⟨Z', h', hca, q1, q2, q3, q4⟩ := ct_185_56_i6 (d := d + 7) (l := l) (D := D) (b0 := b0) (ad := ad) (Hb := Hb) (tau := tau) hx hG p1 p2 k0 k1
    exact ⟨Z', h', hca, q1, q2, fr_tr (M1 := []) fr_rf q3 rfl rfl, q4⟩
  · subst hc
    obtain ⟨Z', h', hca, q1, q2, q3, q4⟩ := ct_185_56_i7 (d := d + 6) (l := l) (D := D) (b0 := b0) (ad := ad) (Hb := Hb) (tau := tau) hx hG p1 p2 k0 k1
    exact ⟨Z', h', hca, q1, q2, fr_tr (M1 := []) fr_rf q3 rfl rfl, q4⟩
  · subst hc
    obtain ⟨Z', h', hca, q1, q2, q3, q4⟩ := ct_185_56_i8 (d := d + 5) (l := l) (D := D) (b0 := b0) (ad := ad) (Hb := Hb) (tau := tau) hx hG p1 p2 k0 k1
    exact ⟨Z', h', hca, q1, q2, fr_tr (M1 := []) fr_rf q3 rfl rfl, q4⟩
  · subst hc
    obtain ⟨Z', h', hca, q1, q2, q3, q4⟩ := ct_185_56_i9 (d := d + 4) (l := l) (D := D) (b0 := b0) (ad := ad) (Hb := Hb) (tau := tau) hx hG p1 p2 k0 k1
    exact ⟨Z', h', hca, q1, q2, fr_tr (M1 := []) fr_rf q3 rfl rfl, q4⟩
  · subst hc
    obtain ⟨Z', h', hca, q1, q2, q3, q4⟩ := ct_185_56_i10 (d := d + 3) (l := l) (D := D) (b0 := b0) (ad := ad) (Hb := Hb) (tau := tau) hx hG p1 p2 k0 k1
    exact ⟨Z', h', hca, q1, q2, fr_tr (M1 := []) fr_rf q3 rfl rfl, q4⟩
  · subst hc
    obtain ⟨Z', h', hca, q1, q2, q3, q4⟩ := ct_185_56_i11 (d := d + 2) (l := l) (D := D) (b0 := b0) (ad := ad) (Hb := Hb) (tau := tau) hx hG p1 p2 k0 k1
    exact ⟨Z', h', hca, q1, q2, fr_tr (M1 := []) fr_rf q3 rfl rfl, q4⟩
  · subst hc
    obtain ⟨Z', h', hca, q1, q2, q3, q4⟩ := ct_185_56_i12 (d := d + 1) (l := l) (D := D) (b0 := b0) (ad := ad) (Hb := Hb) (tau := tau) hx hG p1 p2 k0 k1
    exact ⟨Z', h', hca, q1, q2, fr_tr (M1 := []) fr_rf q3 rfl rfl, q4⟩
  · subst hc
    obtain ⟨Z', h', hca, q1, q2, q3, q4⟩ := ct_185_56_i13 (d := d + 0) (l := l) (D := D) (b0 := b0) (ad := ad) (Hb := Hb) (tau := tau) hx hG p1 p2 k0 k1
    exact ⟨Z', h', hca, q1, q2, fr_tr (M1 := []) fr_rf q3 rfl rfl, q4⟩
set_option maxRecDepth 100000 in
theorem cw_185_56_i14 {l : Launch} {D : va_G} {b0 : Nat} {ad : Nat → Nat} {Hb : Heap} {tau : Nat → Int64} {d n s : Nat} {S : Nat → xS} {Z : xZ} {h : mx_H} {Post : mx_R → Prop} (hx : XH n s S Z h) (hG : GB n S Z)  {x1 x2 : Int} (p1 : 0 ≤ x1 ∧ x1 ≤ 18) (p2 : 0 ≤ x2 ∧ x2 ≤ 18) (k0 : Z 56 18 + wy (14 * 19 + x1) ≤ 385) (k1 : x2 + 14 ≤ 18) (hP : ∀ (Z' : xZ) (h' : mx_H), XH n s S Z' h' → GB n S Z' → fr' [(56, 18), (61, (-1)), (63, (-1))] Z Z' → Z' 56 18 = Z 56 18 + wy (14 * 19 + x1) → Post (none, h')) : mx_J (tB l D b0 ad Hb tau) mt_185 (d + 14) 0 [some (.ref 56), some (xI 14), some (xI x1), some (xI x2), none] [] h Post := by
    have a56 : 56 < n := lt83 (GB_n hG) rfl
    have s56 : S 56 = .inl (12, [0, 2, 2, 2, 2, 0, 0, 0, 0, 0, 0, 0, 0, 0, 0, 2, 2, 2, 0, 2, 2, 2, 0, 0, 2, 2, 2, 2, 2, 2, 0, 0, 2, 2, 2, 2, 2, 2, 2, 2, 2, 2]) := GB_s hG 56 rfl
    have a63 : 63 < n := lt83 (GB_n hG) rfl
    have s63 : S 63 = .inr (.int, 18, 0) := GB_s hG 63 rfl
    refine mx_J.step (sn_185 0) (fun _ _ => rfl) ?_
    refine Jif_ne (show mx_Sn _ _ 1 (mx_if_ne 63 4) from sn_185 1) (by omega) (fun q1 => ?_) (fun q1 => ?_)
    · skip
      refine mx_J.step (sn_185 63) (fun _ _ => rfl) ?_
      refine mx_J.step (sn_185 64) (fun _ _ => rfl) ?_
      have c73 : ∀ (k2_0 : Int), 0 ≤ k2_0 ∧ k2_0 ≤ 14 → (wy (14 * 19 + k2_0) = wy (14 * 19 + x1) ∧ k2_0 ≤ 14) → mx_J (tB l D b0 ad Hb tau) mt_185 (d + 14) 73 [some (.ref 56), some (xI 14), some (xI x1), some (xI x2), none] [xI k2_0] h Post := by
        intro k2_0 f2_0 f2_1
        refine mx_J.step (ls2 := [some (.ref 56), some (xI 14), some (xI x1), some (xI x2), some (xI k2_0)]) (sn_185 73) (fun _ _ => rfl) ?_
        have c75 : ∀ (m3 : Nat) (w3_4 : Int) (Z4 : xZ) (h4 : mx_H), w3_4 - 0 < (m3 : Int) → 0 ≤ w3_4 ∧ w3_4 ≤ 14 → (Z4 56 18 + wy (14 * 19 + w3_4) = Z 56 18 + wy (14 * 19 + x1)) → XH n s S Z4 h4 → GB n S Z4 → fr' [(56, 18), (61, (-1)), (63, (-1))] Z Z4 → mx_J (tB l D b0 ad Hb tau) mt_185 (d + 14) 75 [some (.ref 56), some (xI 14), some (xI x1), some (xI x2), some (xI w3_4)] [] h4 Post := by
          intro m3
          induction m3 with
          | zero => intro w3_4 Z4 h4 q3 f3_0 f3_1 hx4 hG4 hf4; exact absurd q3 (by omega)
          | succ m3 ih3 =>
            intro w3_4 Z4 h4 q3 f3_0 f3_1 hx4 hG4 hf4
            have b5 : 0 ≤ Z4 56 18 ∧ Z4 56 18 ≤ 385 := hG4.pr 56 18
            refine mx_J.step (sn_185 75) (fun _ _ => rfl) ?_
            refine Jif_le (show mx_Sn _ _ 77 (mx_if_le 107 80) from sn_185 77) (by omega) (fun q6 => ?_) (fun q6 => ?_)
            · skip
              have w0 : wy (14 * 19 + w3_4) = 0 := by rw [show w3_4 = 0 by omega]; exact Wy0 (by omega)
              have b7 : 0 ≤ Z4 56 18 ∧ Z4 56 18 ≤ 385 := hG4.pr 56 18
              have b8 : 0 ≤ Z4 56 18 ∧ Z4 56 18 ≤ 385 := hG4.pr 56 18
              exact mx_J.ret (sn_185 107) (fun _ _ => rfl) (hP Z4 h4 hx4 hG4 (fr_tr (M := [(56, 18), (61, (-1)), (63, (-1))]) fr_rf (hf4) (M1 := []) rfl rfl) (by omega))
            · skip
              refine mx_J.step (sn_185 80) (fun _ _ => rfl) ?_
              refine JgetR (g := 17) (b := 63) hx4 (show mx_Sn _ _ 81 (mx_getf 12 17 84) from sn_185 81) a56 s56 rfl rfl (hG4.prr 56 17 rfl) ?_
              refine mx_J.step (sn_185 84) (fun _ _ => rfl) ?_
              refine mx_J.step (sn_185 85) (fun _ _ => rfl) ?_
              refine JiastI hx4 (show mx_Sn _ _ 87 (mx_iast 1 88) from sn_185 87) a63 s63 rfl (by omega) (fun Z10 h10 hx10 hE10 => ?_)
              have hG10 := GB_up hG4 hE10 (show 0 ≤ w3_4 ∧ w3_4 ≤ 18 by omega) trivial rfl
              have wr := WRr (n := 14) (m := w3_4) (by omega) (by omega)
              refine mx_J.step (sn_185 88) (fun _ _ => rfl) ?_
              refine mx_J.step (sn_185 89) (fun _ _ => rfl) ?_
              refine mx_J.step (sn_185 90) (fun _ _ => rfl) ?_
              refine Jisub (show mx_Sn _ _ 92 (mx_isub 93) from sn_185 92) ?_
              refine mx_J.step (sn_185 93) (fun _ _ => rfl) ?_
              refine mx_J.step (sn_185 95) (fun _ _ => rfl) ?_
              refine JcI (z := 1) (show mx_Sn _ _ 96 (mx_const (.int 1) 97) from sn_185 96) rfl ?_
              refine Jiadd (show mx_Sn _ _ 97 (mx_iadd 98) from sn_185 97) ?_
              have eq12 : Z10 56 18 = Z4 56 18 := (up_nk hE10 rfl)
              have b13 : 0 ≤ Z4 56 18 ∧ Z4 56 18 ≤ 385 := hG4.pr 56 18
              obtain ⟨Z11, h11, hc11, hx11, hG11, hf11, b11⟩ := ct_185_56_le13 (d := d + 0) (l := l) (D := D) (b0 := b0) (ad := ad) (Hb := Hb) (tau := tau) hx10 hG10 (show 0 ≤ 14 - w3_4 ∧ 14 - w3_4 ≤ 13 by omega) (show 0 ≤ w3_4 ∧ w3_4 ≤ 18 by omega) (show 0 ≤ x2 + 1 ∧ x2 + 1 ≤ 18 by omega) (show Z10 56 18 + wy ((14 - w3_4) * 19 + w3_4) ≤ 385 by first | omega | (simp only [eq12]; omega)) (show (x2 + 1) + (14 - w3_4) ≤ 18 by first | omega | (simp only [eq12]; omega))
              try rw [eq12] at b11
              have b14 : 0 ≤ Z11 56 18 ∧ Z11 56 18 ≤ 385 := hG11.pr 56 18
              refine Jcv0 hx10 (show mx_Sn _ _ 98 (mx_callv 185 4 12 101) from sn_185 98) a56 s56 hc11 rfl rfl rfl ?_
              refine Jiinc (z := w3_4) (cz := (-1)) (ls2 := [some (.ref 56), some (xI 14), some (xI x1), some (xI x2), some (xI (w3_4 + (-1)))]) (show mx_Sn _ _ 101 (mx_iinc 4 (-1) 104) from sn_185 101) rfl rfl rfl rfl ?_
              refine mx_J.step (sn_185 104) (fun _ _ => rfl) ?_
              have b15 : 0 ≤ Z11 56 18 ∧ Z11 56 18 ≤ 385 := hG11.pr 56 18
              exact ih3 (w3_4 + (-1)) Z11 h11 (by omega) (by omega) (by omega) hx11 hG11 (fr_tr (M := [(56, 18), (61, (-1)), (63, (-1))]) (fr_tr (M := [(56, 18), (61, (-1)), (63, (-1))]) (fr_tr (M := [(56, 18), (61, (-1)), (63, (-1))]) fr_rf (hf4) (M1 := []) rfl rfl) (fr_ua hE10) rfl rfl) (hf11) rfl rfl)
        have b16 : 0 ≤ Z 56 18 ∧ Z 56 18 ≤ 385 := hG.pr 56 18
        exact c75 (Int.toNat (k2_0 - 0) + 1) k2_0 Z h (by omega) (by omega) (by omega) hx hG fr_rf
      refine Jicmp_ge (show mx_Sn _ _ 65 (mx_icmp_ge 72 68) from sn_185 65) (by omega) (by omega) (fun q17 => ?_) (fun q17 => ?_)
      · skip
        refine mx_J.step (sn_185 72) (fun _ _ => rfl) ?_
        exact c73 14 (by omega) (by first | exact ⟨rfl, by omega⟩ | exact ⟨WSs (n := 14) (by omega) (by omega), by omega⟩)
      · skip
        refine mx_J.step (sn_185 68) (fun _ _ => rfl) ?_
        refine mx_J.step (sn_185 69) (fun _ _ => rfl) ?_
        exact c73 x1 (by omega) (by first | exact ⟨rfl, by omega⟩ | exact ⟨WSs (n := 14) (by omega) (by omega), by omega⟩)
    · skip
      exfalso; omega
theorem ct_185_56_i14 {l : Launch} {D : va_G} {b0 : Nat} {ad : Nat → Nat} {Hb : Heap} {tau : Nat → Int64} {d n s : Nat} {S : Nat → xS} {Z : xZ} {h : mx_H} (hx : XH n s S Z h) (hG : GB n S Z)  {x1 x2 : Int} (p1 : 0 ≤ x1 ∧ x1 ≤ 18) (p2 : 0 ≤ x2 ∧ x2 ≤ 18) (k0 : Z 56 18 + wy (14 * 19 + x1) ≤ 385) (k1 : x2 + 14 ≤ 18) : ∃ (Z' : xZ) (h' : mx_H), mx_Ca (tB l D b0 ad Hb tau) (d + 15) 185 [.ref 56, xI 14, xI x1, xI x2] h (none, h') ∧ XH n s S Z' h' ∧ GB n S Z' ∧ fr' [(56, 18), (61, (-1)), (63, (-1))] Z Z' ∧ (Z' 56 18 = Z 56 18 + wy (14 * 19 + x1)) := by
  obtain ⟨r, hca, Z', h', e, q⟩ := Jmt (B := tB l D b0 ad Hb tau) (M := mt_185) (mi := 185) (as := [.ref 56, xI 14, xI x1, xI x2]) (d := d + 14) (ls := [some (.ref 56), some (xI 14), some (xI x1), some (xI x2), none]) rfl rfl rfl rfl rfl rfl (cw_185_56_i14 (l := l) (D := D) (b0 := b0) (ad := ad) (Hb := Hb) (tau := tau) (d := d) (Post := fun r => ∃ (Z' : xZ) (h' : mx_H), r = (none, h') ∧ XH n s S Z' h' ∧ GB n S Z' ∧ fr' [(56, 18), (61, (-1)), (63, (-1))] Z Z' ∧ (Z' 56 18 = Z 56 18 + wy (14 * 19 + x1))) hx hG p1 p2 k0 k1 (fun Z' h' q1 q2 q3 q4 => ⟨Z', h', rfl, q1, q2, q3, q4⟩))
  subst e; exact ⟨Z', h', hca, q⟩
theorem ct_185_56_le14 {l : Launch} {D : va_G} {b0 : Nat} {ad : Nat → Nat} {Hb : Heap} {tau : Nat → Int64} {d n s : Nat} {S : Nat → xS} {Z : xZ} {h : mx_H} (hx : XH n s S Z h) (hG : GB n S Z) {x0 x1 x2 : Int} (p0 : 0 ≤ x0 ∧ x0 ≤ 14) (p1 : 0 ≤ x1 ∧ x1 ≤ 18) (p2 : 0 ≤ x2 ∧ x2 ≤ 18) (k0 : Z 56 18 + wy (x0 * 19 + x1) ≤ 385) (k1 : x2 + x0 ≤ 18) : ∃ (Z' : xZ) (h' : mx_H), mx_Ca (tB l D b0 ad Hb tau) (d + 15) 185 [.ref 56, xI x0, xI x1, xI x2] h (none, h') ∧ XH n s S Z' h' ∧ GB n S Z' ∧ fr' [(56, 18), (61, (-1)), (63, (-1))] Z Z' ∧ (Z' 56 18 = Z 56 18 + wy (x0 * 19 + x1)) := by
  have hc : x0 = 0 ∨ x0 = 1 ∨ x0 = 2 ∨ x0 = 3 ∨ x0 = 4 ∨ x0 = 5 ∨ x0 = 6 ∨ x0 = 7 ∨ x0 = 8 ∨ x0 = 9 ∨ x0 = 10 ∨ x0 = 11 ∨ x0 = 12 ∨ x0 = 13 ∨ x0 = 14 := by omega
  rcases hc with hc | hc | hc | hc | hc | hc | hc | hc | hc | hc | hc | hc | hc | hc | hc
  · subst hc
    obtain ⟨Z', h', hca, q1, q2, q3, q4⟩ := ct_185_56_i0 (d := d + 14) (l := l) (D := D) (b0 := b0) (ad := ad) (Hb := Hb) (tau := tau) hx hG p1 p2 k0 k1
    exact ⟨Z', h', hca, q1, q2, fr_tr (M1 := []) fr_rf q3 rfl rfl, q4⟩
  · subst hc
    obtain ⟨Z', h', hca, q1, q2, q3, q4⟩ := ct_185_56_i1 (d := d + 13) (l := l) (D := D) (b0 := b0) (ad := ad) (Hb := Hb) (tau := tau) hx hG p1 p2 k0 k1
    exact ⟨Z', h', hca, q1, q2, fr_tr (M1 := []) fr_rf q3 rfl rfl, q4⟩
  · subst hc
    obtain ⟨Z', h', hca, q1, q2, q3, q4⟩ := ct_185_56_i2 (d := d + 12) (l := l) (D := D) (b0 := b0) (ad := ad) (Hb := Hb) (tau := tau) hx hG p1 p2 k0 k1
    exact ⟨Z', h', hca, q1, q2, fr_tr (M1 := []) fr_rf q3 rfl rfl, q4⟩
  · subst hc
    obtain ⟨Z', h', hca, q1, q2, q3, q4⟩ := ct_185_56_i3 (d := d + 11) (l := l) (D := D) (b0 := b0) (ad := ad) (Hb := Hb) (tau := tau) hx hG p1 p2 k0 k1
    exact ⟨Z', h', hca, q1, q2, fr_tr (M1 := []) fr_rf q3 rfl rfl, q4⟩
  · subst hc
    obtain ⟨Z', h', hca, q1, q2, q3, q4⟩ := ct_185_56_i4 (d := d + 10) (l := l) (D := D) (b0 := b0) (ad := ad) (Hb := Hb) (tau := tau) hx hG p1 p2 k0 k1
    exact ⟨Z', h', hca, q1, q2, fr_tr (M1 := []) fr_rf q3 rfl rfl, q4⟩
  · subst hc
    obtain ⟨Z', h', hca, q1, q2, q3, q4⟩ := ct_185_56_i5 (d := d + 9) (l := l) (D := D) (b0 := b0) (ad := ad) (Hb := Hb) (tau := tau) hx hG p1 p2 k0 k1
    exact ⟨Z', h', hca, q1, q2, fr_tr (M1 := []) fr_rf q3 rfl rfl, q4⟩
  · subst hc
    obtain ⟨Z', h', hca, q1, q2, q3, q4⟩ := ct_185_56_i6 (d := d + 8) (l := l) (D := D) (b0 := b0) (ad := ad) (Hb := Hb) (tau := tau) hx hG p1 p2 k0 k1
    exact ⟨Z', h', hca, q1, q2, fr_tr (M1 := []) fr_rf q3 rfl rfl, q4⟩
  · subst hc
    obtain ⟨Z', h', hca, q1, q2, q3, q4⟩ := ct_185_56_i7 (d := d + 7) (l := l) (D := D) (b0 := b0) (ad := ad) (Hb := Hb) (tau := tau) hx hG p1 p2 k0 k1
    exact ⟨Z', h', hca, q1, q2, fr_tr (M1 := []) fr_rf q3 rfl rfl, q4⟩
  · subst hc
    obtain ⟨Z', h', hca, q1, q2, q3, q4⟩ := ct_185_56_i8 (d := d + 6) (l := l) (D := D) (b0 := b0) (ad := ad) (Hb := Hb) (tau := tau) hx hG p1 p2 k0 k1
    exact ⟨Z', h', hca, q1, q2, fr_tr (M1 := []) fr_rf q3 rfl rfl, q4⟩
  · subst hc
    obtain ⟨Z', h', hca, q1, q2, q3, q4⟩ := ct_185_56_i9 (d := d + 5) (l := l) (D := D) (b0 := b0) (ad := ad) (Hb := Hb) (tau := tau) hx hG p1 p2 k0 k1
    exact ⟨Z', h', hca, q1, q2, fr_tr (M1 := []) fr_rf q3 rfl rfl, q4⟩
  · subst hc
    obtain ⟨Z', h', hca, q1, q2, q3, q4⟩ := ct_185_56_i10 (d := d + 4) (l := l) (D := D) (b0 := b0) (ad := ad) (Hb := Hb) (tau := tau) hx hG p1 p2 k0 k1
    exact ⟨Z', h', hca, q1, q2, fr_tr (M1 := []) fr_rf q3 rfl rfl, q4⟩
  · subst hc
    obtain ⟨Z', h', hca, q1, q2, q3, q4⟩ := ct_185_56_i11 (d := d + 3) (l := l) (D := D) (b0 := b0) (ad := ad) (Hb := Hb) (tau := tau) hx hG p1 p2 k0 k1
    exact ⟨Z', h', hca, q1, q2, fr_tr (M1 := []) fr_rf q3 rfl rfl, q4⟩
  · subst hc
    obtain ⟨Z', h', hca, q1, q2, q3, q4⟩ := ct_185_56_i12 (d := d + 2) (l := l) (D := D) (b0 := b0) (ad := ad) (Hb := Hb) (tau := tau) hx hG p1 p2 k0 k1
    exact ⟨Z', h', hca, q1, q2, fr_tr (M1 := []) fr_rf q3 rfl rfl, q4⟩
  · subst hc
    obtain ⟨Z', h', hca, q1, q2, q3, q4⟩ := ct_185_56_i13 (d := d + 1) (l := l) (D := D) (b0 := b0) (ad := ad) (Hb := Hb) (tau := tau) hx hG p1 p2 k0 k1
    exact ⟨Z', h', hca, q1, q2, fr_tr (M1 := []) fr_rf q3 rfl rfl, q4⟩
  · subst hc
    obtain ⟨Z', h', hca, q1, q2, q3, q4⟩ := ct_185_56_i14 (d := d + 0) (l := l) (D := D) (b0 := b0) (ad := ad) (Hb := Hb) (tau := tau) hx hG p1 p2 k0 k1
    exact ⟨Z', h', hca, q1, q2, fr_tr (M1 := []) fr_rf q3 rfl rfl, q4⟩
set_option maxRecDepth 100000 in
theorem cw_185_56_i15 {l : Launch} {D : va_G} {b0 : Nat} {ad : Nat → Nat} {Hb : Heap} {tau : Nat → Int64} {d n s : Nat} {S : Nat → xS} {Z : xZ} {h : mx_H} {Post : mx_R → Prop} (hx : XH n s S Z h) (hG : GB n S Z)  {x1 x2 : Int} (p1 : 0 ≤ x1 ∧ x1 ≤ 18) (p2 : 0 ≤ x2 ∧ x2 ≤ 18) (k0 : Z 56 18 + wy (15 * 19 + x1) ≤ 385) (k1 : x2 + 15 ≤ 18) (hP : ∀ (Z' : xZ) (h' : mx_H), XH n s S Z' h' → GB n S Z' → fr' [(56, 18), (61, (-1)), (63, (-1))] Z Z' → Z' 56 18 = Z 56 18 + wy (15 * 19 + x1) → Post (none, h')) : mx_J (tB l D b0 ad Hb tau) mt_185 (d + 15) 0 [some (.ref 56), some (xI 15), some (xI x1), some (xI x2), none] [] h Post := by
    have a56 : 56 < n := lt83 (GB_n hG) rfl
    have s56 : S 56 = .inl (12, [0, 2, 2, 2, 2, 0, 0, 0, 0, 0, 0, 0, 0, 0, 0, 2, 2, 2, 0, 2, 2, 2, 0, 0, 2, 2, 2, 2, 2, 2, 0, 0, 2, 2, 2, 2, 2, 2, 2, 2, 2, 2]) := GB_s hG 56 rfl
    have a63 : 63 < n := lt83 (GB_n hG) rfl
    have s63 : S 63 = .inr (.int, 18, 0) := GB_s hG 63 rfl
    refine mx_J.step (sn_185 0) (fun _ _ => rfl) ?_
    refine Jif_ne (show mx_Sn _ _ 1 (mx_if_ne 63 4) from sn_185 1) (by omega) (fun q1 => ?_) (fun q1 => ?_)
    · skip
      refine mx_J.step (sn_185 63) (fun _ _ => rfl) ?_
      refine mx_J.step (sn_185 64) (fun _ _ => rfl) ?_
      have c73 : ∀ (k2_0 : Int), 0 ≤ k2_0 ∧ k2_0 ≤ 15 → (wy (15 * 19 + k2_0) = wy (15 * 19 + x1) ∧ k2_0 ≤ 15) → mx_J (tB l D b0 ad Hb tau) mt_185 (d + 15) 73 [some (.ref 56), some (xI 15), some (xI x1), some (xI x2), none] [xI k2_0] h Post := by
        intro k2_0 f2_0 f2_1
        refine mx_J.step (ls2 := [some (.ref 56), some (xI 15), some (xI x1), some (xI x2), some (xI k2_0)]) (sn_185 73) (fun _ _ => rfl) ?_
        have c75 : ∀ (m3 : Nat) (w3_4 : Int) (Z4 : xZ) (h4 : mx_H), w3_4 - 0 < (m3 : Int) → 0 ≤ w3_4 ∧ w3_4 ≤ 15 → (Z4 56 18 + wy (15 * 19 + w3_4) = Z 56 18 + wy (15 * 19 + x1)) → XH n s S Z4 h4 → GB n S Z4 → fr' [(56, 18), (61, (-1)), (63, (-1))] Z Z4 → mx_J (tB l D b0 ad Hb tau) mt_185 (d + 15) 75 [some (.ref 56), some (xI 15), some (xI x1), some (xI x2), some (xI w3_4)] [] h4 Post := by
          intro m3
          induction m3 with
          | zero => intro w3_4 Z4 h4 q3 f3_0 f3_1 hx4 hG4 hf4; exact absurd q3 (by omega)
          | succ m3 ih3 =>
            intro w3_4 Z4 h4 q3 f3_0 f3_1 hx4 hG4 hf4
            have b5 : 0 ≤ Z4 56 18 ∧ Z4 56 18 ≤ 385 := hG4.pr 56 18
            refine mx_J.step (sn_185 75) (fun _ _ => rfl) ?_
            refine Jif_le (show mx_Sn _ _ 77 (mx_if_le 107 80) from sn_185 77) (by omega) (fun q6 => ?_) (fun q6 => ?_)
            · skip
              have w0 : wy (15 * 19 + w3_4) = 0 := by rw [show w3_4 = 0 by omega]; exact Wy0 (by omega)
              have b7 : 0 ≤ Z4 56 18 ∧ Z4 56 18 ≤ 385 := hG4.pr 56 18
              have b8 : 0 ≤ Z4 56 18 ∧ Z4 56 18 ≤ 385 := hG4.pr 56 18
              exact mx_J.ret (sn_185 107) (fun _ _ => rfl) (hP Z4 h4 hx4 hG4 (fr_tr (M := [(56, 18), (61, (-1)), (63, (-1))]) fr_rf (hf4) (M1 := []) rfl rfl) (by omega))
            · skip
              refine mx_J.step (sn_185 80) (fun _ _ => rfl) ?_
              refine JgetR (g := 17) (b := 63) hx4 (show mx_Sn _ _ 81 (mx_getf 12 17 84) from sn_185 81) a56 s56 rfl rfl (hG4.prr 56 17 rfl) ?_
              refine mx_J.step (sn_185 84) (fun _ _ => rfl) ?_
              refine mx_J.step (sn_185 85) (fun _ _ => rfl) ?_
              refine JiastI hx4 (show mx_Sn _ _ 87 (mx_iast 1 88) from sn_185 87) a63 s63 rfl (by omega) (fun Z10 h10 hx10 hE10 => ?_)
              have hG10 := GB_up hG4 hE10 (show 0 ≤ w3_4 ∧ w3_4 ≤ 18 by omega) trivial rfl
              have wr := WRr (n := 15) (m := w3_4) (by omega) (by omega)
              refine mx_J.step (sn_185 88) (fun _ _ => rfl) ?_
              refine mx_J.step (sn_185 89) (fun _ _ => rfl) ?_
              refine mx_J.step (sn_185 90) (fun _ _ => rfl) ?_
              refine Jisub (show mx_Sn _ _ 92 (mx_isub 93) from sn_185 92) ?_
              refine mx_J.step (sn_185 93) (fun _ _ => rfl) ?_
              refine mx_J.step (sn_185 95) (fun _ _ => rfl) ?_
              refine JcI (z := 1) (show mx_Sn _ _ 96 (mx_const (.int 1) 97) from sn_185 96) rfl ?_
              refine Jiadd (show mx_Sn _ _ 97 (mx_iadd 98) from sn_185 97) ?_
              have eq12 : Z10 56 18 = Z4 56 18 := (up_nk hE10 rfl)
              have b13 : 0 ≤ Z4 56 18 ∧ Z4 56 18 ≤ 385 := hG4.pr 56 18
              obtain ⟨Z11, h11, hc11, hx11, hG11, hf11, b11⟩ := ct_185_56_le14 (d := d + 0) (l := l) (D := D) (b0 := b0) (ad := ad) (Hb := Hb) (tau := tau) hx10 hG10 (show 0 ≤ 15 - w3_4 ∧ 15 - w3_4 ≤ 14 by omega) (show 0 ≤ w3_4 ∧ w3_4 ≤ 18 by omega) (show 0 ≤ x2 + 1 ∧ x2 + 1 ≤ 18 by omega) (show Z10 56 18 + wy ((15 - w3_4) * 19 + w3_4) ≤ 385 by first | omega | (simp only [eq12]; omega)) (show (x2 + 1) + (15 - w3_4) ≤ 18 by first | omega | (simp only [eq12]; omega))
              try rw [eq12] at b11
              have b14 : 0 ≤ Z11 56 18 ∧ Z11 56 18 ≤ 385 := hG11.pr 56 18
              refine Jcv0 hx10 (show mx_Sn _ _ 98 (mx_callv 185 4 12 101) from sn_185 98) a56 s56 hc11 rfl rfl rfl ?_
              refine Jiinc (z := w3_4) (cz := (-1)) (ls2 := [some (.ref 56), some (xI 15), some (xI x1), some (xI x2), some (xI (w3_4 + (-1)))]) (show mx_Sn _ _ 101 (mx_iinc 4 (-1) 104) from sn_185 101) rfl rfl rfl rfl ?_
              refine mx_J.step (sn_185 104) (fun _ _ => rfl) ?_
              have b15 : 0 ≤ Z11 56 18 ∧ Z11 56 18 ≤ 385 := hG11.pr 56 18
              exact ih3 (w3_4 + (-1)) Z11 h11 (by omega) (by omega) (by omega) hx11 hG11 (fr_tr (M := [(56, 18), (61, (-1)), (63, (-1))]) (fr_tr (M := [(56, 18), (61, (-1)), (63, (-1))]) (fr_tr (M := [(56, 18), (61, (-1)), (63, (-1))]) fr_rf (hf4) (M1 := []) rfl rfl) (fr_ua hE10) rfl rfl) (hf11) rfl rfl)
        have b16 : 0 ≤ Z 56 18 ∧ Z 56 18 ≤ 385 := hG.pr 56 18
        exact c75 (Int.toNat (k2_0 - 0) + 1) k2_0 Z h (by omega) (by omega) (by omega) hx hG fr_rf
      refine Jicmp_ge (show mx_Sn _ _ 65 (mx_icmp_ge 72 68) from sn_185 65) (by omega) (by omega) (fun q17 => ?_) (fun q17 => ?_)
      · skip
        refine mx_J.step (sn_185 72) (fun _ _ => rfl) ?_
        exact c73 15 (by omega) (by first | exact ⟨rfl, by omega⟩ | exact ⟨WSs (n := 15) (by omega) (by omega), by omega⟩)
      · skip
        refine mx_J.step (sn_185 68) (fun _ _ => rfl) ?_
        refine mx_J.step (sn_185 69) (fun _ _ => rfl) ?_
        exact c73 x1 (by omega) (by first | exact ⟨rfl, by omega⟩ | exact ⟨WSs (n := 15) (by omega) (by omega), by omega⟩)
    · skip
      exfalso; omega
theorem ct_185_56_i15 {l : Launch} {D : va_G} {b0 : Nat} {ad : Nat → Nat} {Hb : Heap} {tau : Nat → Int64} {d n s : Nat} {S : Nat → xS} {Z : xZ} {h : mx_H} (hx : XH n s S Z h) (hG : GB n S Z)  {x1 x2 : Int} (p1 : 0 ≤ x1 ∧ x1 ≤ 18) (p2 : 0 ≤ x2 ∧ x2 ≤ 18) (k0 : Z 56 18 + wy (15 * 19 + x1) ≤ 385) (k1 : x2 + 15 ≤ 18) : ∃ (Z' : xZ) (h' : mx_H), mx_Ca (tB l D b0 ad Hb tau) (d + 16) 185 [.ref 56, xI 15, xI x1, xI x2] h (none, h') ∧ XH n s S Z' h' ∧ GB n S Z' ∧ fr' [(56, 18), (61, (-1)), (63, (-1))] Z Z' ∧ (Z' 56 18 = Z 56 18 + wy (15 * 19 + x1)) := by
  obtain ⟨r, hca, Z', h', e, q⟩ := Jmt (B := tB l D b0 ad Hb tau) (M := mt_185) (mi := 185) (as := [.ref 56, xI 15, xI x1, xI x2]) (d := d + 15) (ls := [some (.ref 56), some (xI 15), some (xI x1), some (xI x2), none]) rfl rfl rfl rfl rfl rfl (cw_185_56_i15 (l := l) (D := D) (b0 := b0) (ad := ad) (Hb := Hb) (tau := tau) (d := d) (Post := fun r => ∃ (Z' : xZ) (h' : mx_H), r = (none, h') ∧ XH n s S Z' h' ∧ GB n S Z' ∧ fr' [(56, 18), (61, (-1)), (63, (-1))] Z Z' ∧ (Z' 56 18 = Z 56 18 + wy (15 * 19 + x1))) hx hG p1 p2 k0 k1 (fun Z' h' q1 q2 q3 q4 => ⟨Z', h', rfl, q1, q2, q3, q4⟩))
  subst e; exact ⟨Z', h', hca, q⟩
theorem ct_185_56_le15 {l : Launch} {D : va_G} {b0 : Nat} {ad : Nat → Nat} {Hb : Heap} {tau : Nat → Int64} {d n s : Nat} {S : Nat → xS} {Z : xZ} {h : mx_H} (hx : XH n s S Z h) (hG : GB n S Z) {x0 x1 x2 : Int} (p0 : 0 ≤ x0 ∧ x0 ≤ 15) (p1 : 0 ≤ x1 ∧ x1 ≤ 18) (p2 : 0 ≤ x2 ∧ x2 ≤ 18) (k0 : Z 56 18 + wy (x0 * 19 + x1) ≤ 385) (k1 : x2 + x0 ≤ 18) : ∃ (Z' : xZ) (h' : mx_H), mx_Ca (tB l D b0 ad Hb tau) (d + 16) 185 [.ref 56, xI x0, xI x1, xI x2] h (none, h') ∧ XH n s S Z' h' ∧ GB n S Z' ∧ fr' [(56, 18), (61, (-1)), (63, (-1))] Z Z' ∧ (Z' 56 18 = Z 56 18 + wy (x0 * 19 + x1)) := by
  have hc : x0 = 0 ∨ x0 = 1 ∨ x0 = 2 ∨ x0 = 3 ∨ x0 = 4 ∨ x0 = 5 ∨ x0 = 6 ∨ x0 = 7 ∨ x0 = 8 ∨ x0 = 9 ∨ x0 = 10 ∨ x0 = 11 ∨ x0 = 12 ∨ x0 = 13 ∨ x0 = 14 ∨ x0 = 15 := by omega
  rcases hc with hc | hc | hc | hc | hc | hc | hc | hc | hc | hc | hc | hc | hc | hc | hc | hc
  · subst hc
    obtain ⟨Z', h', hca, q1, q2, q3, q4⟩ := ct_185_56_i0 (d := d + 15) (l := l) (D := D) (b0 := b0) (ad := ad) (Hb := Hb) (tau := tau) hx hG p1 p2 k0 k1
    exact ⟨Z', h', hca, q1, q2, fr_tr (M1 := []) fr_rf q3 rfl rfl, q4⟩
  · subst hc
    obtain ⟨Z', h', hca, q1, q2, q3, q4⟩ := ct_185_56_i1 (d := d + 14) (l := l) (D := D) (b0 := b0) (ad := ad) (Hb := Hb) (tau := tau) hx hG p1 p2 k0 k1
    exact ⟨Z', h', hca, q1, q2, fr_tr (M1 := []) fr_rf q3 rfl rfl, q4⟩
  · subst hc
    obtain ⟨Z', h', hca, q1, q2, q3, q4⟩ := ct_185_56_i2 (d := d + 13) (l := l) (D := D) (b0 := b0) (ad := ad) (Hb := Hb) (tau := tau) hx hG p1 p2 k0 k1
    exact ⟨Z', h', hca, q1, q2, fr_tr (M1 := []) fr_rf q3 rfl rfl, q4⟩
  · subst hc
    obtain ⟨Z', h', hca, q1, q2, q3, q4⟩ := ct_185_56_i3 (d := d + 12) (l := l) (D := D) (b0 := b0) (ad := ad) (Hb := Hb) (tau := tau) hx hG p1 p2 k0 k1
    exact ⟨Z', h', hca, q1, q2, fr_tr (M1 := []) fr_rf q3 rfl rfl, q4⟩
  · subst hc
    obtain ⟨Z', h', hca, q1, q2, q3, q4⟩ := ct_185_56_i4 (d := d + 11) (l := l) (D := D) (b0 := b0) (ad := ad) (Hb := Hb) (tau := tau) hx hG p1 p2 k0 k1
    exact ⟨Z', h', hca, q1, q2, fr_tr (M1 := []) fr_rf q3 rfl rfl, q4⟩
  · subst hc
    obtain ⟨Z', h', hca, q1, q2, q3, q4⟩ := ct_185_56_i5 (d := d + 10) (l := l) (D := D) (b0 := b0) (ad := ad) (Hb := Hb) (tau := tau) hx hG p1 p2 k0 k1
    exact ⟨Z', h', hca, q1, q2, fr_tr (M1 := []) fr_rf q3 rfl rfl, q4⟩
  · subst hc
    obtain ⟨Z', h', hca, q1, q2, q3, q4⟩ := ct_185_56_i6 (d := d + 9) (l := l) (D := D) (b0 := b0) (ad := ad) (Hb := Hb) (tau := tau) hx hG p1 p2 k0 k1
    exact ⟨Z', h', hca, q1, q2, fr_tr (M1 := []) fr_rf q3 rfl rfl, q4⟩
  · subst hc
    obtain ⟨Z', h', hca, q1, q2, q3, q4⟩ := ct_185_56_i7 (d := d + 8) (l := l) (D := D) (b0 := b0) (ad := ad) (Hb := Hb) (tau := tau) hx hG p1 p2 k0 k1
    exact ⟨Z', h', hca, q1, q2, fr_tr (M1 := []) fr_rf q3 rfl rfl, q4⟩
  · subst hc
    obtain ⟨Z', h', hca, q1, q2, q3, q4⟩ := ct_185_56_i8 (d := d + 7) (l := l) (D := D) (b0 := b0) (ad := ad) (Hb := Hb) (tau := tau) hx hG p1 p2 k0 k1
    exact ⟨Z', h', hca, q1, q2, fr_tr (M1 := []) fr_rf q3 rfl rfl, q4⟩
  · subst hc
    obtain ⟨Z', h', hca, q1, q2, q3, q4⟩ := ct_185_56_i9 (d := d + 6) (l := l) (D := D) (b0 := b0) (ad := ad) (Hb := Hb) (tau := tau) hx hG p1 p2 k0 k1
    exact ⟨Z', h', hca, q1, q2, fr_tr (M1 := []) fr_rf q3 rfl rfl, q4⟩
  · subst hc
    obtain ⟨Z', h', hca, q1, q2, q3, q4⟩ := ct_185_56_i10 (d := d + 5) (l := l) (D := D) (b0 := b0) (ad := ad) (Hb := Hb) (tau := tau) hx hG p1 p2 k0 k1
    exact ⟨Z', h', hca, q1, q2, fr_tr (M1 := []) fr_rf q3 rfl rfl, q4⟩
  · subst hc
    obtain ⟨Z', h', hca, q1, q2, q3, q4⟩ := ct_185_56_i11 (d := d + 4) (l := l) (D := D) (b0 := b0) (ad := ad) (Hb := Hb) (tau := tau) hx hG p1 p2 k0 k1
    exact ⟨Z', h', hca, q1, q2, fr_tr (M1 := []) fr_rf q3 rfl rfl, q4⟩
  · subst hc
    obtain ⟨Z', h', hca, q1, q2, q3, q4⟩ := ct_185_56_i12 (d := d + 3) (l := l) (D := D) (b0 := b0) (ad := ad) (Hb := Hb) (tau := tau) hx hG p1 p2 k0 k1
    exact ⟨Z', h', hca, q1, q2, fr_tr (M1 := []) fr_rf q3 rfl rfl, q4⟩
  · subst hc
    obtain ⟨Z', h', hca, q1, q2, q3, q4⟩ := ct_185_56_i13 (d := d + 2) (l := l) (D := D) (b0 := b0) (ad := ad) (Hb := Hb) (tau := tau) hx hG p1 p2 k0 k1
    exact ⟨Z', h', hca, q1, q2, fr_tr (M1 := []) fr_rf q3 rfl rfl, q4⟩
  · subst hc
    obtain ⟨Z', h', hca, q1, q2, q3, q4⟩ := ct_185_56_i14 (d := d + 1) (l := l) (D := D) (b0 := b0) (ad := ad) (Hb := Hb) (tau := tau) hx hG p1 p2 k0 k1
    exact ⟨Z', h', hca, q1, q2, fr_tr (M1 := []) fr_rf q3 rfl rfl, q4⟩
  · subst hc
    obtain ⟨Z', h', hca, q1, q2, q3, q4⟩ := ct_185_56_i15 (d := d + 0) (l := l) (D := D) (b0 := b0) (ad := ad) (Hb := Hb) (tau := tau) hx hG p1 p2 k0 k1
    exact ⟨Z', h', hca, q1, q2, fr_tr (M1 := []) fr_rf q3 rfl rfl, q4⟩
set_option maxRecDepth 100000 in
theorem cw_185_56_i16 {l : Launch} {D : va_G} {b0 : Nat} {ad : Nat → Nat} {Hb : Heap} {tau : Nat → Int64} {d n s : Nat} {S : Nat → xS} {Z : xZ} {h : mx_H} {Post : mx_R → Prop} (hx : XH n s S Z h) (hG : GB n S Z)  {x1 x2 : Int} (p1 : 0 ≤ x1 ∧ x1 ≤ 18) (p2 : 0 ≤ x2 ∧ x2 ≤ 18) (k0 : Z 56 18 + wy (16 * 19 + x1) ≤ 385) (k1 : x2 + 16 ≤ 18) (hP : ∀ (Z' : xZ) (h' : mx_H), XH n s S Z' h' → GB n S Z' → fr' [(56, 18), (61, (-1)), (63, (-1))] Z Z' → Z' 56 18 = Z 56 18 + wy (16 * 19 + x1) → Post (none, h')) : mx_J (tB l D b0 ad Hb tau) mt_185 (d + 16) 0 [some (.ref 56), some (xI 16), some (xI x1), some (xI x2), none] [] h Post := by
    have a56 : 56 < n := lt83 (GB_n hG) rfl
    have s56 : S 56 = .inl (12, [0, 2, 2, 2, 2, 0, 0, 0, 0, 0, 0, 0, 0, 0, 0, 2, 2, 2, 0, 2, 2, 2, 0, 0, 2, 2, 2, 2, 2, 2, 0, 0, 2, 2, 2, 2, 2, 2, 2, 2, 2, 2]) := GB_s hG 56 rfl
    have a63 : 63 < n := lt83 (GB_n hG) rfl
    have s63 : S 63 = .inr (.int, 18, 0) := GB_s hG 63 rfl
    refine mx_J.step (sn_185 0) (fun _ _ => rfl) ?_
    refine Jif_ne (show mx_Sn _ _ 1 (mx_if_ne 63 4) from sn_185 1) (by omega) (fun q1 => ?_) (fun q1 => ?_)
    · skip
      refine mx_J.step (sn_185 63) (fun _ _ => rfl) ?_
      refine mx_J.step (sn_185 64) (fun _ _ => rfl) ?_
      have c73 : ∀ (k2_0 : Int), 0 ≤ k2_0 ∧ k2_0 ≤ 16 → (wy (16 * 19 + k2_0) = wy (16 * 19 + x1) ∧ k2_0 ≤ 16) → mx_J (tB l D b0 ad Hb tau) mt_185 (d + 16) 73 [some (.ref 56), some (xI 16), some (xI x1), some (xI x2), none] [xI k2_0] h Post := by
        intro k2_0 f2_0 f2_1
        refine mx_J.step (ls2 := [some (.ref 56), some (xI 16), some (xI x1), some (xI x2), some (xI k2_0)]) (sn_185 73) (fun _ _ => rfl) ?_
        have c75 : ∀ (m3 : Nat) (w3_4 : Int) (Z4 : xZ) (h4 : mx_H), w3_4 - 0 < (m3 : Int) → 0 ≤ w3_4 ∧ w3_4 ≤ 16 → (Z4 56 18 + wy (16 * 19 + w3_4) = Z 56 18 + wy (16 * 19 + x1)) → XH n s S Z4 h4 → GB n S Z4 → fr' [(56, 18), (61, (-1)), (63, (-1))] Z Z4 → mx_J (tB l D b0 ad Hb tau) mt_185 (d + 16) 75 [some (.ref 56), some (xI 16), some (xI x1), some (xI x2), some (xI w3_4)] [] h4 Post := by
          intro m3
          induction m3 with
          | zero => intro w3_4 Z4 h4 q3 f3_0 f3_1 hx4 hG4 hf4; exact absurd q3 (by omega)
          | succ m3 ih3 =>
            intro w3_4 Z4 h4 q3 f3_0 f3_1 hx4 hG4 hf4
            have b5 : 0 ≤ Z4 56 18 ∧ Z4 56 18 ≤ 385 := hG4.pr 56 18
            refine mx_J.step (sn_185 75) (fun _ _ => rfl) ?_
            refine Jif_le (show mx_Sn _ _ 77 (mx_if_le 107 80) from sn_185 77) (by omega) (fun q6 => ?_) (fun q6 => ?_)
            · skip
              have w0 : wy (16 * 19 + w3_4) = 0 := by rw [show w3_4 = 0 by omega]; exact Wy0 (by omega)
              have b7 : 0 ≤ Z4 56 18 ∧ Z4 56 18 ≤ 385 := hG4.pr 56 18
              have b8 : 0 ≤ Z4 56 18 ∧ Z4 56 18 ≤ 385 := hG4.pr 56 18
              exact mx_J.ret (sn_185 107) (fun _ _ => rfl) (hP Z4 h4 hx4 hG4 (fr_tr (M := [(56, 18), (61, (-1)), (63, (-1))]) fr_rf (hf4) (M1 := []) rfl rfl) (by omega))
            · skip
              refine mx_J.step (sn_185 80) (fun _ _ => rfl) ?_
              refine JgetR (g := 17) (b := 63) hx4 (show mx_Sn _ _ 81 (mx_getf 12 17 84) from sn_185 81) a56 s56 rfl rfl (hG4.prr 56 17 rfl) ?_
              refine mx_J.step (sn_185 84) (fun _ _ => rfl) ?_
              refine mx_J.step (sn_185 85) (fun _ _ => rfl) ?_
              refine JiastI hx4 (show mx_Sn _ _ 87 (mx_iast 1 88) from sn_185 87) a63 s63 rfl (by omega) (fun Z10 h10 hx10 hE10 => ?_)
              have hG10 := GB_up hG4 hE10 (show 0 ≤ w3_4 ∧ w3_4 ≤ 18 by omega) trivial rfl
              have wr := WRr (n := 16) (m := w3_4) (by omega) (by omega)
              refine mx_J.step (sn_185 88) (fun _ _ => rfl) ?_
              refine mx_J.step (sn_185 89) (fun _ _ => rfl) ?_
              refine mx_J.step (sn_185 90) (fun _ _ => rfl) ?_
              refine Jisub (show mx_Sn _ _ 92 (mx_isub 93) from sn_185 92) ?_
              refine mx_J.step (sn_185 93) (fun _ _ => rfl) ?_
              refine mx_J.step (sn_185 95) (fun _ _ => rfl) ?_
              refine JcI (z := 1) (show mx_Sn _ _ 96 (mx_const (.int 1) 97) from sn_185 96) rfl ?_
              refine Jiadd (show mx_Sn _ _ 97 (mx_iadd 98) from sn_185 97) ?_
              have eq12 : Z10 56 18 = Z4 56 18 := (up_nk hE10 rfl)
              have b13 : 0 ≤ Z4 56 18 ∧ Z4 56 18 ≤ 385 := hG4.pr 56 18
              obtain ⟨Z11, h11, hc11, hx11, hG11, hf11, b11⟩ := ct_185_56_le15 (d := d + 0) (l := l) (D := D) (b0 := b0) (ad := ad) (Hb := Hb) (tau := tau) hx10 hG10 (show 0 ≤ 16 - w3_4 ∧ 16 - w3_4 ≤ 15 by omega) (show 0 ≤ w3_4 ∧ w3_4 ≤ 18 by omega) (show 0 ≤ x2 + 1 ∧ x2 + 1 ≤ 18 by omega) (show Z10 56 18 + wy ((16 - w3_4) * 19 + w3_4) ≤ 385 by first | omega | (simp only [eq12]; omega)) (show (x2 + 1) + (16 - w3_4) ≤ 18 by first | omega | (simp only [eq12]; omega))
              try rw [eq12] at b11
              have b14 : 0 ≤ Z11 56 18 ∧ Z11 56 18 ≤ 385 := hG11.pr 56 18
              refine Jcv0 hx10 (show mx_Sn _ _ 98 (mx_callv 185 4 12 101) from sn_185 98) a56 s56 hc11 rfl rfl rfl ?_
              refine Jiinc (z := w3_4) (cz := (-1)) (ls2 := [some (.ref 56), some (xI 16), some (xI x1), some (xI x2), some (xI (w3_4 + (-1)))]) (show mx_Sn _ _ 101 (mx_iinc 4 (-1) 104) from sn_185 101) rfl rfl rfl rfl ?_
              refine mx_J.step (sn_185 104) (fun _ _ => rfl) ?_
              have b15 : 0 ≤ Z11 56 18 ∧ Z11 56 18 ≤ 385 := hG11.pr 56 18
              exact ih3 (w3_4 + (-1)) Z11 h11 (by omega) (by omega) (by omega) hx11 hG11 (fr_tr (M := [(56, 18), (61, (-1)), (63, (-1))]) (fr_tr (M := [(56, 18), (61, (-1)), (63, (-1))]) (fr_tr (M := [(56, 18), (61, (-1)), (63, (-1))]) fr_rf (hf4) (M1 := []) rfl rfl) (fr_ua hE10) rfl rfl) (hf11) rfl rfl)
        have b16 : 0 ≤ Z 56 18 ∧ Z 56 18 ≤ 385 := hG.pr 56 18
        exact c75 (Int.toNat (k2_0 - 0) + 1) k2_0 Z h (by omega) (by omega) (by omega) hx hG fr_rf
      refine Jicmp_ge (show mx_Sn _ _ 65 (mx_icmp_ge 72 68) from sn_185 65) (by omega) (by omega) (fun q17 => ?_) (fun q17 => ?_)
      · skip
        refine mx_J.step (sn_185 72) (fun _ _ => rfl) ?_
        exact c73 16 (by omega) (by first | exact ⟨rfl, by omega⟩ | exact ⟨WSs (n := 16) (by omega) (by omega), by omega⟩)
      · skip
        refine mx_J.step (sn_185 68) (fun _ _ => rfl) ?_
        refine mx_J.step (sn_185 69) (fun _ _ => rfl) ?_
        exact c73 x1 (by omega) (by first | exact ⟨rfl, by omega⟩ | exact ⟨WSs (n := 16) (by omega) (by omega), by omega⟩)
    · skip
      exfalso; omega
theorem ct_185_56_i16 {l : Launch} {D : va_G} {b0 : Nat} {ad : Nat → Nat} {Hb : Heap} {tau : Nat → Int64} {d n s : Nat} {S : Nat → xS} {Z : xZ} {h : mx_H} (hx : XH n s S Z h) (hG : GB n S Z)  {x1 x2 : Int} (p1 : 0 ≤ x1 ∧ x1 ≤ 18) (p2 : 0 ≤ x2 ∧ x2 ≤ 18) (k0 : Z 56 18 + wy (16 * 19 + x1) ≤ 385) (k1 : x2 + 16 ≤ 18) : ∃ (Z' : xZ) (h' : mx_H), mx_Ca (tB l D b0 ad Hb tau) (d + 17) 185 [.ref 56, xI 16, xI x1, xI x2] h (none, h') ∧ XH n s S Z' h' ∧ GB n S Z' ∧ fr' [(56, 18), (61, (-1)), (63, (-1))] Z Z' ∧ (Z' 56 18 = Z 56 18 + wy (16 * 19 + x1)) := by
  obtain ⟨r, hca, Z', h', e, q⟩ := Jmt (B := tB l D b0 ad Hb tau) (M := mt_185) (mi := 185) (as := [.ref 56, xI 16, xI x1, xI x2]) (d := d + 16) (ls := [some (.ref 56), some (xI 16), some (xI x1), some (xI x2), none]) rfl rfl rfl rfl rfl rfl (cw_185_56_i16 (l := l) (D := D) (b0 := b0) (ad := ad) (Hb := Hb) (tau := tau) (d := d) (Post := fun r => ∃ (Z' : xZ) (h' : mx_H), r = (none, h') ∧ XH n s S Z' h' ∧ GB n S Z' ∧ fr' [(56, 18), (61, (-1)), (63, (-1))] Z Z' ∧ (Z' 56 18 = Z 56 18 + wy (16 * 19 + x1))) hx hG p1 p2 k0 k1 (fun Z' h' q1 q2 q3 q4 => ⟨Z', h', rfl, q1, q2, q3, q4⟩))
  subst e; exact ⟨Z', h', hca, q⟩
theorem ct_185_56_le16 {l : Launch} {D : va_G} {b0 : Nat} {ad : Nat → Nat} {Hb : Heap} {tau : Nat → Int64} {d n s : Nat} {S : Nat → xS} {Z : xZ} {h : mx_H} (hx : XH n s S Z h) (hG : GB n S Z) {x0 x1 x2 : Int} (p0 : 0 ≤ x0 ∧ x0 ≤ 16) (p1 : 0 ≤ x1 ∧ x1 ≤ 18) (p2 : 0 ≤ x2 ∧ x2 ≤ 18) (k0 : Z 56 18 + wy (x0 * 19 + x1) ≤ 385) (k1 : x2 + x0 ≤ 18) : ∃ (Z' : xZ) (h' : mx_H), mx_Ca (tB l D b0 ad Hb tau) (d + 17) 185 [.ref 56, xI x0, xI x1, xI x2] h (none, h') ∧ XH n s S Z' h' ∧ GB n S Z' ∧ fr' [(56, 18), (61, (-1)), (63, (-1))] Z Z' ∧ (Z' 56 18 = Z 56 18 + wy (x0 * 19 + x1)) := by
  have hc : x0 = 0 ∨ x0 = 1 ∨ x0 = 2 ∨ x0 = 3 ∨ x0 = 4 ∨ x0 = 5 ∨ x0 = 6 ∨ x0 = 7 ∨ x0 = 8 ∨ x0 = 9 ∨ x0 = 10 ∨ x0 = 11 ∨ x0 = 12 ∨ x0 = 13 ∨ x0 = 14 ∨ x0 = 15 ∨ x0 = 16 := by omega
  rcases hc with hc | hc | hc | hc | hc | hc | hc | hc | hc | hc | hc | hc | hc | hc | hc | hc | hc
  · subst hc
    obtain ⟨Z', h', hca, q1, q2, q3, q4⟩ := ct_185_56_i0 (d := d + 16) (l := l) (D := D) (b0 := b0) (ad := ad) (Hb := Hb) (tau := tau) hx hG p1 p2 k0 k1
    exact ⟨Z', h', hca, q1, q2, fr_tr (M1 := []) fr_rf q3 rfl rfl, q4⟩
  · subst hc
    obtain ⟨Z', h', hca, q1, q2, q3, q4⟩ := ct_185_56_i1 (d := d + 15) (l := l) (D := D) (b0 := b0) (ad := ad) (Hb := Hb) (tau := tau) hx hG p1 p2 k0 k1
    exact ⟨Z', h', hca, q1, q2, fr_tr (M1 := []) fr_rf q3 rfl rfl, q4⟩
  · subst hc
    obtain ⟨Z', h', hca, q1, q2, q3, q4⟩ := ct_185_56_i2 (d := d + 14) (l := l) (D := D) (b0 := b0) (ad := ad) (Hb := Hb) (tau := tau) hx hG p1 p2 k0 k1
    exact ⟨Z', h', hca, q1, q2, fr_tr (M1 := []) fr_rf q3 rfl rfl, q4⟩
  · subst hc
    obtain ⟨Z', h', hca, q1, q2, q3, q4⟩ := ct_185_56_i3 (d := d + 13) (l := l) (D := D) (b0 := b0) (ad := ad) (Hb := Hb) (tau := tau) hx hG p1 p2 k0 k1
    exact ⟨Z', h', hca, q1, q2, fr_tr (M1 := []) fr_rf q3 rfl rfl, q4⟩
  · subst hc
    obtain ⟨Z', h', hca, q1, q2, q3, q4⟩ := ct_185_56_i4 (d := d + 12) (l := l) (D := D) (b0 := b0) (ad := ad) (Hb := Hb) (tau := tau) hx hG p1 p2 k0 k1
    exact ⟨Z', h', hca, q1, q2, fr_tr (M1 := []) fr_rf q3 rfl rfl, q4⟩
  · subst hc
    obtain ⟨Z', h', hca, q1, q2, q3, q4⟩ := ct_185_56_i5 (d := d + 11) (l := l) (D := D) (b0 := b0) (ad := ad) (Hb := Hb) (tau := tau) hx hG p1 p2 k0 k1
    exact ⟨Z', h', hca, q1, q2, fr_tr (M1 := []) fr_rf q3 rfl rfl, q4⟩
  · subst hc
    obtain ⟨Z', h', hca, q1, q2, q3, q4⟩ := ct_185_56_i6 (d := d + 10) (l := l) (D := D) (b0 := b0) (ad := ad) (Hb := Hb) (tau := tau) hx hG p1 p2 k0 k1
    exact ⟨Z', h', hca, q1, q2, fr_tr (M1 := []) fr_rf q3 rfl rfl, q4⟩
  · subst hc
    obtain ⟨Z', h', hca, q1, q2, q3, q4⟩ := ct_185_56_i7 (d := d + 9) (l := l) (D := D) (b0 := b0) (ad := ad) (Hb := Hb) (tau := tau) hx hG p1 p2 k0 k1
    exact ⟨Z', h', hca, q1, q2, fr_tr (M1 := []) fr_rf q3 rfl rfl, q4⟩
  · subst hc
    obtain ⟨Z', h', hca, q1, q2, q3, q4⟩ := ct_185_56_i8 (d := d + 8) (l := l) (D := D) (b0 := b0) (ad := ad) (Hb := Hb) (tau := tau) hx hG p1 p2 k0 k1
    exact ⟨Z', h', hca, q1, q2, fr_tr (M1 := []) fr_rf q3 rfl rfl, q4⟩
  · subst hc
    obtain ⟨Z', h', hca, q1, q2, q3, q4⟩ := ct_185_56_i9 (d := d + 7) (l := l) (D := D) (b0 := b0) (ad := ad) (Hb := Hb) (tau := tau) hx hG p1 p2 k0 k1
    exact ⟨Z', h', hca, q1, q2, fr_tr (M1 := []) fr_rf q3 rfl rfl, q4⟩
  · subst hc
    obtain ⟨Z', h', hca, q1, q2, q3, q4⟩ := ct_185_56_i10 (d := d + 6) (l := l) (D := D) (b0 := b0) (ad := ad) (Hb := Hb) (tau := tau) hx hG p1 p2 k0 k1
    exact ⟨Z', h', hca, q1, q2, fr_tr (M1 := []) fr_rf q3 rfl rfl, q4⟩
  · subst hc
    obtain ⟨Z', h', hca, q1, q2, q3, q4⟩ := ct_185_56_i11 (d := d + 5) (l := l) (D := D) (b0 := b0) (ad := ad) (Hb := Hb) (tau := tau) hx hG p1 p2 k0 k1
    exact ⟨Z', h', hca, q1, q2, fr_tr (M1 := []) fr_rf q3 rfl rfl, q4⟩
  · subst hc
    obtain ⟨Z', h', hca, q1, q2, q3, q4⟩ := ct_185_56_i12 (d := d + 4) (l := l) (D := D) (b0 := b0) (ad := ad) (Hb := Hb) (tau := tau) hx hG p1 p2 k0 k1
    exact ⟨Z', h', hca, q1, q2, fr_tr (M1 := []) fr_rf q3 rfl rfl, q4⟩
  · subst hc
    obtain ⟨Z', h', hca, q1, q2, q3, q4⟩ := ct_185_56_i13 (d := d + 3) (l := l) (D := D) (b0 := b0) (ad := ad) (Hb := Hb) (tau := tau) hx hG p1 p2 k0 k1
    exact ⟨Z', h', hca, q1, q2, fr_tr (M1 := []) fr_rf q3 rfl rfl, q4⟩
  · subst hc
    obtain ⟨Z', h', hca, q1, q2, q3, q4⟩ := ct_185_56_i14 (d := d + 2) (l := l) (D := D) (b0 := b0) (ad := ad) (Hb := Hb) (tau := tau) hx hG p1 p2 k0 k1
    exact ⟨Z', h', hca, q1, q2, fr_tr (M1 := []) fr_rf q3 rfl rfl, q4⟩
  · subst hc
    obtain ⟨Z', h', hca, q1, q2, q3, q4⟩ := ct_185_56_i15 (d := d + 1) (l := l) (D := D) (b0 := b0) (ad := ad) (Hb := Hb) (tau := tau) hx hG p1 p2 k0 k1
    exact ⟨Z', h', hca, q1, q2, fr_tr (M1 := []) fr_rf q3 rfl rfl, q4⟩
  · subst hc
    obtain ⟨Z', h', hca, q1, q2, q3, q4⟩ := ct_185_56_i16 (d := d + 0) (l := l) (D := D) (b0 := b0) (ad := ad) (Hb := Hb) (tau := tau) hx hG p1 p2 k0 k1
    exact ⟨Z', h', hca, q1, q2, fr_tr (M1 := []) fr_rf q3 rfl rfl, q4⟩
set_option maxRecDepth 100000 in
theorem cw_185_56_i17 {l : Launch} {D : va_G} {b0 : Nat} {ad : Nat → Nat} {Hb : Heap} {tau : Nat → Int64} {d n s : Nat} {S : Nat → xS} {Z : xZ} {h : mx_H} {Post : mx_R → Prop} (hx : XH n s S Z h) (hG : GB n S Z)  {x1 x2 : Int} (p1 : 0 ≤ x1 ∧ x1 ≤ 18) (p2 : 0 ≤ x2 ∧ x2 ≤ 18) (k0 : Z 56 18 + wy (17 * 19 + x1) ≤ 385) (k1 : x2 + 17 ≤ 18) (hP : ∀ (Z' : xZ) (h' : mx_H), XH n s S Z' h' → GB n S Z' → fr' [(56, 18), (61, (-1)), (63, (-1))] Z Z' → Z' 56 18 = Z 56 18 + wy (17 * 19 + x1) → Post (none, h')) : mx_J (tB l D b0 ad Hb tau) mt_185 (d + 17) 0 [some (.ref 56), some (xI 17), some (xI x1), some (xI x2), none] [] h Post := by
    have a56 : 56 < n := lt83 (GB_n hG) rfl
    have s56 : S 56 = .inl (12, [0, 2, 2, 2, 2, 0, 0, 0, 0, 0, 0, 0, 0, 0, 0, 2, 2, 2, 0, 2, 2, 2, 0, 0, 2, 2, 2, 2, 2, 2, 0, 0, 2, 2, 2, 2, 2, 2, 2, 2, 2, 2]) := GB_s hG 56 rfl
    have a63 : 63 < n := lt83 (GB_n hG) rfl
    have s63 : S 63 = .inr (.int, 18, 0) := GB_s hG 63 rfl
    refine mx_J.step (sn_185 0) (fun _ _ => rfl) ?_
    refine Jif_ne (show mx_Sn _ _ 1 (mx_if_ne 63 4) from sn_185 1) (by omega) (fun q1 => ?_) (fun q1 => ?_)
    · skip
      refine mx_J.step (sn_185 63) (fun _ _ => rfl) ?_
      refine mx_J.step (sn_185 64) (fun _ _ => rfl) ?_
      have c73 : ∀ (k2_0 : Int), 0 ≤ k2_0 ∧ k2_0 ≤ 17 → (wy (17 * 19 + k2_0) = wy (17 * 19 + x1) ∧ k2_0 ≤ 17) → mx_J (tB l D b0 ad Hb tau) mt_185 (d + 17) 73 [some (.ref 56), some (xI 17), some (xI x1), some (xI x2), none] [xI k2_0] h Post := by
        intro k2_0 f2_0 f2_1
        refine mx_J.step (ls2 := [some (.ref 56), some (xI 17), some (xI x1), some (xI x2), some (xI k2_0)]) (sn_185 73) (fun _ _ => rfl) ?_
        have c75 : ∀ (m3 : Nat) (w3_4 : Int) (Z4 : xZ) (h4 : mx_H), w3_4 - 0 < (m3 : Int) → 0 ≤ w3_4 ∧ w3_4 ≤ 17 → (Z4 56 18 + wy (17 * 19 + w3_4) = Z 56 18 + wy (17 * 19 + x1)) → XH n s S Z4 h4 → GB n S Z4 → fr' [(56, 18), (61, (-1)), (63, (-1))] Z Z4 → mx_J (tB l D b0 ad Hb tau) mt_185 (d + 17) 75 [some (.ref 56), some (xI 17), some (xI x1), some (xI x2), some (xI w3_4)] [] h4 Post := by
          intro m3
          induction m3 with
          | zero => intro w3_4 Z4 h4 q3 f3_0 f3_1 hx4 hG4 hf4; exact absurd q3 (by omega)
          | succ m3 ih3 =>
            intro w3_4 Z4 h4 q3 f3_0 f3_1 hx4 hG4 hf4
            have b5 : 0 ≤ Z4 56 18 ∧ Z4 56 18 ≤ 385 := hG4.pr 56 18
            refine mx_J.step (sn_185 75) (fun _ _ => rfl) ?_
            refine Jif_le (show mx_Sn _ _ 77 (mx_if_le 107 80) from sn_185 77) (by omega) (fun q6 => ?_) (fun q6 => ?_)
            · skip
              have w0 : wy (17 * 19 + w3_4) = 0 := by rw [show w3_4 = 0 by omega]; exact Wy0 (by omega)
              have b7 : 0 ≤ Z4 56 18 ∧ Z4 56 18 ≤ 385 := hG4.pr 56 18
              have b8 : 0 ≤ Z4 56 18 ∧ Z4 56 18 ≤ 385 := hG4.pr 56 18
              exact mx_J.ret (sn_185 107) (fun _ _ => rfl) (hP Z4 h4 hx4 hG4 (fr_tr (M := [(56, 18), (61, (-1)), (63, (-1))]) fr_rf (hf4) (M1 := []) rfl rfl) (by omega))
            · skip
              refine mx_J.step (sn_185 80) (fun _ _ => rfl) ?_
              refine JgetR (g := 17) (b := 63) hx4 (show mx_Sn _ _ 81 (mx_getf 12 17 84) from sn_185 81) a56 s56 rfl rfl (hG4.prr 56 17 rfl) ?_
              refine mx_J.step (sn_185 84) (fun _ _ => rfl) ?_
              refine mx_J.step (sn_185 85) (fun _ _ => rfl) ?_
              refine JiastI hx4 (show mx_Sn _ _ 87 (mx_iast 1 88) from sn_185 87) a63 s63 rfl (by omega) (fun Z10 h10 hx10 hE10 => ?_)
              have hG10 := GB_up hG4 hE10 (show 0 ≤ w3_4 ∧ w3_4 ≤ 18 by omega) trivial rfl
              have wr := WRr (n := 17) (m := w3_4) (by omega) (by omega)
              refine mx_J.step (sn_185 88) (fun _ _ => rfl) ?_
              refine mx_J.step (sn_185 89) (fun _ _ => rfl) ?_
              refine mx_J.step (sn_185 90) (fun _ _ => rfl) ?_
              refine Jisub (show mx_Sn _ _ 92 (mx_isub 93) from sn_185 92) ?_
              refine mx_J.step (sn_185 93) (fun _ _ => rfl) ?_
              refine mx_J.step (sn_185 95) (fun _ _ => rfl) ?_
              refine JcI (z := 1) (show mx_Sn _ _ 96 (mx_const (.int 1) 97) from sn_185 96) rfl ?_
              refine Jiadd (show mx_Sn _ _ 97 (mx_iadd 98) from sn_185 97) ?_
              have eq12 : Z10 56 18 = Z4 56 18 := (up_nk hE10 rfl)
              have b13 : 0 ≤ Z4 56 18 ∧ Z4 56 18 ≤ 385 := hG4.pr 56 18
              obtain ⟨Z11, h11, hc11, hx11, hG11, hf11, b11⟩ := ct_185_56_le16 (d := d + 0) (l := l) (D := D) (b0 := b0) (ad := ad) (Hb := Hb) (tau := tau) hx10 hG10 (show 0 ≤ 17 - w3_4 ∧ 17 - w3_4 ≤ 16 by omega) (show 0 ≤ w3_4 ∧ w3_4 ≤ 18 by omega) (show 0 ≤ x2 + 1 ∧ x2 + 1 ≤ 18 by omega) (show Z10 56 18 + wy ((17 - w3_4) * 19 + w3_4) ≤ 385 by first | omega | (simp only [eq12]; omega)) (show (x2 + 1) + (17 - w3_4) ≤ 18 by first | omega | (simp only [eq12]; omega))
              try rw [eq12] at b11
              have b14 : 0 ≤ Z11 56 18 ∧ Z11 56 18 ≤ 385 := hG11.pr 56 18
              refine Jcv0 hx10 (show mx_Sn _ _ 98 (mx_callv 185 4 12 101) from sn_185 98) a56 s56 hc11 rfl rfl rfl ?_
              refine Jiinc (z := w3_4) (cz := (-1)) (ls2 := [some (.ref 56), some (xI 17), some (xI x1), some (xI x2), some (xI (w3_4 + (-1)))]) (show mx_Sn _ _ 101 (mx_iinc 4 (-1) 104) from sn_185 101) rfl rfl rfl rfl ?_
              refine mx_J.step (sn_185 104) (fun _ _ => rfl) ?_
              have b15 : 0 ≤ Z11 56 18 ∧ Z11 56 18 ≤ 385 := hG11.pr 56 18
              exact ih3 (w3_4 + (-1)) Z11 h11 (by omega) (by omega) (by omega) hx11 hG11 (fr_tr (M := [(56, 18), (61, (-1)), (63, (-1))]) (fr_tr (M := [(56, 18), (61, (-1)), (63, (-1))]) (fr_tr (M := [(56, 18), (61, (-1)), (63, (-1))]) fr_rf (hf4) (M1 := []) rfl rfl) (fr_ua hE10) rfl rfl) (hf11) rfl rfl)
        have b16 : 0 ≤ Z 56 18 ∧ Z 56 18 ≤ 385 := hG.pr 56 18
        exact c75 (Int.toNat (k2_0 - 0) + 1) k2_0 Z h (by omega) (by omega) (by omega) hx hG fr_rf
      refine Jicmp_ge (show mx_Sn _ _ 65 (mx_icmp_ge 72 68) from sn_185 65) (by omega) (by omega) (fun q17 => ?_) (fun q17 => ?_)
      · skip
        refine mx_J.step (sn_185 72) (fun _ _ => rfl) ?_
        exact c73 17 (by omega) (by first | exact ⟨rfl, by omega⟩ | exact ⟨WSs (n := 17) (by omega) (by omega), by omega⟩)
      · skip
        refine mx_J.step (sn_185 68) (fun _ _ => rfl) ?_
        refine mx_J.step (sn_185 69) (fun _ _ => rfl) ?_
        exact c73 x1 (by omega) (by first | exact ⟨rfl, by omega⟩ | exact ⟨WSs (n := 17) (by omega) (by omega), by omega⟩)
    · skip
      exfalso; omega
theorem ct_185_56_i17 {l : Launch} {D : va_G} {b0 : Nat} {ad : Nat → Nat} {Hb : Heap} {tau : Nat → Int64} {d n s : Nat} {S : Nat → xS} {Z : xZ} {h : mx_H} (hx : XH n s S Z h) (hG : GB n S Z)  {x1 x2 : Int} (p1 : 0 ≤ x1 ∧ x1 ≤ 18) (p2 : 0 ≤ x2 ∧ x2 ≤ 18) (k0 : Z 56 18 + wy (17 * 19 + x1) ≤ 385) (k1 : x2 + 17 ≤ 18) : ∃ (Z' : xZ) (h' : mx_H), mx_Ca (tB l D b0 ad Hb tau) (d + 18) 185 [.ref 56, xI 17, xI x1, xI x2] h (none, h') ∧ XH n s S Z' h' ∧ GB n S Z' ∧ fr' [(56, 18), (61, (-1)), (63, (-1))] Z Z' ∧ (Z' 56 18 = Z 56 18 + wy (17 * 19 + x1)) := by
  obtain ⟨r, hca, Z', h', e, q⟩ := Jmt (B := tB l D b0 ad Hb tau) (M := mt_185) (mi := 185) (as := [.ref 56, xI 17, xI x1, xI x2]) (d := d + 17) (ls := [some (.ref 56), some (xI 17), some (xI x1), some (xI x2), none]) rfl rfl rfl rfl rfl rfl (cw_185_56_i17 (l := l) (D := D) (b0 := b0) (ad := ad) (Hb := Hb) (tau := tau) (d := d) (Post := fun r => ∃ (Z' : xZ) (h' : mx_H), r = (none, h') ∧ XH n s S Z' h' ∧ GB n S Z' ∧ fr' [(56, 18), (61, (-1)), (63, (-1))] Z Z' ∧ (Z' 56 18 = Z 56 18 + wy (17 * 19 + x1))) hx hG p1 p2 k0 k1 (fun Z' h' q1 q2 q3 q4 => ⟨Z', h', rfl, q1, q2, q3, q4⟩))
  subst e; exact ⟨Z', h', hca, q⟩
theorem ct_185_56_le17 {l : Launch} {D : va_G} {b0 : Nat} {ad : Nat → Nat} {Hb : Heap} {tau : Nat → Int64} {d n s : Nat} {S : Nat → xS} {Z : xZ} {h : mx_H} (hx : XH n s S Z h) (hG : GB n S Z) {x0 x1 x2 : Int} (p0 : 0 ≤ x0 ∧ x0 ≤ 17) (p1 : 0 ≤ x1 ∧ x1 ≤ 18) (p2 : 0 ≤ x2 ∧ x2 ≤ 18) (k0 : Z 56 18 + wy (x0 * 19 + x1) ≤ 385) (k1 : x2 + x0 ≤ 18) : ∃ (Z' : xZ) (h' : mx_H), mx_Ca (tB l D b0 ad Hb tau) (d + 18) 185 [.ref 56, xI x0, xI x1, xI x2] h (none, h') ∧ XH n s S Z' h' ∧ GB n S Z' ∧ fr' [(56, 18), (61, (-1)), (63, (-1))] Z Z' ∧ (Z' 56 18 = Z 56 18 + wy (x0 * 19 + x1)) := by
  have hc : x0 = 0 ∨ x0 = 1 ∨ x0 = 2 ∨ x0 = 3 ∨ x0 = 4 ∨ x0 = 5 ∨ x0 = 6 ∨ x0 = 7 ∨ x0 = 8 ∨ x0 = 9 ∨ x0 = 10 ∨ x0 = 11 ∨ x0 = 12 ∨ x0 = 13 ∨ x0 = 14 ∨ x0 = 15 ∨ x0 = 16 ∨ x0 = 17 := by omega
  rcases hc with hc | hc | hc | hc | hc | hc | hc | hc | hc | hc | hc | hc | hc | hc | hc | hc | hc | hc
  · subst hc
    obtain ⟨Z', h', hca, q1, q2, q3, q4⟩ := ct_185_56_i0 (d := d + 17) (l := l) (D := D) (b0 := b0) (ad := ad) (Hb := Hb) (tau := tau) hx hG p1 p2 k0 k1
    exact ⟨Z', h', hca, q1, q2, fr_tr (M1 := []) fr_rf q3 rfl rfl, q4⟩
  · subst hc
    obtain ⟨Z', h', hca, q1, q2, q3, q4⟩ := ct_185_56_i1 (d := d + 16) (l := l) (D := D) (b0 := b0) (ad := ad) (Hb := Hb) (tau := tau) hx hG p1 p2 k0 k1
    exact ⟨Z', h', hca, q1, q2, fr_tr (M1 := []) fr_rf q3 rfl rfl, q4⟩
  · subst hc
    obtain ⟨Z', h', hca, q1, q2, q3, q4⟩ := ct_185_56_i2 (d := d + 15) (l := l) (D := D) (b0 := b0) (ad := ad) (Hb := Hb) (tau := tau) hx hG p1 p2 k0 k1
    exact ⟨Z', h', hca, q1, q2, fr_tr (M1 := []) fr_rf q3 rfl rfl, q4⟩
  · subst hc
    obtain ⟨Z', h', hca, q1, q2, q3, q4⟩ := ct_185_56_i3 (d := d + 14) (l := l) (D := D) (b0 := b0) (ad := ad) (Hb := Hb) (tau := tau) hx hG p1 p2 k0 k1
    exact ⟨Z', h', hca, q1, q2, fr_tr (M1 := []) fr_rf q3 rfl rfl, q4⟩
  · subst hc
    obtain ⟨Z', h', hca, q1, q2, q3, q4⟩ := ct_185_56_i4 (d := d + 13) (l := l) (D := D) (b0 := b0) (ad := ad) (Hb := Hb) (tau := tau) hx hG p1 p2 k0 k1
    exact ⟨Z', h', hca, q1, q2, fr_tr (M1 := []) fr_rf q3 rfl rfl, q4⟩
  · subst hc
    obtain ⟨Z', h', hca, q1, q2, q3, q4⟩ := ct_185_56_i5 (d := d + 12) (l := l) (D := D) (b0 := b0) (ad := ad) (Hb := Hb) (tau := tau) hx hG p1 p2 k0 k1
    exact ⟨Z', h', hca, q1, q2, fr_tr (M1 := []) fr_rf q3 rfl rfl, q4⟩
  · subst hc
    obtain ⟨Z', h', hca, q1, q2, q3, q4⟩ := ct_185_56_i6 (d := d + 11) (l := l) (D := D) (b0 := b0) (ad := ad) (Hb := Hb) (tau := tau) hx hG p1 p2 k0 k1
    exact ⟨Z', h', hca, q1, q2, fr_tr (M1 := []) fr_rf q3 rfl rfl, q4⟩
  · subst hc
    obtain ⟨Z', h', hca, q1, q2, q3, q4⟩ := ct_185_56_i7 (d := d + 10) (l := l) (D := D) (b0 := b0) (ad := ad) (Hb := Hb) (tau := tau) hx hG p1 p2 k0 k1
    exact ⟨Z', h', hca, q1, q2, fr_tr (M1 := []) fr_rf q3 rfl rfl, q4⟩
  · subst hc
    obtain ⟨Z', h', hca, q1, q2, q3, q4⟩ := ct_185_56_i8 (d := d + 9) (l := l) (D := D) (b0 := b0) (ad := ad) (Hb := Hb) (tau := tau) hx hG p1 p2 k0 k1
    exact ⟨Z', h', hca, q1, q2, fr_tr (M1 := []) fr_rf q3 rfl rfl, q4⟩
  · subst hc
    obtain ⟨Z', h', hca, q1, q2, q3, q4⟩ := ct_185_56_i9 (d := d + 8) (l := l) (D := D) (b0 := b0) (ad := ad) (Hb := Hb) (tau := tau) hx hG p1 p2 k0 k1
    exact ⟨Z', h', hca, q1, q2, fr_tr (M1 := []) fr_rf q3 rfl rfl, q4⟩
  · subst hc
    obtain ⟨Z', h', hca, q1, q2, q3, q4⟩ := ct_185_56_i10 (d := d + 7) (l := l) (D := D) (b0 := b0) (ad := ad) (Hb := Hb) (tau := tau) hx hG p1 p2 k0 k1
    exact ⟨Z', h', hca, q1, q2, fr_tr (M1 := []) fr_rf q3 rfl rfl, q4⟩
  · subst hc
    obtain ⟨Z', h', hca, q1, q2, q3, q4⟩ := ct_185_56_i11 (d := d + 6) (l := l) (D := D) (b0 := b0) (ad := ad) (Hb := Hb) (tau := tau) hx hG p1 p2 k0 k1
    exact ⟨Z', h', hca, q1, q2, fr_tr (M1 := []) fr_rf q3 rfl rfl, q4⟩
  · subst hc
    obtain ⟨Z', h', hca, q1, q2, q3, q4⟩ := ct_185_56_i12 (d := d + 5) (l := l) (D := D) (b0 := b0) (ad := ad) (Hb := Hb) (tau := tau) hx hG p1 p2 k0 k1
    exact ⟨Z', h', hca, q1, q2, fr_tr (M1 := []) fr_rf q3 rfl rfl, q4⟩
  · subst hc
    obtain ⟨Z', h', hca, q1, q2, q3, q4⟩ := ct_185_56_i13 (d := d + 4) (l := l) (D := D) (b0 := b0) (ad := ad) (Hb := Hb) (tau := tau) hx hG p1 p2 k0 k1
    exact ⟨Z', h', hca, q1, q2, fr_tr (M1 := []) fr_rf q3 rfl rfl, q4⟩
  · subst hc
    obtain ⟨Z', h', hca, q1, q2, q3, q4⟩ := ct_185_56_i14 (d := d + 3) (l := l) (D := D) (b0 := b0) (ad := ad) (Hb := Hb) (tau := tau) hx hG p1 p2 k0 k1
    exact ⟨Z', h', hca, q1, q2, fr_tr (M1 := []) fr_rf q3 rfl rfl, q4⟩
  · subst hc
    obtain ⟨Z', h', hca, q1, q2, q3, q4⟩ := ct_185_56_i15 (d := d + 2) (l := l) (D := D) (b0 := b0) (ad := ad) (Hb := Hb) (tau := tau) hx hG p1 p2 k0 k1
    exact ⟨Z', h', hca, q1, q2, fr_tr (M1 := []) fr_rf q3 rfl rfl, q4⟩
  · subst hc
    obtain ⟨Z', h', hca, q1, q2, q3, q4⟩ := ct_185_56_i16 (d := d + 1) (l := l) (D := D) (b0 := b0) (ad := ad) (Hb := Hb) (tau := tau) hx hG p1 p2 k0 k1
    exact ⟨Z', h', hca, q1, q2, fr_tr (M1 := []) fr_rf q3 rfl rfl, q4⟩
  · subst hc
    obtain ⟨Z', h', hca, q1, q2, q3, q4⟩ := ct_185_56_i17 (d := d + 0) (l := l) (D := D) (b0 := b0) (ad := ad) (Hb := Hb) (tau := tau) hx hG p1 p2 k0 k1
    exact ⟨Z', h', hca, q1, q2, fr_tr (M1 := []) fr_rf q3 rfl rfl, q4⟩
set_option maxRecDepth 100000 in
theorem cw_185_56_i18 {l : Launch} {D : va_G} {b0 : Nat} {ad : Nat → Nat} {Hb : Heap} {tau : Nat → Int64} {d n s : Nat} {S : Nat → xS} {Z : xZ} {h : mx_H} {Post : mx_R → Prop} (hx : XH n s S Z h) (hG : GB n S Z)  {x1 x2 : Int} (p1 : 0 ≤ x1 ∧ x1 ≤ 18) (p2 : 0 ≤ x2 ∧ x2 ≤ 18) (k0 : Z 56 18 + wy (18 * 19 + x1) ≤ 385) (k1 : x2 + 18 ≤ 18) (hP : ∀ (Z' : xZ) (h' : mx_H), XH n s S Z' h' → GB n S Z' → fr' [(56, 18), (61, (-1)), (63, (-1))] Z Z' → Z' 56 18 = Z 56 18 + wy (18 * 19 + x1) → Post (none, h')) : mx_J (tB l D b0 ad Hb tau) mt_185 (d + 18) 0 [some (.ref 56), some (xI 18), some (xI x1), some (xI x2), none] [] h Post := by
    have a56 : 56 < n := lt83 (GB_n hG) rfl
    have s56 : S 56 = .inl (12, [0, 2, 2, 2, 2, 0, 0, 0, 0, 0, 0, 0, 0, 0, 0, 2, 2, 2, 0, 2, 2, 2, 0, 0, 2, 2, 2, 2, 2, 2, 0, 0, 2, 2, 2, 2, 2, 2, 2, 2, 2, 2]) := GB_s hG 56 rfl
    have a63 : 63 < n := lt83 (GB_n hG) rfl
    have s63 : S 63 = .inr (.int, 18, 0) := GB_s hG 63 rfl
    refine mx_J.step (sn_185 0) (fun _ _ => rfl) ?_
    refine Jif_ne (show mx_Sn _ _ 1 (mx_if_ne 63 4) from sn_185 1) (by omega) (fun q1 => ?_) (fun q1 => ?_)
    · skip
      refine mx_J.step (sn_185 63) (fun _ _ => rfl) ?_
      refine mx_J.step (sn_185 64) (fun _ _ => rfl) ?_
      have c73 : ∀ (k2_0 : Int), 0 ≤ k2_0 ∧ k2_0 ≤ 18 → (wy (18 * 19 + k2_0) = wy (18 * 19 + x1) ∧ k2_0 ≤ 18) → mx_J (tB l D b0 ad Hb tau) mt_185 (d + 18) 73 [some (.ref 56), some (xI 18), some (xI x1), some (xI x2), none] [xI k2_0] h Post := by
        intro k2_0 f2_0 f2_1
        refine mx_J.step (ls2 := [some (.ref 56), some (xI 18), some (xI x1), some (xI x2), some (xI k2_0)]) (sn_185 73) (fun _ _ => rfl) ?_
        have c75 : ∀ (m3 : Nat) (w3_4 : Int) (Z4 : xZ) (h4 : mx_H), w3_4 - 0 < (m3 : Int) → 0 ≤ w3_4 ∧ w3_4 ≤ 18 → (Z4 56 18 + wy (18 * 19 + w3_4) = Z 56 18 + wy (18 * 19 + x1)) → XH n s S Z4 h4 → GB n S Z4 → fr' [(56, 18), (61, (-1)), (63, (-1))] Z Z4 → mx_J (tB l D b0 ad Hb tau) mt_185 (d + 18) 75 [some (.ref 56), some (xI 18), some (xI x1), some (xI x2), some (xI w3_4)] [] h4 Post := by
          intro m3
          induction m3 with
          | zero => intro w3_4 Z4 h4 q3 f3_0 f3_1 hx4 hG4 hf4; exact absurd q3 (by omega)
          | succ m3 ih3 =>
            intro w3_4 Z4 h4 q3 f3_0 f3_1 hx4 hG4 hf4
            have b5 : 0 ≤ Z4 56 18 ∧ Z4 56 18 ≤ 385 := hG4.pr 56 18
            refine mx_J.step (sn_185 75) (fun _ _ => rfl) ?_
            refine Jif_le (show mx_Sn _ _ 77 (mx_if_le 107 80) from sn_185 77) (by omega) (fun q6 => ?_) (fun q6 => ?_)
            · skip
              have w0 : wy (18 * 19 + w3_4) = 0 := by rw [show w3_4 = 0 by omega]; exact Wy0 (by omega)
              have b7 : 0 ≤ Z4 56 18 ∧ Z4 56 18 ≤ 385 := hG4.pr 56 18
              have b8 : 0 ≤ Z4 56 18 ∧ Z4 56 18 ≤ 385 := hG4.pr 56 18
              exact mx_J.ret (sn_185 107) (fun _ _ => rfl) (hP Z4 h4 hx4 hG4 (fr_tr (M := [(56, 18), (61, (-1)), (63, (-1))]) fr_rf (hf4) (M1 := []) rfl rfl) (by omega))
            · skip
              refine mx_J.step (sn_185 80) (fun _ _ => rfl) ?_
              refine JgetR (g := 17) (b := 63) hx4 (show mx_Sn _ _ 81 (mx_getf 12 17 84) from sn_185 81) a56 s56 rfl rfl (hG4.prr 56 17 rfl) ?_
              refine mx_J.step (sn_185 84) (fun _ _ => rfl) ?_
              refine mx_J.step (sn_185 85) (fun _ _ => rfl) ?_
              refine JiastI hx4 (show mx_Sn _ _ 87 (mx_iast 1 88) from sn_185 87) a63 s63 rfl (by omega) (fun Z10 h10 hx10 hE10 => ?_)
              have hG10 := GB_up hG4 hE10 (show 0 ≤ w3_4 ∧ w3_4 ≤ 18 by omega) trivial rfl
              have wr := WRr (n := 18) (m := w3_4) (by omega) (by omega)
              refine mx_J.step (sn_185 88) (fun _ _ => rfl) ?_
              refine mx_J.step (sn_185 89) (fun _ _ => rfl) ?_
              refine mx_J.step (sn_185 90) (fun _ _ => rfl) ?_
              refine Jisub (show mx_Sn _ _ 92 (mx_isub 93) from sn_185 92) ?_
              refine mx_J.step (sn_185 93) (fun _ _ => rfl) ?_
              refine mx_J.step (sn_185 95) (fun _ _ => rfl) ?_
              refine JcI (z := 1) (show mx_Sn _ _ 96 (mx_const (.int 1) 97) from sn_185 96) rfl ?_
              refine Jiadd (show mx_Sn _ _ 97 (mx_iadd 98) from sn_185 97) ?_
              have eq12 : Z10 56 18 = Z4 56 18 := (up_nk hE10 rfl)
              have b13 : 0 ≤ Z4 56 18 ∧ Z4 56 18 ≤ 385 := hG4.pr 56 18
              obtain ⟨Z11, h11, hc11, hx11, hG11, hf11, b11⟩ := ct_185_56_le17 (d := d + 0) (l := l) (D := D) (b0 := b0) (ad := ad) (Hb := Hb) (tau := tau) hx10 hG10 (show 0 ≤ 18 - w3_4 ∧ 18 - w3_4 ≤ 17 by omega) (show 0 ≤ w3_4 ∧ w3_4 ≤ 18 by omega) (show 0 ≤ x2 + 1 ∧ x2 + 1 ≤ 18 by omega) (show Z10 56 18 + wy ((18 - w3_4) * 19 + w3_4) ≤ 385 by first | omega | (simp only [eq12]; omega)) (show (x2 + 1) + (18 - w3_4) ≤ 18 by first | omega | (simp only [eq12]; omega))
              try rw [eq12] at b11
              have b14 : 0 ≤ Z11 56 18 ∧ Z11 56 18 ≤ 385 := hG11.pr 56 18
              refine Jcv0 hx10 (show mx_Sn _ _ 98 (mx_callv 185 4 12 101) from sn_185 98) a56 s56 hc11 rfl rfl rfl ?_
              refine Jiinc (z := w3_4) (cz := (-1)) (ls2 := [some (.ref 56), some (xI 18), some (xI x1), some (xI x2), some (xI (w3_4 + (-1)))]) (show mx_Sn _ _ 101 (mx_iinc 4 (-1) 104) from sn_185 101) rfl rfl rfl rfl ?_
              refine mx_J.step (sn_185 104) (fun _ _ => rfl) ?_
              have b15 : 0 ≤ Z11 56 18 ∧ Z11 56 18 ≤ 385 := hG11.pr 56 18
              exact ih3 (w3_4 + (-1)) Z11 h11 (by omega) (by omega) (by omega) hx11 hG11 (fr_tr (M := [(56, 18), (61, (-1)), (63, (-1))]) (fr_tr (M := [(56, 18), (61, (-1)), (63, (-1))]) (fr_tr (M := [(56, 18), (61, (-1)), (63, (-1))]) fr_rf (hf4) (M1 := []) rfl rfl) (fr_ua hE10) rfl rfl) (hf11) rfl rfl)
        have b16 : 0 ≤ Z 56 18 ∧ Z 56 18 ≤ 385 := hG.pr 56 18
        exact c75 (Int.toNat (k2_0 - 0) + 1) k2_0 Z h (by omega) (by omega) (by omega) hx hG fr_rf
      refine Jicmp_ge (show mx_Sn _ _ 65 (mx_icmp_ge 72 68) from sn_185 65) (by omega) (by omega) (fun q17 => ?_) (fun q17 => ?_)
      · skip
        refine mx_J.step (sn_185 72) (fun _ _ => rfl) ?_
        exact c73 18 (by omega) (by first | exact ⟨rfl, by omega⟩ | exact ⟨WSs (n := 18) (by omega) (by omega), by omega⟩)
      · skip
        refine mx_J.step (sn_185 68) (fun _ _ => rfl) ?_
        refine mx_J.step (sn_185 69) (fun _ _ => rfl) ?_
        exact c73 x1 (by omega) (by first | exact ⟨rfl, by omega⟩ | exact ⟨WSs (n := 18) (by omega) (by omega), by omega⟩)
    · skip
      exfalso; omega
theorem ct_185_56_i18 {l : Launch} {D : va_G} {b0 : Nat} {ad : Nat → Nat} {Hb : Heap} {tau : Nat → Int64} {d n s : Nat} {S : Nat → xS} {Z : xZ} {h : mx_H} (hx : XH n s S Z h) (hG : GB n S Z)  {x1 x2 : Int} (p1 : 0 ≤ x1 ∧ x1 ≤ 18) (p2 : 0 ≤ x2 ∧ x2 ≤ 18) (k0 : Z 56 18 + wy (18 * 19 + x1) ≤ 385) (k1 : x2 + 18 ≤ 18) : ∃ (Z' : xZ) (h' : mx_H), mx_Ca (tB l D b0 ad Hb tau) (d + 19) 185 [.ref 56, xI 18, xI x1, xI x2] h (none, h') ∧ XH n s S Z' h' ∧ GB n S Z' ∧ fr' [(56, 18), (61, (-1)), (63, (-1))] Z Z' ∧ (Z' 56 18 = Z 56 18 + wy (18 * 19 + x1)) := by
  obtain ⟨r, hca, Z', h', e, q⟩ := Jmt (B := tB l D b0 ad Hb tau) (M := mt_185) (mi := 185) (as := [.ref 56, xI 18, xI x1, xI x2]) (d := d + 18) (ls := [some (.ref 56), some (xI 18), some (xI x1), some (xI x2), none]) rfl rfl rfl rfl rfl rfl (cw_185_56_i18 (l := l) (D := D) (b0 := b0) (ad := ad) (Hb := Hb) (tau := tau) (d := d) (Post := fun r => ∃ (Z' : xZ) (h' : mx_H), r = (none, h') ∧ XH n s S Z' h' ∧ GB n S Z' ∧ fr' [(56, 18), (61, (-1)), (63, (-1))] Z Z' ∧ (Z' 56 18 = Z 56 18 + wy (18 * 19 + x1))) hx hG p1 p2 k0 k1 (fun Z' h' q1 q2 q3 q4 => ⟨Z', h', rfl, q1, q2, q3, q4⟩))
  subst e; exact ⟨Z', h', hca, q⟩
theorem ct_185_56_le18 {l : Launch} {D : va_G} {b0 : Nat} {ad : Nat → Nat} {Hb : Heap} {tau : Nat → Int64} {d n s : Nat} {S : Nat → xS} {Z : xZ} {h : mx_H} (hx : XH n s S Z h) (hG : GB n S Z) {x0 x1 x2 : Int} (p0 : 0 ≤ x0 ∧ x0 ≤ 18) (p1 : 0 ≤ x1 ∧ x1 ≤ 18) (p2 : 0 ≤ x2 ∧ x2 ≤ 18) (k0 : Z 56 18 + wy (x0 * 19 + x1) ≤ 385) (k1 : x2 + x0 ≤ 18) : ∃ (Z' : xZ) (h' : mx_H), mx_Ca (tB l D b0 ad Hb tau) (d + 19) 185 [.ref 56, xI x0, xI x1, xI x2] h (none, h') ∧ XH n s S Z' h' ∧ GB n S Z' ∧ fr' [(56, 18), (61, (-1)), (63, (-1))] Z Z' ∧ (Z' 56 18 = Z 56 18 + wy (x0 * 19 + x1)) := by
  have hc : x0 = 0 ∨ x0 = 1 ∨ x0 = 2 ∨ x0 = 3 ∨ x0 = 4 ∨ x0 = 5 ∨ x0 = 6 ∨ x0 = 7 ∨ x0 = 8 ∨ x0 = 9 ∨ x0 = 10 ∨ x0 = 11 ∨ x0 = 12 ∨ x0 = 13 ∨ x0 = 14 ∨ x0 = 15 ∨ x0 = 16 ∨ x0 = 17 ∨ x0 = 18 := by omega
  rcases hc with hc | hc | hc | hc | hc | hc | hc | hc | hc | hc | hc | hc | hc | hc | hc | hc | hc | hc | hc
  · subst hc
    obtain ⟨Z', h', hca, q1, q2, q3, q4⟩ := ct_185_56_i0 (d := d + 18) (l := l) (D := D) (b0 := b0) (ad := ad) (Hb := Hb) (tau := tau) hx hG p1 p2 k0 k1
    exact ⟨Z', h', hca, q1, q2, fr_tr (M1 := []) fr_rf q3 rfl rfl, q4⟩
  · subst hc
    obtain ⟨Z', h', hca, q1, q2, q3, q4⟩ := ct_185_56_i1 (d := d + 17) (l := l) (D := D) (b0 := b0) (ad := ad) (Hb := Hb) (tau := tau) hx hG p1 p2 k0 k1
    exact ⟨Z', h', hca, q1, q2, fr_tr (M1 := []) fr_rf q3 rfl rfl, q4⟩
  · subst hc
    obtain ⟨Z', h', hca, q1, q2, q3, q4⟩ := ct_185_56_i2 (d := d + 16) (l := l) (D := D) (b0 := b0) (ad := ad) (Hb := Hb) (tau := tau) hx hG p1 p2 k0 k1
    exact ⟨Z', h', hca, q1, q2, fr_tr (M1 := []) fr_rf q3 rfl rfl, q4⟩
  · subst hc
    obtain ⟨Z', h', hca, q1, q2, q3, q4⟩ := ct_185_56_i3 (d := d + 15) (l := l) (D := D) (b0 := b0) (ad := ad) (Hb := Hb) (tau := tau) hx hG p1 p2 k0 k1
    exact ⟨Z', h', hca, q1, q2, fr_tr (M1 := []) fr_rf q3 rfl rfl, q4⟩
  · subst hc
    obtain ⟨Z', h', hca, q1, q2, q3, q4⟩ := ct_185_56_i4 (d := d + 14) (l := l) (D := D) (b0 := b0) (ad := ad) (Hb := Hb) (tau := tau) hx hG p1 p2 k0 k1
    exact ⟨Z', h', hca, q1, q2, fr_tr (M1 := []) fr_rf q3 rfl rfl, q4⟩
  · subst hc
    obtain ⟨Z', h', hca, q1, q2, q3, q4⟩ := ct_185_56_i5 (d := d + 13) (l := l) (D := D) (b0 := b0) (ad := ad) (Hb := Hb) (tau := tau) hx hG p1 p2 k0 k1
    exact ⟨Z', h', hca, q1, q2, fr_tr (M1 := []) fr_rf q3 rfl rfl, q4⟩
  · subst hc
    obtain ⟨Z', h', hca, q1, q2, q3, q4⟩ := ct_185_56_i6 (d := d + 12) (l := l) (D := D) (b0 := b0) (ad := ad) (Hb := Hb) (tau := tau) hx hG p1 p2 k0 k1
    exact ⟨Z', h', hca, q1, q2, fr_tr (M1 := []) fr_rf q3 rfl rfl, q4⟩
  · subst hc
    obtain ⟨Z', h', hca, q1, q2, q3, q4⟩ := ct_185_56_i7 (d := d + 11) (l := l) (D := D) (b0 := b0) (ad := ad) (Hb := Hb) (tau := tau) hx hG p1 p2 k0 k1
    exact ⟨Z', h', hca, q1, q2, fr_tr (M1 := []) fr_rf q3 rfl rfl, q4⟩
  · subst hc
    obtain ⟨Z', h', hca, q1, q2, q3, q4⟩ := ct_185_56_i8 (d := d + 10) (l := l) (D := D) (b0 := b0) (ad := ad) (Hb := Hb) (tau := tau) hx hG p1 p2 k0 k1
    exact ⟨Z', h', hca, q1, q2, fr_tr (M1 := []) fr_rf q3 rfl rfl, q4⟩
  · subst hc
    obtain ⟨Z', h', hca, q1, q2, q3, q4⟩ := ct_185_56_i9 (d := d + 9) (l := l) (D := D) (b0 := b0) (ad := ad) (Hb := Hb) (tau := tau) hx hG p1 p2 k0 k1
    exact ⟨Z', h', hca, q1, q2, fr_tr (M1 := []) fr_rf q3 rfl rfl, q4⟩
  · subst hc
    obtain ⟨Z', h', hca, q1, q2, q3, q4⟩ := ct_185_56_i10 (d := d + 8) (l := l) (D := D) (b0 := b0) (ad := ad) (Hb := Hb) (tau := tau) hx hG p1 p2 k0 k1
    exact ⟨Z', h', hca, q1, q2, fr_tr (M1 := []) fr_rf q3 rfl rfl, q4⟩
  · subst hc
    obtain ⟨Z', h', hca, q1, q2, q3, q4⟩ := ct_185_56_i11 (d := d + 7) (l := l) (D := D) (b0 := b0) (ad := ad) (Hb := Hb) (tau := tau) hx hG p1 p2 k0 k1
    exact ⟨Z', h', hca, q1, q2, fr_tr (M1 := []) fr_rf q3 rfl rfl, q4⟩
  · subst hc
    obtain ⟨Z', h', hca, q1, q2, q3, q4⟩ := ct_185_56_i12 (d := d + 6) (l := l) (D := D) (b0 := b0) (ad := ad) (Hb := Hb) (tau := tau) hx hG p1 p2 k0 k1
    exact ⟨Z', h', hca, q1, q2, fr_tr (M1 := []) fr_rf q3 rfl rfl, q4⟩
  · subst hc
    obtain ⟨Z', h', hca, q1, q2, q3, q4⟩ := ct_185_56_i13 (d := d + 5) (l := l) (D := D) (b0 := b0) (ad := ad) (Hb := Hb) (tau := tau) hx hG p1 p2 k0 k1
    exact ⟨Z', h', hca, q1, q2, fr_tr (M1 := []) fr_rf q3 rfl rfl, q4⟩
  · subst hc
    obtain ⟨Z', h', hca, q1, q2, q3, q4⟩ := ct_185_56_i14 (d := d + 4) (l := l) (D := D) (b0 := b0) (ad := ad) (Hb := Hb) (tau := tau) hx hG p1 p2 k0 k1
    exact ⟨Z', h', hca, q1, q2, fr_tr (M1 := []) fr_rf q3 rfl rfl, q4⟩
  · subst hc
    obtain ⟨Z', h', hca, q1, q2, q3, q4⟩ := ct_185_56_i15 (d := d + 3) (l := l) (D := D) (b0 := b0) (ad := ad) (Hb := Hb) (tau := tau) hx hG p1 p2 k0 k1
    exact ⟨Z', h', hca, q1, q2, fr_tr (M1 := []) fr_rf q3 rfl rfl, q4⟩
  · subst hc
    obtain ⟨Z', h', hca, q1, q2, q3, q4⟩ := ct_185_56_i16 (d := d + 2) (l := l) (D := D) (b0 := b0) (ad := ad) (Hb := Hb) (tau := tau) hx hG p1 p2 k0 k1
    exact ⟨Z', h', hca, q1, q2, fr_tr (M1 := []) fr_rf q3 rfl rfl, q4⟩
  · subst hc
    obtain ⟨Z', h', hca, q1, q2, q3, q4⟩ := ct_185_56_i17 (d := d + 1) (l := l) (D := D) (b0 := b0) (ad := ad) (Hb := Hb) (tau := tau) hx hG p1 p2 k0 k1
    exact ⟨Z', h', hca, q1, q2, fr_tr (M1 := []) fr_rf q3 rfl rfl, q4⟩
  · subst hc
    obtain ⟨Z', h', hca, q1, q2, q3, q4⟩ := ct_185_56_i18 (d := d + 0) (l := l) (D := D) (b0 := b0) (ad := ad) (Hb := Hb) (tau := tau) hx hG p1 p2 k0 k1
    exact ⟨Z', h', hca, q1, q2, fr_tr (M1 := []) fr_rf q3 rfl rfl, q4⟩
set_option maxRecDepth 100000 in
theorem cw_184_56 {l : Launch} {D : va_G} {b0 : Nat} {ad : Nat → Nat} {Hb : Heap} {tau : Nat → Int64} {d n s : Nat} {S : Nat → xS} {Z : xZ} {h : mx_H} {Post : mx_R → Prop} (hx : XH n s S Z h) (hG : GB n S Z)   (hP : ∀ (Z' : xZ) (h' : mx_H), XH n s S Z' h' → GB n S Z' → fr' [(56, 18), (61, (-1)), (63, (-1))] Z Z' → Z' 56 18 = wy (Z 57 1 * 19 + Z 57 1) → Post (none, h')) : mx_J (tB l D b0 ad Hb tau) mt_184 (d + 19) 0 [some (.ref 56)] [] h Post := by
    have a56 : 56 < n := lt83 (GB_n hG) rfl
    have s56 : S 56 = .inl (12, [0, 2, 2, 2, 2, 0, 0, 0, 0, 0, 0, 0, 0, 0, 0, 2, 2, 2, 0, 2, 2, 2, 0, 0, 2, 2, 2, 2, 2, 2, 0, 0, 2, 2, 2, 2, 2, 2, 2, 2, 2, 2]) := GB_s hG 56 rfl
    have a57 : 57 < n := lt83 (GB_n hG) rfl
    have s57 : S 57 = .inr (.int, 2886, 0) := GB_s hG 57 rfl
    refine mx_J.step (sn_184 0) (fun _ _ => rfl) ?_
    refine JcI (z := 0) (show mx_Sn _ _ 1 (mx_const (.int 0) 2) from sn_184 1) rfl ?_
    refine JputI (g := 18) hx (show mx_Sn _ _ 2 (mx_putf 1 12 18 (.int) 5) from sn_184 2) a56 s56 rfl rfl rfl rfl (fun Z1 h1 hx1 hE1 => ?_)
    have hG1 := GB_up hG hE1 (show 0 ≤ 0 ∧ 0 ≤ 385 by omega) trivial rfl
    refine mx_J.step (sn_184 5) (fun _ _ => rfl) ?_
    refine mx_J.step (sn_184 6) (fun _ _ => rfl) ?_
    refine JgetR (g := 1) (b := 57) hx1 (show mx_Sn _ _ 7 (mx_getf 12 1 10) from sn_184 7) a56 s56 rfl rfl (hG1.prr 56 1 rfl) ?_
    refine JcI (z := 1) (show mx_Sn _ _ 10 (mx_const (.int 1) 11) from sn_184 10) rfl ?_
    have b3 : 0 ≤ Z 57 1 ∧ Z 57 1 ≤ 18 := by have hq := GB_ex hG 57 1; replace hq : f57 (1 % 962) (Z 57 1) := hq; unfold f57 at hq; omega
    have b4 : (-2147483648) ≤ Z 57 1 ∧ Z 57 1 ≤ 2147483647 := hG.pr 57 1
    refine JialdI (z := Z 57 1) hx1 (show mx_Sn _ _ 11 (mx_iald 12) from sn_184 11) a57 s57 (by omega) (up_nk hE1 rfl) ?_
    have w0 := W0 (n := (Z 57 1)) (by omega)
    refine mx_J.step (sn_184 12) (fun _ _ => rfl) ?_
    refine JgetR (g := 1) (b := 57) hx1 (show mx_Sn _ _ 13 (mx_getf 12 1 16) from sn_184 13) a56 s56 rfl rfl (hG1.prr 56 1 rfl) ?_
    refine JcI (z := 1) (show mx_Sn _ _ 16 (mx_const (.int 1) 17) from sn_184 16) rfl ?_
    have b6 : 0 ≤ Z 57 1 ∧ Z 57 1 ≤ 18 := by have hq := GB_ex hG 57 1; replace hq : f57 (1 % 962) (Z 57 1) := hq; unfold f57 at hq; omega
    have b7 : (-2147483648) ≤ Z 57 1 ∧ Z 57 1 ≤ 2147483647 := hG.pr 57 1
    refine JialdI (z := Z 57 1) hx1 (show mx_Sn _ _ 17 (mx_iald 18) from sn_184 17) a57 s57 (by omega) (up_nk hE1 rfl) ?_
    refine JcI (z := 0) (show mx_Sn _ _ 18 (mx_const (.int 0) 19) from sn_184 18) rfl ?_
    have eq9 : Z1 56 18 = 0 := (up_at hE1)
    obtain ⟨Z8, h8, hc8, hx8, hG8, hf8, b8⟩ := ct_185_56_le18 (d := d + 0) (l := l) (D := D) (b0 := b0) (ad := ad) (Hb := Hb) (tau := tau) hx1 hG1 (show 0 ≤ Z 57 1 ∧ Z 57 1 ≤ 18 by omega) (show 0 ≤ Z 57 1 ∧ Z 57 1 ≤ 18 by omega) (show 0 ≤ 0 ∧ 0 ≤ 18 by omega) (show Z1 56 18 + wy ((Z 57 1) * 19 + (Z 57 1)) ≤ 385 by first | omega | (simp only [eq9]; omega)) (show 0 + (Z 57 1) ≤ 18 by first | omega | (simp only [eq9]; omega))
    try rw [eq9] at b8
    have b10 : 0 ≤ Z8 56 18 ∧ Z8 56 18 ≤ 385 := hG8.pr 56 18
    refine Jcv0 hx1 (show mx_Sn _ _ 19 (mx_callv 185 4 12 22) from sn_184 19) a56 s56 hc8 rfl rfl rfl ?_
    have b11 : 0 ≤ Z8 56 18 ∧ Z8 56 18 ≤ 385 := hG8.pr 56 18
    have eq12 : Z8 57 1 = Z 57 1 := ((hf8 57 1 rfl).trans (up_nk hE1 rfl))
    have b13 : 0 ≤ Z 57 1 ∧ Z 57 1 ≤ 18 := by have hq := GB_ex hG 57 1; replace hq : f57 (1 % 962) (Z 57 1) := hq; unfold f57 at hq; omega
    have b14 : (-2147483648) ≤ Z 57 1 ∧ Z 57 1 ≤ 2147483647 := hG.pr 57 1
    exact mx_J.ret (sn_184 22) (fun _ _ => rfl) (hP Z8 h8 hx8 hG8 (fr_tr (M := [(56, 18), (61, (-1)), (63, (-1))]) (fr_tr (M := [(56, 18), (61, (-1)), (63, (-1))]) fr_rf (fr_up hE1) (M1 := []) rfl rfl) (hf8) rfl rfl) (by omega))
theorem ct_184_56 {l : Launch} {D : va_G} {b0 : Nat} {ad : Nat → Nat} {Hb : Heap} {tau : Nat → Int64} {d n s : Nat} {S : Nat → xS} {Z : xZ} {h : mx_H} (hx : XH n s S Z h) (hG : GB n S Z)   : ∃ (Z' : xZ) (h' : mx_H), mx_Ca (tB l D b0 ad Hb tau) (d + 20) 184 [.ref 56] h (none, h') ∧ XH n s S Z' h' ∧ GB n S Z' ∧ fr' [(56, 18), (61, (-1)), (63, (-1))] Z Z' ∧ (Z' 56 18 = wy (Z 57 1 * 19 + Z 57 1)) := by
  obtain ⟨r, hca, Z', h', e, q⟩ := Jmt (B := tB l D b0 ad Hb tau) (M := mt_184) (mi := 184) (as := [.ref 56]) (d := d + 19) (ls := [some (.ref 56)]) rfl rfl rfl rfl rfl rfl (cw_184_56 (l := l) (D := D) (b0 := b0) (ad := ad) (Hb := Hb) (tau := tau) (d := d) (Post := fun r => ∃ (Z' : xZ) (h' : mx_H), r = (none, h') ∧ XH n s S Z' h' ∧ GB n S Z' ∧ fr' [(56, 18), (61, (-1)), (63, (-1))] Z Z' ∧ (Z' 56 18 = wy (Z 57 1 * 19 + Z 57 1))) hx hG  (fun Z' h' q1 q2 q3 q4 => ⟨Z', h', rfl, q1, q2, q3, q4⟩))
  subst e; exact ⟨Z', h', hca, q⟩
set_option maxRecDepth 100000 in
theorem cw_157_56 {l : Launch} {D : va_G} {b0 : Nat} {ad : Nat → Nat} {Hb : Heap} {tau : Nat → Int64} {d n s : Nat} {S : Nat → xS} {Z : xZ} {h : mx_H} {Post : mx_R → Prop} (hx : XH n s S Z h) (hG : GI n S Z)  {x0 x1 x2 x3 x4 : Int} (p0 : (-2147483648) ≤ x0 ∧ x0 ≤ 2147483647) (p1 : (-2147483648) ≤ x1 ∧ x1 ≤ 2147483647) (p2 : (-2147483648) ≤ x2 ∧ x2 ≤ 2147483647) (p3 : (-2147483648) ≤ x3 ∧ x3 ≤ 2147483647) (p4 : (-2147483648) ≤ x4 ∧ x4 ≤ 2147483647) (hP : ∀ (z : Int) (Z' : xZ) (h' : mx_H), XH n s S Z' h' → GI n S Z' → fr' [(56, 0), (56, 5), (59, (-1))] Z Z' → (-5) ≤ z ∧ z ≤ 900 ∧ ((880 < Z 56 5 → z = -5 ∧ Z' 56 5 = Z 56 5) ∧ (Z 56 5 ≤ 880 → Z' 56 5 = Z 56 5 + 20 ∧ z = Z 56 5 + 20)) → Post (some (xI z), h')) : mx_J (tB l D b0 ad Hb tau) mt_157 (d + 0) 0 [some (.ref 56), some (xI x0), some (xI x1), some (xI x2), some (xI x3), some (xI x4), none, none] [] h Post := by
    have a56 : 56 < n := lt83 (GI_n hG) rfl
    have s56 : S 56 = .inl (12, [0, 2, 2, 2, 2, 0, 0, 0, 0, 0, 0, 0, 0, 0, 0, 2, 2, 2, 0, 2, 2, 2, 0, 0, 2, 2, 2, 2, 2, 2, 0, 0, 2, 2, 2, 2, 2, 2, 2, 2, 2, 2]) := GI_s hG 56 rfl
    have a59 : 59 < n := lt83 (GI_n hG) rfl
    have s59 : S 59 = .inr (.int, 900, 0) := GI_s hG 59 rfl
    refine mx_J.step (sn_157 0) (fun _ _ => rfl) ?_
    refine JcI (z := 0) (show mx_Sn _ _ 1 (mx_const (.int 0) 2) from sn_157 1) rfl ?_
    refine JputI (g := 0) hx (show mx_Sn _ _ 2 (mx_putf 1 12 0 (.int) 5) from sn_157 2) a56 s56 rfl rfl rfl rfl (fun Z1 h1 hx1 hE1 => ?_)
    have hG1 := GI_up hG hE1 (show (-2147483648) ≤ 0 ∧ 0 ≤ 2147483647 by omega) trivial rfl
    refine mx_J.step (sn_157 5) (fun _ _ => rfl) ?_
    have b3 : 0 ≤ Z 56 5 ∧ Z 56 5 ≤ 900 := hG.pr 56 5
    refine JgetI (g := 5) (z := Z 56 5) hx1 (show mx_Sn _ _ 6 (mx_getf 12 5 9) from sn_157 6) a56 s56 rfl rfl (up_ni hE1 (by decide)) ?_
    refine JcI (z := 20) (show mx_Sn _ _ 9 (mx_const (.int 20) 11) from sn_157 9) rfl ?_
    refine Jiadd (show mx_Sn _ _ 11 (mx_iadd 12) from sn_157 11) ?_
    refine JcI (z := 900) (show mx_Sn _ _ 12 (mx_const (.int 900) 15) from sn_157 12) rfl ?_
    refine Jicmp_le (show mx_Sn _ _ 15 (mx_icmp_le 21 18) from sn_157 15) (by omega) (by omega) (fun q4 => ?_) (fun q4 => ?_)
    · skip
      refine JcI (z := 0) (show mx_Sn _ _ 21 (mx_const (.int 0) 22) from sn_157 21) rfl ?_
      refine mx_J.step (ls2 := [some (.ref 56), some (xI x0), some (xI x1), some (xI x2), some (xI x3), some (xI x4), some (xI 0), none]) (sn_157 22) (fun _ _ => rfl) ?_
      have c24 : ∀ (m5 : Nat) (w5_6 : Int) (u5_7 : Option Value) (Z6 : xZ) (h6 : mx_H), 20 - w5_6 < (m5 : Int) → 0 ≤ w5_6 ∧ w5_6 ≤ 20 → (Z6 56 5 = Z 56 5 + w5_6 ∧ Z 56 5 ≤ 880) → XH n s S Z6 h6 → GI n S Z6 → fr' [(56, 5), (59, (-1))] Z1 Z6 → mx_J (tB l D b0 ad Hb tau) mt_157 (d + 0) 24 [some (.ref 56), some (xI x0), some (xI x1), some (xI x2), some (xI x3), some (xI x4), some (xI w5_6), u5_7] [] h6 Post := by
        intro m5
        induction m5 with
        | zero => intro w5_6 u5_7 Z6 h6 q5 f5_0 f5_1 hx6 hG6 hf6; exact absurd q5 (by omega)
        | succ m5 ih5 =>
          intro w5_6 u5_7 Z6 h6 q5 f5_0 f5_1 hx6 hG6 hf6
          have b7 : 0 ≤ Z6 56 5 ∧ Z6 56 5 ≤ 900 := hG6.pr 56 5
          refine mx_J.step (sn_157 24) (fun _ _ => rfl) ?_
          refine JcI (z := 20) (show mx_Sn _ _ 26 (mx_const (.int 20) 28) from sn_157 26) rfl ?_
          refine Jicmp_ge (show mx_Sn _ _ 28 (mx_icmp_ge 121 31) from sn_157 28) (by omega) (by omega) (fun q8 => ?_) (fun q8 => ?_)
          · skip
            refine mx_J.step (sn_157 121) (fun _ _ => rfl) ?_
            have b10 : 0 ≤ Z6 56 5 ∧ Z6 56 5 ≤ 900 := hG6.pr 56 5
            refine JgetI (g := 5) (z := Z6 56 5) hx6 (show mx_Sn _ _ 122 (mx_getf 12 5 125) from sn_157 122) a56 s56 rfl rfl rfl ?_
            have b11 : 0 ≤ Z6 56 5 ∧ Z6 56 5 ≤ 900 := hG6.pr 56 5
            have b12 : 0 ≤ Z6 56 5 ∧ Z6 56 5 ≤ 900 := hG6.pr 56 5
            exact mx_J.ret (sn_157 125) (fun _ _ => rfl) (hP (Z6 56 5) Z6 h6 hx6 hG6 (fr_tr (M := [(56, 0), (56, 5), (59, (-1))]) (fr_tr (M := [(56, 0), (56, 5), (59, (-1))]) fr_rf (fr_up hE1) (M1 := []) rfl rfl) (hf6) rfl rfl) (by omega))
          · skip
            refine mx_J.step (sn_157 31) (fun _ _ => rfl) ?_
            refine JcI (z := 4) (show mx_Sn _ _ 33 (mx_const (.int 4) 34) from sn_157 33) rfl ?_
            have c77 : ∀ (k13_0 : Int), (-2147483648) ≤ k13_0 ∧ k13_0 ≤ 2147483647 → mx_J (tB l D b0 ad Hb tau) mt_157 (d + 0) 77 [some (.ref 56), some (xI x0), some (xI x1), some (xI x2), some (xI x3), some (xI x4), some (xI w5_6), u5_7] [xI k13_0] h6 Post := by
              intro k13_0 f13_0
              refine mx_J.step (ls2 := [some (.ref 56), some (xI x0), some (xI x1), some (xI x2), some (xI x3), some (xI x4), some (xI w5_6), some (xI k13_0)]) (sn_157 77) (fun _ _ => rfl) ?_
              refine mx_J.step (sn_157 79) (fun _ _ => rfl) ?_
              refine JgetR (g := 3) (b := 59) hx6 (show mx_Sn _ _ 80 (mx_getf 12 3 83) from sn_157 80) a56 s56 rfl rfl (hG6.prr 56 3 rfl) ?_
              refine mx_J.step (sn_157 83) (fun _ _ => rfl) ?_
              have b16 : 0 ≤ Z6 56 5 ∧ Z6 56 5 ≤ 900 := hG6.pr 56 5
              refine JgetI (g := 5) (z := Z6 56 5) hx6 (show mx_Sn _ _ 84 (mx_getf 12 5 87) from sn_157 84) a56 s56 rfl rfl rfl ?_
              refine mx_J.step (sn_157 87) (fun _ _ => rfl) ?_
              refine JcI (z := 24) (show mx_Sn _ _ 89 (mx_const (.int 24) 91) from sn_157 89) rfl ?_
              refine JcI (z := 8) (show mx_Sn _ _ 91 (mx_const (.int 8) 93) from sn_157 91) rfl ?_
              refine mx_J.step (sn_157 93) (fun _ _ => rfl) ?_
              refine JcI (z := 4) (show mx_Sn _ _ 95 (mx_const (.int 4) 96) from sn_157 95) rfl ?_
              refine Jirem (show mx_Sn _ _ 96 (mx_irem 97) from sn_157 96) (by omega) (by omega) ?_
              refine Jimul (show mx_Sn _ _ 97 (mx_imul 98) from sn_157 97) ?_
              refine Jisub (show mx_Sn _ _ 98 (mx_isub 99) from sn_157 98) ?_
              refine JishrX (show mx_Sn _ _ 99 (mx_ishr 100) from sn_157 99) (fun y17 hy17 => ?_)
              refine JcI (z := 255) (show mx_Sn _ _ 100 (mx_const (.int 255) 103) from sn_157 100) rfl ?_
              refine JiandM (q := 256) 8 (show mx_Sn _ _ 103 (mx_iand 104) from sn_157 103) rfl rfl rfl ?_
              refine JiastI hx6 (show mx_Sn _ _ 104 (mx_iast 1 105) from sn_157 104) a59 s59 rfl (by omega) (fun Z18 h18 hx18 hE18 => ?_)
              have hG18 := GI_up hG6 hE18 (show 0 ≤ y17 % 256 ∧ y17 % 256 ≤ 255 by omega) trivial rfl
              refine mx_J.step (sn_157 105) (fun _ _ => rfl) ?_
              refine mx_J.step (sn_157 106) (fun _ _ => rfl) ?_
              have b20 : 0 ≤ Z6 56 5 ∧ Z6 56 5 ≤ 900 := hG6.pr 56 5
              refine JgetI (g := 5) (z := Z6 56 5) hx18 (show mx_Sn _ _ 107 (mx_getf 12 5 110) from sn_157 107) a56 s56 rfl rfl (up_nk hE18 rfl) ?_
              refine JcI (z := 1) (show mx_Sn _ _ 110 (mx_const (.int 1) 111) from sn_157 110) rfl ?_
              refine Jiadd (show mx_Sn _ _ 111 (mx_iadd 112) from sn_157 111) ?_
              refine JputI (g := 5) hx18 (show mx_Sn _ _ 112 (mx_putf 1 12 5 (.int) 115) from sn_157 112) a56 s56 rfl rfl rfl rfl (fun Z21 h21 hx21 hE21 => ?_)
              have hG21 := GI_up hG18 hE21 (show 0 ≤ (Z6 56 5) + 1 ∧ (Z6 56 5) + 1 ≤ 900 by omega) trivial rfl
              refine Jiinc (z := w5_6) (cz := 1) (ls2 := [some (.ref 56), some (xI x0), some (xI x1), some (xI x2), some (xI x3), some (xI x4), some (xI (w5_6 + 1)), some (xI k13_0)]) (show mx_Sn _ _ 115 (mx_iinc 6 1 118) from sn_157 115) rfl rfl rfl rfl ?_
              refine mx_J.step (sn_157 118) (fun _ _ => rfl) ?_
              have eq22 : Z21 56 5 = (Z6 56 5) + 1 := (up_at hE21)
              exact ih5 (w5_6 + 1) (some (xI k13_0)) Z21 h21 (by omega) (by omega) (by omega) hx21 hG21 (fr_tr (M := [(56, 5), (59, (-1))]) (fr_tr (M := [(56, 5), (59, (-1))]) (fr_tr (M := [(56, 5), (59, (-1))]) fr_rf (hf6) (M1 := []) rfl rfl) (fr_ua hE18) rfl rfl) (fr_up hE21) rfl rfl)
            refine Jicmp_ge (show mx_Sn _ _ 34 (mx_icmp_ge 41 37) from sn_157 34) (by omega) (by omega) (fun q23 => ?_) (fun q23 => ?_)
            · skip
              refine mx_J.step (sn_157 41) (fun _ _ => rfl) ?_
              refine JcI (z := 8) (show mx_Sn _ _ 43 (mx_const (.int 8) 45) from sn_157 43) rfl ?_
              refine Jicmp_ge (show mx_Sn _ _ 45 (mx_icmp_ge 52 48) from sn_157 45) (by omega) (by omega) (fun q24 => ?_) (fun q24 => ?_)
              · skip
                refine mx_J.step (sn_157 52) (fun _ _ => rfl) ?_
                refine JcI (z := 12) (show mx_Sn _ _ 54 (mx_const (.int 12) 56) from sn_157 54) rfl ?_
                refine Jicmp_ge (show mx_Sn _ _ 56 (mx_icmp_ge 63 59) from sn_157 56) (by omega) (by omega) (fun q25 => ?_) (fun q25 => ?_)
                · skip
                  refine mx_J.step (sn_157 63) (fun _ _ => rfl) ?_
                  refine JcI (z := 16) (show mx_Sn _ _ 65 (mx_const (.int 16) 67) from sn_157 65) rfl ?_
                  refine Jicmp_ge (show mx_Sn _ _ 67 (mx_icmp_ge 75 70) from sn_157 67) (by omega) (by omega) (fun q26 => ?_) (fun q26 => ?_)
                  · skip
                    refine mx_J.step (sn_157 75) (fun _ _ => rfl) ?_
                    exact c77 x4 (by omega)
                  · skip
                    refine mx_J.step (sn_157 70) (fun _ _ => rfl) ?_
                    refine mx_J.step (sn_157 72) (fun _ _ => rfl) ?_
                    exact c77 x3 (by omega)
                · skip
                  refine mx_J.step (sn_157 59) (fun _ _ => rfl) ?_
                  refine mx_J.step (sn_157 60) (fun _ _ => rfl) ?_
                  exact c77 x2 (by omega)
              · skip
                refine mx_J.step (sn_157 48) (fun _ _ => rfl) ?_
                refine mx_J.step (sn_157 49) (fun _ _ => rfl) ?_
                exact c77 x1 (by omega)
            · skip
              refine mx_J.step (sn_157 37) (fun _ _ => rfl) ?_
              refine mx_J.step (sn_157 38) (fun _ _ => rfl) ?_
              exact c77 x0 (by omega)
      have eq27 : Z1 56 5 = Z 56 5 := (up_ni hE1 (by decide))
      have b28 : 0 ≤ Z 56 5 ∧ Z 56 5 ≤ 900 := hG.pr 56 5
      exact c24 (Int.toNat (20 - 0) + 1) 0 none Z1 h1 (by omega) (by omega) (by omega) hx1 hG1 fr_rf
    · skip
      refine JcI (z := (-5)) (show mx_Sn _ _ 18 (mx_const (.int (-5)) 20) from sn_157 18) rfl ?_
      have eq29 : Z1 56 5 = Z 56 5 := (up_ni hE1 (by decide))
      have b30 : 0 ≤ Z 56 5 ∧ Z 56 5 ≤ 900 := hG.pr 56 5
      have eq31 : Z1 56 5 = Z 56 5 := (up_ni hE1 (by decide))
      have b32 : 0 ≤ Z 56 5 ∧ Z 56 5 ≤ 900 := hG.pr 56 5
      exact mx_J.ret (sn_157 20) (fun _ _ => rfl) (hP (-5) Z1 h1 hx1 hG1 (fr_tr (M := [(56, 0), (56, 5), (59, (-1))]) fr_rf (fr_up hE1) (M1 := []) rfl rfl) (by omega))
theorem ct_157_56 {l : Launch} {D : va_G} {b0 : Nat} {ad : Nat → Nat} {Hb : Heap} {tau : Nat → Int64} {d n s : Nat} {S : Nat → xS} {Z : xZ} {h : mx_H} (hx : XH n s S Z h) (hG : GI n S Z)  {x0 x1 x2 x3 x4 : Int} (p0 : (-2147483648) ≤ x0 ∧ x0 ≤ 2147483647) (p1 : (-2147483648) ≤ x1 ∧ x1 ≤ 2147483647) (p2 : (-2147483648) ≤ x2 ∧ x2 ≤ 2147483647) (p3 : (-2147483648) ≤ x3 ∧ x3 ≤ 2147483647) (p4 : (-2147483648) ≤ x4 ∧ x4 ≤ 2147483647) : ∃ (z : Int) (Z' : xZ) (h' : mx_H), mx_Ca (tB l D b0 ad Hb tau) (d + 1) 157 [.ref 56, xI x0, xI x1, xI x2, xI x3, xI x4] h (some (xI z), h') ∧ XH n s S Z' h' ∧ GI n S Z' ∧ fr' [(56, 0), (56, 5), (59, (-1))] Z Z' ∧ ((-5) ≤ z ∧ z ≤ 900 ∧ ((880 < Z 56 5 → z = -5 ∧ Z' 56 5 = Z 56 5) ∧ (Z 56 5 ≤ 880 → Z' 56 5 = Z 56 5 + 20 ∧ z = Z 56 5 + 20))) := by
  obtain ⟨r, hca, z, Z', h', e, q⟩ := Jmt (B := tB l D b0 ad Hb tau) (M := mt_157) (mi := 157) (as := [.ref 56, xI x0, xI x1, xI x2, xI x3, xI x4]) (d := d + 0) (ls := [some (.ref 56), some (xI x0), some (xI x1), some (xI x2), some (xI x3), some (xI x4), none, none]) rfl rfl rfl rfl rfl rfl (cw_157_56 (l := l) (D := D) (b0 := b0) (ad := ad) (Hb := Hb) (tau := tau) (d := d) (Post := fun r => ∃ (z : Int) (Z' : xZ) (h' : mx_H), r = (some (xI z), h') ∧ XH n s S Z' h' ∧ GI n S Z' ∧ fr' [(56, 0), (56, 5), (59, (-1))] Z Z' ∧ ((-5) ≤ z ∧ z ≤ 900 ∧ ((880 < Z 56 5 → z = -5 ∧ Z' 56 5 = Z 56 5) ∧ (Z 56 5 ≤ 880 → Z' 56 5 = Z 56 5 + 20 ∧ z = Z 56 5 + 20)))) hx hG p0 p1 p2 p3 p4 (fun z Z' h' q1 q2 q3 q4 => ⟨z, Z', h', rfl, q1, q2, q3, q4⟩))
  subst e; exact ⟨z, Z', h', hca, q⟩
set_option maxRecDepth 100000 in
theorem cw_281_56 {l : Launch} {D : va_G} {b0 : Nat} {ad : Nat → Nat} {Hb : Heap} {tau : Nat → Int64} {d n s : Nat} {S : Nat → xS} {Z : xZ} {h : mx_H} {Post : mx_R → Prop} (hx : XH n s S Z h) (hG : GI n S Z)  {x0 : Int} (p0 : (-2147483648) ≤ x0 ∧ x0 ≤ 2147483647) (hP : ∀ (z : Int) (Z' : xZ) (h' : mx_H), XH n s S Z' h' → GI n S Z' → fr' [(56, 0), (57, (-1)), (58, (-1))] Z Z' → (-2) ≤ z ∧ z ≤ 0 ∧ (((x0 < 0 ∨ 1 < x0) → z = -2) ∧ (¬ (x0 < 0 ∨ 1 < x0) → z = 0) ∧ (¬ x0 = 0 → Z' 58 0 = Z 58 0) ∧ (¬ x0 = 1 → Z' 58 1 = Z 58 1) ∧ (x0 = 0 → Z' 58 0 = 1) ∧ (x0 = 1 → Z' 58 1 = 1)) → Post (some (xI z), h')) : mx_J (tB l D b0 ad Hb tau) mt_281 (d + 1) 0 [some (.ref 56), some (xI x0), none] [] h Post := by
    have a56 : 56 < n := lt83 (GI_n hG) rfl
    have s56 : S 56 = .inl (12, [0, 2, 2, 2, 2, 0, 0, 0, 0, 0, 0, 0, 0, 0, 0, 2, 2, 2, 0, 2, 2, 2, 0, 0, 2, 2, 2, 2, 2, 2, 0, 0, 2, 2, 2, 2, 2, 2, 2, 2, 2, 2]) := GI_s hG 56 rfl
    have a57 : 57 < n := lt83 (GI_n hG) rfl
    have s57 : S 57 = .inr (.int, 2886, 0) := GI_s hG 57 rfl
    have a58 : 58 < n := lt83 (GI_n hG) rfl
    have s58 : S 58 = .inr (.boolean, 2, 0) := GI_s hG 58 rfl
    refine mx_J.step (sn_281 0) (fun _ _ => rfl) ?_
    refine JcI (z := 0) (show mx_Sn _ _ 1 (mx_const (.int 0) 2) from sn_281 1) rfl ?_
    refine JputI (g := 0) hx (show mx_Sn _ _ 2 (mx_putf 1 12 0 (.int) 5) from sn_281 2) a56 s56 rfl rfl rfl rfl (fun Z1 h1 hx1 hE1 => ?_)
    have hG1 := GI_up hG hE1 (show (-2147483648) ≤ 0 ∧ 0 ≤ 2147483647 by omega) trivial rfl
    refine mx_J.step (sn_281 5) (fun _ _ => rfl) ?_
    refine Ji2l (show mx_Sn _ _ 6 (mx_i2l 7) from sn_281 6) (by omega) ?_
    refine JcL (z := 0) (show mx_Sn _ _ 7 (mx_const (.long 0) 8) from sn_281 7) rfl ?_
    refine JcL (z := 1) (show mx_Sn _ _ 8 (mx_const (.long 1) 9) from sn_281 8) rfl ?_
    obtain ⟨z2, hc2, b2⟩ := ct_154_ (d := d + 0) (l := l) (D := D) (b0 := b0) (ad := ad) (Hb := Hb) (tau := tau) hx1 hG1 (show (-9223372036854775808) ≤ x0 ∧ x0 ≤ 9223372036854775807 by omega) (show (-9223372036854775808) ≤ 0 ∧ 0 ≤ 9223372036854775807 by omega) (show (-9223372036854775808) ≤ 1 ∧ 1 ≤ 9223372036854775807 by omega)
    refine Jcs (show mx_Sn _ _ 9 (mx_calls 154 3 12) from sn_281 9) hc2 rfl rfl rfl ?_
    refine Jif_ne (show mx_Sn _ _ 12 (mx_if_ne 18 15) from sn_281 12) (by omega) (fun q3 => ?_) (fun q3 => ?_)
    · skip
      have hGo : GI n S Z1 := hG1
      have hG1 := GI_gb hGo
      refine JcI (z := 0) (show mx_Sn _ _ 18 (mx_const (.int 0) 19) from sn_281 18) rfl ?_
      refine mx_J.step (ls2 := [some (.ref 56), some (xI x0), some (xI 0)]) (sn_281 19) (fun _ _ => rfl) ?_
      have c20 : ∀ (m4 : Nat) (w4_2 : Int) (Z5 : xZ) (h5 : mx_H), 962 - w4_2 < (m4 : Int) → 0 ≤ w4_2 ∧ w4_2 ≤ 962 → CP Z5 Z1 (962 * (x0 + 1)) w4_2 → XH n s S Z5 h5 → GB n S Z5 → fr' [(57, (-1))] Z1 Z5 → mx_J (tB l D b0 ad Hb tau) mt_281 (d + 1) 20 [some (.ref 56), some (xI x0), some (xI w4_2)] [] h5 Post := by
        intro m4
        induction m4 with
        | zero => intro w4_2 Z5 h5 q4 f4_0 f4_1 hx5 hG5 hf5; exact absurd q4 (by omega)
        | succ m4 ih4 =>
          intro w4_2 Z5 h5 q4 f4_0 f4_1 hx5 hG5 hf5
          refine mx_J.step (sn_281 20) (fun _ _ => rfl) ?_
          refine JcI (z := 962) (show mx_Sn _ _ 21 (mx_const (.int 962) 24) from sn_281 21) rfl ?_
          refine Jicmp_ge (show mx_Sn _ _ 24 (mx_icmp_ge 53 27) from sn_281 24) (by omega) (by omega) (fun q6 => ?_) (fun q6 => ?_)
          · skip
            have cz : CP Z5 Z1 (962 * (x0 + 1)) 962 := (show w4_2 = (962 : Int) by omega) ▸ (by assumption : CP Z5 Z1 (962 * (x0 + 1)) w4_2)
            refine mx_J.step (sn_281 53) (fun _ _ => rfl) ?_
            refine JgetR (g := 2) (b := 58) hx5 (show mx_Sn _ _ 54 (mx_getf 12 2 57) from sn_281 54) a56 s56 rfl rfl (hG5.prr 56 2 rfl) ?_
            refine mx_J.step (sn_281 57) (fun _ _ => rfl) ?_
            refine JcI (z := 1) (show mx_Sn _ _ 58 (mx_const (.int 1) 59) from sn_281 58) rfl ?_
            have eq8 : Z5 58 0 = Z 58 0 := ((hf5 58 0 rfl).trans (up_nk hE1 rfl))
            have b9 : 0 ≤ Z 58 0 ∧ Z 58 0 ≤ 1 := (GI_gb hG).pr 58 0
            have eq10 : Z5 58 1 = Z 58 1 := ((hf5 58 1 rfl).trans (up_nk hE1 rfl))
            have b11 : 0 ≤ Z 58 1 ∧ Z 58 1 ≤ 1 := (GI_gb hG).pr 58 1
            refine JzastI hx5 (show mx_Sn _ _ 59 (mx_zast 1 60) from sn_281 59) a58 s58 rfl (by omega) (by omega) (fun Z12 h12 hx12 hE12 => ?_)
            have hG12 := GB_up hG5 hE12 (show 0 ≤ 1 ∧ 1 ≤ 1 by omega) trivial rfl
            have i0 : x0 = 0 → Z12 58 0 = 1 := fun e => by have q := up_at hE12; rw [e] at q; exact q
            have i1 : x0 = 1 → Z12 58 1 = 1 := fun e => by have q := up_at hE12; rw [e] at q; exact q
            have j0 : ¬ x0 = 0 → Z12 58 0 = Z5 58 0 := fun e => up_ni hE12 (fun q => e q.symm)
            have j1 : ¬ x0 = 1 → Z12 58 1 = Z5 58 1 := fun e => up_ni hE12 (fun q => e q.symm)
            have eq13 : Z1 58 0 = Z 58 0 := (up_nk hE1 rfl)
            have b14 : 0 ≤ Z 58 0 ∧ Z 58 0 ≤ 1 := (GI_gb hG).pr 58 0
            have eq15 : Z1 58 1 = Z 58 1 := (up_nk hE1 rfl)
            have b16 : 0 ≤ Z 58 1 ∧ Z 58 1 ≤ 1 := (GI_gb hG).pr 58 1
            have hGx17 : GI n S Z12 := ⟨hG12, im_fin hGo (off := 962 * (x0 + 1)) (by omega) (cp_c cz (fun i => up_nk hE12 rfl)) ((fr_tr (M := [(56, 0), (57, (-1)), (58, (-1))]) (fr_tr (M := [(56, 0), (57, (-1)), (58, (-1))]) fr_rf (hf5) (M1 := []) rfl rfl) (fr_ua hE12) rfl rfl) 7 5 rfl) (fun i => (fr_tr (M := [(56, 0), (57, (-1)), (58, (-1))]) (fr_tr (M := [(56, 0), (57, (-1)), (58, (-1))]) fr_rf (hf5) (M1 := []) rfl rfl) (fr_ua hE12) rfl rfl) 9 i rfl) (fun i => (fr_tr (M := [(56, 0), (57, (-1)), (58, (-1))]) (fr_tr (M := [(56, 0), (57, (-1)), (58, (-1))]) fr_rf (hf5) (M1 := []) rfl rfl) (fr_ua hE12) rfl rfl) 10 i rfl) ((fr_tr (M := [(56, 0), (57, (-1)), (58, (-1))]) (fr_tr (M := [(56, 0), (57, (-1)), (58, (-1))]) fr_rf (hf5) (M1 := []) rfl rfl) (fr_ua hE12) rfl rfl) 56 18 rfl)⟩
            have hG12 := hGx17
            refine JcI (z := 0) (show mx_Sn _ _ 60 (mx_const (.int 0) 61) from sn_281 60) rfl ?_
            have b18 : 0 ≤ Z12 58 0 ∧ Z12 58 0 ≤ 1 := hG12.pr 58 0
            have b19 : 0 ≤ Z12 58 1 ∧ Z12 58 1 ≤ 1 := hG12.pr 58 1
            have b20 : 0 ≤ Z12 58 0 ∧ Z12 58 0 ≤ 1 := hG12.pr 58 0
            have b21 : 0 ≤ Z12 58 1 ∧ Z12 58 1 ≤ 1 := hG12.pr 58 1
            exact mx_J.ret (sn_281 61) (fun _ _ => rfl) (hP 0 Z12 h12 hx12 hG12 (fr_tr (M := [(56, 0), (57, (-1)), (58, (-1))]) (fr_tr (M := [(56, 0), (57, (-1)), (58, (-1))]) (fr_tr (M := [(56, 0), (57, (-1)), (58, (-1))]) fr_rf (fr_up hE1) (M1 := []) rfl rfl) (hf5) rfl rfl) (fr_ua hE12) rfl rfl) (by omega))
          · skip
            refine mx_J.step (sn_281 27) (fun _ _ => rfl) ?_
            refine JgetR (g := 1) (b := 57) hx5 (show mx_Sn _ _ 28 (mx_getf 12 1 31) from sn_281 28) a56 s56 rfl rfl (hG5.prr 56 1 rfl) ?_
            refine JcI (z := 962) (show mx_Sn _ _ 31 (mx_const (.int 962) 34) from sn_281 31) rfl ?_
            refine mx_J.step (sn_281 34) (fun _ _ => rfl) ?_
            refine JcI (z := 1) (show mx_Sn _ _ 35 (mx_const (.int 1) 36) from sn_281 35) rfl ?_
            refine Jiadd (show mx_Sn _ _ 36 (mx_iadd 37) from sn_281 36) ?_
            refine Jimul (show mx_Sn _ _ 37 (mx_imul 38) from sn_281 37) ?_
            refine mx_J.step (sn_281 38) (fun _ _ => rfl) ?_
            refine Jiadd (show mx_Sn _ _ 39 (mx_iadd 40) from sn_281 39) ?_
            refine mx_J.step (sn_281 40) (fun _ _ => rfl) ?_
            refine JgetR (g := 1) (b := 57) hx5 (show mx_Sn _ _ 41 (mx_getf 12 1 44) from sn_281 41) a56 s56 rfl rfl (hG5.prr 56 1 rfl) ?_
            refine mx_J.step (sn_281 44) (fun _ _ => rfl) ?_
            have b24 : f57 ((w4_2) % 962) (Z5 57 w4_2) := GB_ex hG5 57 w4_2
            have b25 : (-2147483648) ≤ Z5 57 w4_2 ∧ Z5 57 w4_2 ≤ 2147483647 := hG5.pr 57 w4_2
            refine JialdI (z := Z5 57 w4_2) hx5 (show mx_Sn _ _ 45 (mx_iald 46) from sn_281 45) a57 s57 (by omega) rfl ?_
            refine JiastI hx5 (show mx_Sn _ _ 46 (mx_iast 1 47) from sn_281 46) a57 s57 rfl (by omega) (fun Z26 h26 hx26 hE26 => ?_)
            have hG26 := GB_up hG5 hE26 (show (-2147483648) ≤ Z5 57 w4_2 ∧ Z5 57 w4_2 ≤ 2147483647 by omega) (show f57 (((962 * (x0 + 1)) + w4_2) % 962) (Z5 57 w4_2) by first | (have hq := GB_ex hG5 57 w4_2; replace hq : f57 (w4_2 % 962) (Z5 57 w4_2) := hq; rw [Int.emod_eq_of_lt (a := w4_2) (by omega) (by omega)] at hq; rw [Int.emod_eq_of_lt (a := (962 * (x0 + 1)) + w4_2) (by omega) (by omega)]; unfold f57 at hq; unfold f57; omega) | (rw [Int.emod_eq_of_lt (by omega) (by omega)]; unfold f57; omega) | (rw [show (962 * (x0 + 1) + w4_2) % 962 = w4_2 % 962 by omega]; assumption) | assumption | (unfold f57; omega) | (unfold f57 at *; omega)) rfl
            have cs : CP Z26 Z1 (962 * (x0 + 1)) (w4_2 + 1) := cp_s (by assumption) hE26 rfl rfl (by omega)
            refine Jiinc (z := w4_2) (cz := 1) (ls2 := [some (.ref 56), some (xI x0), some (xI (w4_2 + 1))]) (show mx_Sn _ _ 47 (mx_iinc 2 1 50) from sn_281 47) rfl rfl rfl rfl ?_
            refine mx_J.step (sn_281 50) (fun _ _ => rfl) ?_
            exact ih4 (w4_2 + 1) Z26 h26 (by omega) (by omega) (by first | exact cp_0 | assumption) hx26 hG26 (fr_tr (M := [(57, (-1))]) (fr_tr (M := [(57, (-1))]) fr_rf (hf5) (M1 := []) rfl rfl) (fr_ua hE26) rfl rfl)
      exact c20 (Int.toNat (962 - 0) + 1) 0 Z1 h1 (by omega) (by omega) (by first | exact cp_0 | assumption) hx1 hG1 fr_rf
    · skip
      refine JcI (z := (-2)) (show mx_Sn _ _ 15 (mx_const (.int (-2)) 17) from sn_281 15) rfl ?_
      have eq27 : Z1 58 0 = Z 58 0 := (up_nk hE1 rfl)
      have b28 : 0 ≤ Z 58 0 ∧ Z 58 0 ≤ 1 := hG.pr 58 0
      have eq29 : Z1 58 1 = Z 58 1 := (up_nk hE1 rfl)
      have b30 : 0 ≤ Z 58 1 ∧ Z 58 1 ≤ 1 := hG.pr 58 1
      have eq31 : Z1 58 0 = Z 58 0 := (up_nk hE1 rfl)
      have b32 : 0 ≤ Z 58 0 ∧ Z 58 0 ≤ 1 := hG.pr 58 0
      have eq33 : Z1 58 1 = Z 58 1 := (up_nk hE1 rfl)
      have b34 : 0 ≤ Z 58 1 ∧ Z 58 1 ≤ 1 := hG.pr 58 1
      exact mx_J.ret (sn_281 17) (fun _ _ => rfl) (hP (-2) Z1 h1 hx1 hG1 (fr_tr (M := [(56, 0), (57, (-1)), (58, (-1))]) fr_rf (fr_up hE1) (M1 := []) rfl rfl) (by omega))
theorem ct_281_56 {l : Launch} {D : va_G} {b0 : Nat} {ad : Nat → Nat} {Hb : Heap} {tau : Nat → Int64} {d n s : Nat} {S : Nat → xS} {Z : xZ} {h : mx_H} (hx : XH n s S Z h) (hG : GI n S Z)  {x0 : Int} (p0 : (-2147483648) ≤ x0 ∧ x0 ≤ 2147483647) : ∃ (z : Int) (Z' : xZ) (h' : mx_H), mx_Ca (tB l D b0 ad Hb tau) (d + 2) 281 [.ref 56, xI x0] h (some (xI z), h') ∧ XH n s S Z' h' ∧ GI n S Z' ∧ fr' [(56, 0), (57, (-1)), (58, (-1))] Z Z' ∧ ((-2) ≤ z ∧ z ≤ 0 ∧ (((x0 < 0 ∨ 1 < x0) → z = -2) ∧ (¬ (x0 < 0 ∨ 1 < x0) → z = 0) ∧ (¬ x0 = 0 → Z' 58 0 = Z 58 0) ∧ (¬ x0 = 1 → Z' 58 1 = Z 58 1) ∧ (x0 = 0 → Z' 58 0 = 1) ∧ (x0 = 1 → Z' 58 1 = 1))) := by
  obtain ⟨r, hca, z, Z', h', e, q⟩ := Jmt (B := tB l D b0 ad Hb tau) (M := mt_281) (mi := 281) (as := [.ref 56, xI x0]) (d := d + 1) (ls := [some (.ref 56), some (xI x0), none]) rfl rfl rfl rfl rfl rfl (cw_281_56 (l := l) (D := D) (b0 := b0) (ad := ad) (Hb := Hb) (tau := tau) (d := d) (Post := fun r => ∃ (z : Int) (Z' : xZ) (h' : mx_H), r = (some (xI z), h') ∧ XH n s S Z' h' ∧ GI n S Z' ∧ fr' [(56, 0), (57, (-1)), (58, (-1))] Z Z' ∧ ((-2) ≤ z ∧ z ≤ 0 ∧ (((x0 < 0 ∨ 1 < x0) → z = -2) ∧ (¬ (x0 < 0 ∨ 1 < x0) → z = 0) ∧ (¬ x0 = 0 → Z' 58 0 = Z 58 0) ∧ (¬ x0 = 1 → Z' 58 1 = Z 58 1) ∧ (x0 = 0 → Z' 58 0 = 1) ∧ (x0 = 1 → Z' 58 1 = 1)))) hx hG p0 (fun z Z' h' q1 q2 q3 q4 => ⟨z, Z', h', rfl, q1, q2, q3, q4⟩))
  subst e; exact ⟨z, Z', h', hca, q⟩
set_option maxRecDepth 100000 in
theorem cw_282_56 {l : Launch} {D : va_G} {b0 : Nat} {ad : Nat → Nat} {Hb : Heap} {tau : Nat → Int64} {d n s : Nat} {S : Nat → xS} {Z : xZ} {h : mx_H} {Post : mx_R → Prop} (hx : XH n s S Z h) (hG : GI n S Z)  {x0 : Int} (p0 : (-2147483648) ≤ x0 ∧ x0 ≤ 2147483647) (hP : ∀ (z : Int) (Z' : xZ) (h' : mx_H), XH n s S Z' h' → GI n S Z' → fr' [(56, 0), (56, 18), (57, (-1)), (61, (-1)), (63, (-1))] Z Z' → (-5) ≤ z ∧ z ≤ 0 ∧ (((x0 < 0 ∨ 1 < x0) → z = -2) ∧ (x0 = 0 → (Z 58 0 = 0 → z = -5) ∧ (¬ Z 58 0 = 0 → z = 0)) ∧ (x0 = 1 → (Z 58 1 = 0 → z = -5) ∧ (¬ Z 58 1 = 0 → z = 0))) → Post (some (xI z), h')) : mx_J (tB l D b0 ad Hb tau) mt_282 (d + 20) 0 [some (.ref 56), some (xI x0), none] [] h Post := by
    have a56 : 56 < n := lt83 (GI_n hG) rfl
    have s56 : S 56 = .inl (12, [0, 2, 2, 2, 2, 0, 0, 0, 0, 0, 0, 0, 0, 0, 0, 2, 2, 2, 0, 2, 2, 2, 0, 0, 2, 2, 2, 2, 2, 2, 0, 0, 2, 2, 2, 2, 2, 2, 2, 2, 2, 2]) := GI_s hG 56 rfl
    have a57 : 57 < n := lt83 (GI_n hG) rfl
    have s57 : S 57 = .inr (.int, 2886, 0) := GI_s hG 57 rfl
    have a58 : 58 < n := lt83 (GI_n hG) rfl
    have s58 : S 58 = .inr (.boolean, 2, 0) := GI_s hG 58 rfl
    refine mx_J.step (sn_282 0) (fun _ _ => rfl) ?_
    refine JcI (z := 0) (show mx_Sn _ _ 1 (mx_const (.int 0) 2) from sn_282 1) rfl ?_
    refine JputI (g := 0) hx (show mx_Sn _ _ 2 (mx_putf 1 12 0 (.int) 5) from sn_282 2) a56 s56 rfl rfl rfl rfl (fun Z1 h1 hx1 hE1 => ?_)
    have hG1 := GI_up hG hE1 (show (-2147483648) ≤ 0 ∧ 0 ≤ 2147483647 by omega) trivial rfl
    refine mx_J.step (sn_282 5) (fun _ _ => rfl) ?_
    refine Ji2l (show mx_Sn _ _ 6 (mx_i2l 7) from sn_282 6) (by omega) ?_
    refine JcL (z := 0) (show mx_Sn _ _ 7 (mx_const (.long 0) 8) from sn_282 7) rfl ?_
    refine JcL (z := 1) (show mx_Sn _ _ 8 (mx_const (.long 1) 9) from sn_282 8) rfl ?_
    obtain ⟨z2, hc2, b2⟩ := ct_154_ (d := d + 19) (l := l) (D := D) (b0 := b0) (ad := ad) (Hb := Hb) (tau := tau) hx1 hG1 (show (-9223372036854775808) ≤ x0 ∧ x0 ≤ 9223372036854775807 by omega) (show (-9223372036854775808) ≤ 0 ∧ 0 ≤ 9223372036854775807 by omega) (show (-9223372036854775808) ≤ 1 ∧ 1 ≤ 9223372036854775807 by omega)
    refine Jcs (show mx_Sn _ _ 9 (mx_calls 154 3 12) from sn_282 9) hc2 rfl rfl rfl ?_
    refine Jif_ne (show mx_Sn _ _ 12 (mx_if_ne 18 15) from sn_282 12) (by omega) (fun q3 => ?_) (fun q3 => ?_)
    · skip
      refine mx_J.step (sn_282 18) (fun _ _ => rfl) ?_
      refine JgetR (g := 2) (b := 58) hx1 (show mx_Sn _ _ 19 (mx_getf 12 2 22) from sn_282 19) a56 s56 rfl rfl (hG1.prr 56 2 rfl) ?_
      refine mx_J.step (sn_282 22) (fun _ _ => rfl) ?_
      have b5 : 0 ≤ Z 58 x0 ∧ Z 58 x0 ≤ 1 := hG.pr 58 x0
      refine JzaldI (z := Z 58 x0) hx1 (show mx_Sn _ _ 23 (mx_zald 24) from sn_282 23) a58 s58 (by omega) (up_nk hE1 rfl) ?_
      have r0 : x0 = 0 → (Z 58 x0) = (Z 58 0) := fun e => by rw [e]
      have r1 : x0 = 1 → (Z 58 x0) = (Z 58 1) := fun e => by rw [e]
      refine Jif_ne (show mx_Sn _ _ 24 (mx_if_ne 30 27) from sn_282 24) (by omega) (fun q6 => ?_) (fun q6 => ?_)
      · skip
        have hGo : GI n S Z1 := hG1
        have hG1 := GI_gb hGo
        refine JcI (z := 0) (show mx_Sn _ _ 30 (mx_const (.int 0) 31) from sn_282 30) rfl ?_
        refine mx_J.step (ls2 := [some (.ref 56), some (xI x0), some (xI 0)]) (sn_282 31) (fun _ _ => rfl) ?_
        have c32 : ∀ (m7 : Nat) (w7_2 : Int) (Z8 : xZ) (h8 : mx_H), 962 - w7_2 < (m7 : Int) → 0 ≤ w7_2 ∧ w7_2 ≤ 962 → CR Z8 Z1 (962 * (x0 + 1)) w7_2 → XH n s S Z8 h8 → GB n S Z8 → fr' [(57, (-1))] Z1 Z8 → mx_J (tB l D b0 ad Hb tau) mt_282 (d + 20) 32 [some (.ref 56), some (xI x0), some (xI w7_2)] [] h8 Post := by
          intro m7
          induction m7 with
          | zero => intro w7_2 Z8 h8 q7 f7_0 f7_1 hx8 hG8 hf8; exact absurd q7 (by omega)
          | succ m7 ih7 =>
            intro w7_2 Z8 h8 q7 f7_0 f7_1 hx8 hG8 hf8
            refine mx_J.step (sn_282 32) (fun _ _ => rfl) ?_
            refine JcI (z := 962) (show mx_Sn _ _ 33 (mx_const (.int 962) 36) from sn_282 33) rfl ?_
            refine Jicmp_ge (show mx_Sn _ _ 36 (mx_icmp_ge 65 39) from sn_282 36) (by omega) (by omega) (fun q9 => ?_) (fun q9 => ?_)
            · skip
              have cz : CR Z8 Z1 (962 * (x0 + 1)) 962 := (show w7_2 = (962 : Int) by omega) ▸ (by assumption : CR Z8 Z1 (962 * (x0 + 1)) w7_2)
              refine mx_J.step (sn_282 65) (fun _ _ => rfl) ?_
              refine JgetR (g := 1) (b := 57) hx8 (show mx_Sn _ _ 66 (mx_getf 12 1 69) from sn_282 66) a56 s56 rfl rfl (hG8.prr 56 1 rfl) ?_
              refine JcI (z := 30) (show mx_Sn _ _ 69 (mx_const (.int 30) 71) from sn_282 69) rfl ?_
              refine JcI (z := 0) (show mx_Sn _ _ 71 (mx_const (.int 0) 72) from sn_282 71) rfl ?_
              refine JiastI hx8 (show mx_Sn _ _ 72 (mx_iast 1 73) from sn_282 72) a57 s57 rfl (by omega) (fun Z11 h11 hx11 hE11 => ?_)
              have hG11 := GB_up hG8 hE11 (show (-2147483648) ≤ 0 ∧ 0 ≤ 2147483647 by omega) (show f57 ((30) % 962) (0) by first | assumption | (unfold f57; omega) | (unfold f57 at *; omega)) rfl
              have c30 : ∀ i, ¬ i = 30 → Z11 57 i = Z8 57 i := fun i hi => up_ni hE11 hi
              refine mx_J.step (sn_282 73) (fun _ _ => rfl) ?_
              have eq13 : Z11 57 1 = Z8 57 1 := (up_ni hE11 (by decide))
              have b14 : 0 ≤ Z8 57 1 ∧ Z8 57 1 ≤ 18 := by have hq := GB_ex hG8 57 1; replace hq : f57 (1 % 962) (Z8 57 1) := hq; unfold f57 at hq; omega
              have b15 : (-2147483648) ≤ Z8 57 1 ∧ Z8 57 1 ≤ 2147483647 := hG8.pr 57 1
              obtain ⟨Z12, h12, hc12, hx12, hG12, hf12, b12⟩ := ct_184_56 (d := d + 0) (l := l) (D := D) (b0 := b0) (ad := ad) (Hb := Hb) (tau := tau) hx11 hG11 
              try rw [eq13] at b12
              have b16 : 0 ≤ Z12 56 18 ∧ Z12 56 18 ≤ 385 := hG12.pr 56 18
              refine Jcv0 hx11 (show mx_Sn _ _ 74 (mx_callv 184 1 12 77) from sn_282 74) a56 s56 hc12 rfl rfl rfl ?_
              have eq17 : Z12 57 1 = Z8 57 1 := ((hf12 57 1 rfl).trans (up_ni hE11 (by decide)))
              have b18 : 0 ≤ Z8 57 1 ∧ Z8 57 1 ≤ 18 := by have hq := GB_ex hG8 57 1; replace hq : f57 (1 % 962) (Z8 57 1) := hq; unfold f57 at hq; omega
              have b19 : (-2147483648) ≤ Z8 57 1 ∧ Z8 57 1 ≤ 2147483647 := hG8.pr 57 1
              have hGx20 : GI n S Z12 := ⟨hG12, re_fin hGo (off := 962 * (x0 + 1)) (by omega) cz (fun i hi => (hf12 57 i rfl).trans (c30 i hi)) ((fr_tr (M := [(56, 0), (56, 18), (57, (-1)), (61, (-1)), (63, (-1))]) (fr_tr (M := [(56, 0), (56, 18), (57, (-1)), (61, (-1)), (63, (-1))]) (fr_tr (M := [(56, 0), (56, 18), (57, (-1)), (61, (-1)), (63, (-1))]) fr_rf (hf8) (M1 := []) rfl rfl) (fr_ua hE11) rfl rfl) (hf12) rfl rfl) 7 5 rfl) (fun i => (fr_tr (M := [(56, 0), (56, 18), (57, (-1)), (61, (-1)), (63, (-1))]) (fr_tr (M := [(56, 0), (56, 18), (57, (-1)), (61, (-1)), (63, (-1))]) (fr_tr (M := [(56, 0), (56, 18), (57, (-1)), (61, (-1)), (63, (-1))]) fr_rf (hf8) (M1 := []) rfl rfl) (fr_ua hE11) rfl rfl) (hf12) rfl rfl) 9 i rfl) (fun i => (fr_tr (M := [(56, 0), (56, 18), (57, (-1)), (61, (-1)), (63, (-1))]) (fr_tr (M := [(56, 0), (56, 18), (57, (-1)), (61, (-1)), (63, (-1))]) (fr_tr (M := [(56, 0), (56, 18), (57, (-1)), (61, (-1)), (63, (-1))]) fr_rf (hf8) (M1 := []) rfl rfl) (fr_ua hE11) rfl rfl) (hf12) rfl rfl) 10 i rfl) (by have e9 : Z12 57 1 = (Z8 57 1) := (by omega); rw [e9]; exact b12)⟩
              have hG12 := hGx20
              refine JcI (z := 0) (show mx_Sn _ _ 77 (mx_const (.int 0) 78) from sn_282 77) rfl ?_
              have eq21 : Z12 58 0 = Z 58 0 := ((hf12 58 0 rfl).trans ((up_nk hE11 rfl).trans ((hf8 58 0 rfl).trans (up_nk hE1 rfl))))
              have b22 : 0 ≤ Z 58 0 ∧ Z 58 0 ≤ 1 := hG.pr 58 0
              have eq23 : Z12 58 1 = Z 58 1 := ((hf12 58 1 rfl).trans ((up_nk hE11 rfl).trans ((hf8 58 1 rfl).trans (up_nk hE1 rfl))))
              have b24 : 0 ≤ Z 58 1 ∧ Z 58 1 ≤ 1 := hG.pr 58 1
              exact mx_J.ret (sn_282 78) (fun _ _ => rfl) (hP 0 Z12 h12 hx12 hG12 (fr_tr (M := [(56, 0), (56, 18), (57, (-1)), (61, (-1)), (63, (-1))]) (fr_tr (M := [(56, 0), (56, 18), (57, (-1)), (61, (-1)), (63, (-1))]) (fr_tr (M := [(56, 0), (56, 18), (57, (-1)), (61, (-1)), (63, (-1))]) (fr_tr (M := [(56, 0), (56, 18), (57, (-1)), (61, (-1)), (63, (-1))]) fr_rf (fr_up hE1) (M1 := []) rfl rfl) (hf8) rfl rfl) (fr_ua hE11) rfl rfl) (hf12) rfl rfl) (by omega))
            · skip
              refine mx_J.step (sn_282 39) (fun _ _ => rfl) ?_
              refine JgetR (g := 1) (b := 57) hx8 (show mx_Sn _ _ 40 (mx_getf 12 1 43) from sn_282 40) a56 s56 rfl rfl (hG8.prr 56 1 rfl) ?_
              refine mx_J.step (sn_282 43) (fun _ _ => rfl) ?_
              refine mx_J.step (sn_282 44) (fun _ _ => rfl) ?_
              refine JgetR (g := 1) (b := 57) hx8 (show mx_Sn _ _ 45 (mx_getf 12 1 48) from sn_282 45) a56 s56 rfl rfl (hG8.prr 56 1 rfl) ?_
              refine JcI (z := 962) (show mx_Sn _ _ 48 (mx_const (.int 962) 51) from sn_282 48) rfl ?_
              refine mx_J.step (sn_282 51) (fun _ _ => rfl) ?_
              refine JcI (z := 1) (show mx_Sn _ _ 52 (mx_const (.int 1) 53) from sn_282 52) rfl ?_
              refine Jiadd (show mx_Sn _ _ 53 (mx_iadd 54) from sn_282 53) ?_
              refine Jimul (show mx_Sn _ _ 54 (mx_imul 55) from sn_282 54) ?_
              refine mx_J.step (sn_282 55) (fun _ _ => rfl) ?_
              refine Jiadd (show mx_Sn _ _ 56 (mx_iadd 57) from sn_282 56) ?_
              have b27 : f57 (((962 * (x0 + 1)) + w7_2) % 962) (Z8 57 ((962 * (x0 + 1)) + w7_2)) := GB_ex hG8 57 ((962 * (x0 + 1)) + w7_2)
              have b28 : (-2147483648) ≤ Z8 57 ((962 * (x0 + 1)) + w7_2) ∧ Z8 57 ((962 * (x0 + 1)) + w7_2) ≤ 2147483647 := hG8.pr 57 ((962 * (x0 + 1)) + w7_2)
              refine JialdI (z := Z8 57 ((962 * (x0 + 1)) + w7_2)) hx8 (show mx_Sn _ _ 57 (mx_iald 58) from sn_282 57) a57 s57 (by omega) rfl ?_
              refine JiastI hx8 (show mx_Sn _ _ 58 (mx_iast 1 59) from sn_282 58) a57 s57 rfl (by omega) (fun Z29 h29 hx29 hE29 => ?_)
              have hG29 := GB_up hG8 hE29 (show (-2147483648) ≤ Z8 57 ((962 * (x0 + 1)) + w7_2) ∧ Z8 57 ((962 * (x0 + 1)) + w7_2) ≤ 2147483647 by omega) (show f57 ((w7_2) % 962) (Z8 57 ((962 * (x0 + 1)) + w7_2)) by first | (have hq := GB_ex hG8 57 ((962 * (x0 + 1)) + w7_2); replace hq : f57 (((962 * (x0 + 1)) + w7_2) % 962) (Z8 57 ((962 * (x0 + 1)) + w7_2)) := hq; rw [Int.emod_eq_of_lt (a := ((962 * (x0 + 1)) + w7_2)) (by omega) (by omega)] at hq; rw [Int.emod_eq_of_lt (a := w7_2) (by omega) (by omega)]; unfold f57 at hq; unfold f57; omega) | (rw [Int.emod_eq_of_lt (by omega) (by omega)]; unfold f57; omega) | (rw [show w7_2 % 962 = (962 * (x0 + 1) + w7_2) % 962 by omega]; assumption) | assumption | (unfold f57; omega) | (unfold f57 at *; omega)) rfl
              have cs : CR Z29 Z1 (962 * (x0 + 1)) (w7_2 + 1) := crx_s (by assumption) hE29 rfl rfl (by omega)
              refine Jiinc (z := w7_2) (cz := 1) (ls2 := [some (.ref 56), some (xI x0), some (xI (w7_2 + 1))]) (show mx_Sn _ _ 59 (mx_iinc 2 1 62) from sn_282 59) rfl rfl rfl rfl ?_
              refine mx_J.step (sn_282 62) (fun _ _ => rfl) ?_
              exact ih7 (w7_2 + 1) Z29 h29 (by omega) (by omega) (by first | exact crx_0 | assumption) hx29 hG29 (fr_tr (M := [(57, (-1))]) (fr_tr (M := [(57, (-1))]) fr_rf (hf8) (M1 := []) rfl rfl) (fr_ua hE29) rfl rfl)
        exact c32 (Int.toNat (962 - 0) + 1) 0 Z1 h1 (by omega) (by omega) (by first | exact crx_0 | assumption) hx1 hG1 fr_rf
      · skip
        refine JcI (z := (-5)) (show mx_Sn _ _ 27 (mx_const (.int (-5)) 29) from sn_282 27) rfl ?_
        have eq30 : Z1 58 0 = Z 58 0 := (up_nk hE1 rfl)
        have b31 : 0 ≤ Z 58 0 ∧ Z 58 0 ≤ 1 := hG.pr 58 0
        have eq32 : Z1 58 1 = Z 58 1 := (up_nk hE1 rfl)
        have b33 : 0 ≤ Z 58 1 ∧ Z 58 1 ≤ 1 := hG.pr 58 1
        exact mx_J.ret (sn_282 29) (fun _ _ => rfl) (hP (-5) Z1 h1 hx1 hG1 (fr_tr (M := [(56, 0), (56, 18), (57, (-1)), (61, (-1)), (63, (-1))]) fr_rf (fr_up hE1) (M1 := []) rfl rfl) (by omega))
    · skip
      refine JcI (z := (-2)) (show mx_Sn _ _ 15 (mx_const (.int (-2)) 17) from sn_282 15) rfl ?_
      have eq34 : Z1 58 0 = Z 58 0 := (up_nk hE1 rfl)
      have b35 : 0 ≤ Z 58 0 ∧ Z 58 0 ≤ 1 := hG.pr 58 0
      have eq36 : Z1 58 1 = Z 58 1 := (up_nk hE1 rfl)
      have b37 : 0 ≤ Z 58 1 ∧ Z 58 1 ≤ 1 := hG.pr 58 1
      exact mx_J.ret (sn_282 17) (fun _ _ => rfl) (hP (-2) Z1 h1 hx1 hG1 (fr_tr (M := [(56, 0), (56, 18), (57, (-1)), (61, (-1)), (63, (-1))]) fr_rf (fr_up hE1) (M1 := []) rfl rfl) (by omega))
theorem ct_282_56 {l : Launch} {D : va_G} {b0 : Nat} {ad : Nat → Nat} {Hb : Heap} {tau : Nat → Int64} {d n s : Nat} {S : Nat → xS} {Z : xZ} {h : mx_H} (hx : XH n s S Z h) (hG : GI n S Z)  {x0 : Int} (p0 : (-2147483648) ≤ x0 ∧ x0 ≤ 2147483647) : ∃ (z : Int) (Z' : xZ) (h' : mx_H), mx_Ca (tB l D b0 ad Hb tau) (d + 21) 282 [.ref 56, xI x0] h (some (xI z), h') ∧ XH n s S Z' h' ∧ GI n S Z' ∧ fr' [(56, 0), (56, 18), (57, (-1)), (61, (-1)), (63, (-1))] Z Z' ∧ ((-5) ≤ z ∧ z ≤ 0 ∧ (((x0 < 0 ∨ 1 < x0) → z = -2) ∧ (x0 = 0 → (Z 58 0 = 0 → z = -5) ∧ (¬ Z 58 0 = 0 → z = 0)) ∧ (x0 = 1 → (Z 58 1 = 0 → z = -5) ∧ (¬ Z 58 1 = 0 → z = 0)))) := by
  obtain ⟨r, hca, z, Z', h', e, q⟩ := Jmt (B := tB l D b0 ad Hb tau) (M := mt_282) (mi := 282) (as := [.ref 56, xI x0]) (d := d + 20) (ls := [some (.ref 56), some (xI x0), none]) rfl rfl rfl rfl rfl rfl (cw_282_56 (l := l) (D := D) (b0 := b0) (ad := ad) (Hb := Hb) (tau := tau) (d := d) (Post := fun r => ∃ (z : Int) (Z' : xZ) (h' : mx_H), r = (some (xI z), h') ∧ XH n s S Z' h' ∧ GI n S Z' ∧ fr' [(56, 0), (56, 18), (57, (-1)), (61, (-1)), (63, (-1))] Z Z' ∧ ((-5) ≤ z ∧ z ≤ 0 ∧ (((x0 < 0 ∨ 1 < x0) → z = -2) ∧ (x0 = 0 → (Z 58 0 = 0 → z = -5) ∧ (¬ Z 58 0 = 0 → z = 0)) ∧ (x0 = 1 → (Z 58 1 = 0 → z = -5) ∧ (¬ Z 58 1 = 0 → z = 0))))) hx hG p0 (fun z Z' h' q1 q2 q3 q4 => ⟨z, Z', h', rfl, q1, q2, q3, q4⟩))
  subst e; exact ⟨z, Z', h', hca, q⟩
set_option maxRecDepth 100000 in
theorem cw_290_4100 {l : Launch} {D : va_G} {b0 : Nat} {ad : Nat → Nat} {Hb : Heap} {tau : Nat → Int64} {d n s : Nat} {S : Nat → xS} {Z : xZ} {h : mx_H} {Post : mx_R → Prop} (hx : XH n s S Z h) (hG : GI n S Z)   (hP : ∀ z : Int, 0 ≤ z ∧ z ≤ 0 → Post (some (xI z), h)) : mx_J (tB l D b0 ad Hb tau) mt_290 (d + 0) 0 [some (.ref 4100)] [] h Post := by
    refine JcI (z := 1) (show mx_Sn _ _ 0 (mx_const (.int 1) 3) from sn_290 0) rfl ?_
    refine Jif_eq (show mx_Sn _ _ 3 (mx_if_eq 13 6) from sn_290 3) (by omega) (fun q1 => ?_) (fun q1 => ?_)
    · skip
      exfalso; omega
    · skip
      refine mx_J.step (sn_290 6) (fun _ _ => rfl) ?_
      refine Jscod (L := sb_2) (show mx_Sn _ _ 7 (mx_scod 10) from sn_290 7) rfl ?_
      refine mx_J.step (sn_290 10) (fun _ _ => rfl) ?_
      exact mx_J.ret (show mx_Sn _ _ 14 (mx_nret .byte) from sn_290 14) (fun _ _ => nr_ok_byte (by omega)) (hP 0 (by omega))
theorem ct_290_4100 {l : Launch} {D : va_G} {b0 : Nat} {ad : Nat → Nat} {Hb : Heap} {tau : Nat → Int64} {d n s : Nat} {S : Nat → xS} {Z : xZ} {h : mx_H} (hx : XH n s S Z h) (hG : GI n S Z)   : ∃ z : Int, mx_Ca (tB l D b0 ad Hb tau) (d + 1) 290 [.ref 4100] h (some (xI z), h) ∧ (0 ≤ z ∧ z ≤ 0) := by
  obtain ⟨r, hca, z, e, hp⟩ := Jmt (B := tB l D b0 ad Hb tau) (M := mt_290) (mi := 290) (as := [.ref 4100]) (d := d + 0) (ls := [some (.ref 4100)]) rfl rfl rfl rfl rfl rfl (cw_290_4100 (l := l) (D := D) (b0 := b0) (ad := ad) (Hb := Hb) (tau := tau) (d := d) (Post := fun r => ∃ z : Int, r = (some (xI z), h) ∧ (0 ≤ z ∧ z ≤ 0)) hx hG  (fun z hz => ⟨z, rfl, hz⟩))
  subst e; exact ⟨z, hca, hp⟩
set_option maxRecDepth 100000 in
theorem cw_289_4100 {l : Launch} {D : va_G} {b0 : Nat} {ad : Nat → Nat} {Hb : Heap} {tau : Nat → Int64} {d n s : Nat} {S : Nat → xS} {Z : xZ} {h : mx_H} {Post : mx_R → Prop} (hx : XH n s S Z h) (hG : GI n S Z)   (hP : ∀ z : Int, 1 ≤ z ∧ z ≤ 1 → Post (some (xI z), h)) : mx_J (tB l D b0 ad Hb tau) mt_289 (d + 0) 0 [some (.ref 4100)] [] h Post := by
    refine JcI (z := 1) (show mx_Sn _ _ 0 (mx_const (.int 1) 3) from sn_289 0) rfl ?_
    refine Jif_eq (show mx_Sn _ _ 3 (mx_if_eq 17 6) from sn_289 3) (by omega) (fun q1 => ?_) (fun q1 => ?_)
    · skip
      exfalso; omega
    · skip
      refine mx_J.step (sn_289 6) (fun _ _ => rfl) ?_
      refine Jscod (L := sb_2) (show mx_Sn _ _ 7 (mx_scod 10) from sn_289 7) rfl ?_
      refine Jif_ne (show mx_Sn _ _ 10 (mx_if_ne 17 13) from sn_289 10) (by omega) (fun q2 => ?_) (fun q2 => ?_)
      · skip
        exfalso; omega
      · skip
        refine JcI (z := 1) (show mx_Sn _ _ 13 (mx_const (.int 1) 14) from sn_289 13) rfl ?_
        refine mx_J.step (sn_289 14) (fun _ _ => rfl) ?_
        exact mx_J.ret (show mx_Sn _ _ 18 (mx_zret) from sn_289 18) (fun _ _ => zr_ok (by omega)) (hP 1 (by omega))
theorem ct_289_4100 {l : Launch} {D : va_G} {b0 : Nat} {ad : Nat → Nat} {Hb : Heap} {tau : Nat → Int64} {d n s : Nat} {S : Nat → xS} {Z : xZ} {h : mx_H} (hx : XH n s S Z h) (hG : GI n S Z)   : ∃ z : Int, mx_Ca (tB l D b0 ad Hb tau) (d + 1) 289 [.ref 4100] h (some (xI z), h) ∧ (1 ≤ z ∧ z ≤ 1) := by
  obtain ⟨r, hca, z, e, hp⟩ := Jmt (B := tB l D b0 ad Hb tau) (M := mt_289) (mi := 289) (as := [.ref 4100]) (d := d + 0) (ls := [some (.ref 4100)]) rfl rfl rfl rfl rfl rfl (cw_289_4100 (l := l) (D := D) (b0 := b0) (ad := ad) (Hb := Hb) (tau := tau) (d := d) (Post := fun r => ∃ z : Int, r = (some (xI z), h) ∧ (1 ≤ z ∧ z ≤ 1)) hx hG  (fun z hz => ⟨z, rfl, hz⟩))
  subst e; exact ⟨z, hca, hp⟩
set_option maxRecDepth 100000 in
theorem cw_291_4100 {l : Launch} {D : va_G} {b0 : Nat} {ad : Nat → Nat} {Hb : Heap} {tau : Nat → Int64} {d n s : Nat} {S : Nat → xS} {Z : xZ} {h : mx_H} {Post : mx_R → Prop} (hx : XH n s S Z h) (hG : GI n S Z)   (hP : ∀ z : Int, 77 ≤ z ∧ z ≤ 77 → Post (some (xI z), h)) : mx_J (tB l D b0 ad Hb tau) mt_291 (d + 1) 0 [some (.ref 4100)] [] h Post := by
    refine mx_J.step (sn_291 0) (fun _ _ => rfl) ?_
    refine mx_J.step (sn_291 1) (fun _ _ => rfl) ?_
    refine Jsalen (L := sb_2) (z := 77) (show mx_Sn _ _ 4 (mx_salen 5) from sn_291 4) rfl rfl ?_
    refine mx_J.step (sn_291 5) (fun _ _ => rfl) ?_
    obtain ⟨z1, hc1, b1⟩ := ct_290_4100 (d := d + 0) (l := l) (D := D) (b0 := b0) (ad := ad) (Hb := Hb) (tau := tau) hx hG 
    refine Jck (show mx_Sn _ _ 6 (mx_callk 290 1 9) from sn_291 6) rfl hc1 rfl rfl rfl ?_
    refine Jishr0 (show mx_Sn _ _ 9 (mx_ishr 10) from sn_291 9) (by omega) ?_
    exact mx_J.ret (sn_291 10) (fun _ _ => rfl) (hP 77 (by omega))
theorem ct_291_4100 {l : Launch} {D : va_G} {b0 : Nat} {ad : Nat → Nat} {Hb : Heap} {tau : Nat → Int64} {d n s : Nat} {S : Nat → xS} {Z : xZ} {h : mx_H} (hx : XH n s S Z h) (hG : GI n S Z)   : ∃ z : Int, mx_Ca (tB l D b0 ad Hb tau) (d + 2) 291 [.ref 4100] h (some (xI z), h) ∧ (77 ≤ z ∧ z ≤ 77) := by
  obtain ⟨r, hca, z, e, hp⟩ := Jmt (B := tB l D b0 ad Hb tau) (M := mt_291) (mi := 291) (as := [.ref 4100]) (d := d + 1) (ls := [some (.ref 4100)]) rfl rfl rfl rfl rfl rfl (cw_291_4100 (l := l) (D := D) (b0 := b0) (ad := ad) (Hb := Hb) (tau := tau) (d := d) (Post := fun r => ∃ z : Int, r = (some (xI z), h) ∧ (77 ≤ z ∧ z ≤ 77)) hx hG  (fun z hz => ⟨z, rfl, hz⟩))
  subst e; exact ⟨z, hca, hp⟩
set_option maxRecDepth 100000 in
theorem cw_288_4101 {l : Launch} {D : va_G} {b0 : Nat} {ad : Nat → Nat} {Hb : Heap} {tau : Nat → Int64} {d n s : Nat} {S : Nat → xS} {Z : xZ} {h : mx_H} {Post : mx_R → Prop} (hx : XH n s S Z h) (hG : GI n S Z)  {x0 : Int} (p0 : 0 ≤ x0 ∧ x0 ≤ 76) (hP : ∀ z : Int, 32 ≤ z ∧ z ≤ 122 ∧ (z = 32 ∨ x0 ≤ 75) → Post (some (xI z), h)) : mx_J (tB l D b0 ad Hb tau) mt_288 (d + 2) 0 [some (.ref 4101), some (xI x0)] [] h Post := by
    refine mx_J.step (sn_288 0) (fun _ _ => rfl) ?_
    refine mx_J.step (sn_288 1) (fun _ _ => rfl) ?_
    refine Jsalen (L := sb_2) (z := 77) (show mx_Sn _ _ 2 (mx_salen 3) from sn_288 2) rfl rfl ?_
    have hc1 := ct_287_ (d := d + 0) (l := l) (D := D) (b0 := b0) (ad := ad) (Hb := Hb) (tau := tau) hx hG (show 0 ≤ x0 ∧ x0 ≤ 100 by omega) (show 0 ≤ 77 ∧ 77 ≤ 100 by omega) (show x0 < 77 by omega)
    refine Jcs0 (show mx_Sn _ _ 3 (mx_calls 287 2 6) from sn_288 3) hc1 rfl rfl rfl ?_
    refine mx_J.step (sn_288 6) (fun _ _ => rfl) ?_
    refine mx_J.step (sn_288 7) (fun _ _ => rfl) ?_
    refine Jsb_2 (show mx_Sn _ _ 8 (mx_sbald 9) from sn_288 8) rfl (by omega) (fun y2 hy2 => ?_)
    refine JcI (z := 255) (show mx_Sn _ _ 9 (mx_const (.int 255) 12) from sn_288 9) rfl ?_
    refine JiandM (q := 256) 8 (show mx_Sn _ _ 12 (mx_iand 13) from sn_288 12) rfl rfl rfl ?_
    refine Ji2c (show mx_Sn _ _ 13 (mx_i2c 14) from sn_288 13) (by omega) ?_
    exact mx_J.ret (show mx_Sn _ _ 14 (mx_nret .char) from sn_288 14) (fun _ _ => nr_ok_char (by omega)) (hP (y2 % 256) (by omega))
theorem ct_288_4101 {l : Launch} {D : va_G} {b0 : Nat} {ad : Nat → Nat} {Hb : Heap} {tau : Nat → Int64} {d n s : Nat} {S : Nat → xS} {Z : xZ} {h : mx_H} (hx : XH n s S Z h) (hG : GI n S Z)  {x0 : Int} (p0 : 0 ≤ x0 ∧ x0 ≤ 76) : ∃ z : Int, mx_Ca (tB l D b0 ad Hb tau) (d + 3) 288 [.ref 4101, xI x0] h (some (xI z), h) ∧ (32 ≤ z ∧ z ≤ 122 ∧ (z = 32 ∨ x0 ≤ 75)) := by
  obtain ⟨r, hca, z, e, hp⟩ := Jmt (B := tB l D b0 ad Hb tau) (M := mt_288) (mi := 288) (as := [.ref 4101, xI x0]) (d := d + 2) (ls := [some (.ref 4101), some (xI x0)]) rfl rfl rfl rfl rfl rfl (cw_288_4101 (l := l) (D := D) (b0 := b0) (ad := ad) (Hb := Hb) (tau := tau) (d := d) (Post := fun r => ∃ z : Int, r = (some (xI z), h) ∧ (32 ≤ z ∧ z ≤ 122 ∧ (z = 32 ∨ x0 ≤ 75))) hx hG p0 (fun z hz => ⟨z, rfl, hz⟩))
  subst e; exact ⟨z, hca, hp⟩
set_option maxRecDepth 100000 in
theorem cw_292_4100 {l : Launch} {D : va_G} {b0 : Nat} {ad : Nat → Nat} {Hb : Heap} {tau : Nat → Int64} {d n s : Nat} {S : Nat → xS} {Z : xZ} {h : mx_H} {Post : mx_R → Prop} (hx : XH n s S Z h) (hG : GI n S Z)  {x0 : Int} (p0 : 0 ≤ x0 ∧ x0 ≤ 76) (hP : ∀ z : Int, 32 ≤ z ∧ z ≤ 122 ∧ (z = 32 ∨ x0 ≤ 75) → Post (some (xI z), h)) : mx_J (tB l D b0 ad Hb tau) mt_292 (d + 3) 0 [some (.ref 4100), some (xI x0)] [] h Post := by
    refine mx_J.step (sn_292 0) (fun _ _ => rfl) ?_
    obtain ⟨z1, hc1, b1⟩ := ct_289_4100 (d := d + 2) (l := l) (D := D) (b0 := b0) (ad := ad) (Hb := Hb) (tau := tau) hx hG 
    refine Jck (show mx_Sn _ _ 1 (mx_callk 289 1 4) from sn_292 1) rfl hc1 rfl rfl rfl ?_
    refine Jif_eq (show mx_Sn _ _ 4 (mx_if_eq 16 7) from sn_292 4) (by omega) (fun q2 => ?_) (fun q2 => ?_)
    · skip
      exfalso; omega
    · skip
      refine mx_J.step (sn_292 7) (fun _ _ => rfl) ?_
      refine mx_J.step (sn_292 8) (fun _ _ => rfl) ?_
      refine mx_J.step (sn_292 11) (fun _ _ => rfl) ?_
      obtain ⟨z3, hc3, b3⟩ := ct_288_4101 (d := d + 0) (l := l) (D := D) (b0 := b0) (ad := ad) (Hb := Hb) (tau := tau) hx hG (show 0 ≤ x0 ∧ x0 ≤ 76 by omega)
      refine Jcs (show mx_Sn _ _ 12 (mx_calls 288 2 15) from sn_292 12) hc3 rfl rfl rfl ?_
      exact mx_J.ret (show mx_Sn _ _ 15 (mx_nret .char) from sn_292 15) (fun _ _ => nr_ok_char (by omega)) (hP z3 (by omega))
theorem ct_292_4100 {l : Launch} {D : va_G} {b0 : Nat} {ad : Nat → Nat} {Hb : Heap} {tau : Nat → Int64} {d n s : Nat} {S : Nat → xS} {Z : xZ} {h : mx_H} (hx : XH n s S Z h) (hG : GI n S Z)  {x0 : Int} (p0 : 0 ≤ x0 ∧ x0 ≤ 76) : ∃ z : Int, mx_Ca (tB l D b0 ad Hb tau) (d + 4) 292 [.ref 4100, xI x0] h (some (xI z), h) ∧ (32 ≤ z ∧ z ≤ 122 ∧ (z = 32 ∨ x0 ≤ 75)) := by
  obtain ⟨r, hca, z, e, hp⟩ := Jmt (B := tB l D b0 ad Hb tau) (M := mt_292) (mi := 292) (as := [.ref 4100, xI x0]) (d := d + 3) (ls := [some (.ref 4100), some (xI x0)]) rfl rfl rfl rfl rfl rfl (cw_292_4100 (l := l) (D := D) (b0 := b0) (ad := ad) (Hb := Hb) (tau := tau) (d := d) (Post := fun r => ∃ z : Int, r = (some (xI z), h) ∧ (32 ≤ z ∧ z ≤ 122 ∧ (z = 32 ∨ x0 ≤ 75))) hx hG p0 (fun z hz => ⟨z, rfl, hz⟩))
  subst e; exact ⟨z, hca, hp⟩
set_option maxRecDepth 100000 in
theorem cw_290_4102 {l : Launch} {D : va_G} {b0 : Nat} {ad : Nat → Nat} {Hb : Heap} {tau : Nat → Int64} {d n s : Nat} {S : Nat → xS} {Z : xZ} {h : mx_H} {Post : mx_R → Prop} (hx : XH n s S Z h) (hG : GI n S Z)   (hP : ∀ z : Int, 0 ≤ z ∧ z ≤ 0 → Post (some (xI z), h)) : mx_J (tB l D b0 ad Hb tau) mt_290 (d + 0) 0 [some (.ref 4102)] [] h Post := by
    refine JcI (z := 1) (show mx_Sn _ _ 0 (mx_const (.int 1) 3) from sn_290 0) rfl ?_
    refine Jif_eq (show mx_Sn _ _ 3 (mx_if_eq 13 6) from sn_290 3) (by omega) (fun q1 => ?_) (fun q1 => ?_)
    · skip
      exfalso; omega
    · skip
      refine mx_J.step (sn_290 6) (fun _ _ => rfl) ?_
      refine Jscod (L := sb_1) (show mx_Sn _ _ 7 (mx_scod 10) from sn_290 7) rfl ?_
      refine mx_J.step (sn_290 10) (fun _ _ => rfl) ?_
      exact mx_J.ret (show mx_Sn _ _ 14 (mx_nret .byte) from sn_290 14) (fun _ _ => nr_ok_byte (by omega)) (hP 0 (by omega))
theorem ct_290_4102 {l : Launch} {D : va_G} {b0 : Nat} {ad : Nat → Nat} {Hb : Heap} {tau : Nat → Int64} {d n s : Nat} {S : Nat → xS} {Z : xZ} {h : mx_H} (hx : XH n s S Z h) (hG : GI n S Z)   : ∃ z : Int, mx_Ca (tB l D b0 ad Hb tau) (d + 1) 290 [.ref 4102] h (some (xI z), h) ∧ (0 ≤ z ∧ z ≤ 0) := by
  obtain ⟨r, hca, z, e, hp⟩ := Jmt (B := tB l D b0 ad Hb tau) (M := mt_290) (mi := 290) (as := [.ref 4102]) (d := d + 0) (ls := [some (.ref 4102)]) rfl rfl rfl rfl rfl rfl (cw_290_4102 (l := l) (D := D) (b0 := b0) (ad := ad) (Hb := Hb) (tau := tau) (d := d) (Post := fun r => ∃ z : Int, r = (some (xI z), h) ∧ (0 ≤ z ∧ z ≤ 0)) hx hG  (fun z hz => ⟨z, rfl, hz⟩))
  subst e; exact ⟨z, hca, hp⟩
set_option maxRecDepth 100000 in
theorem cw_289_4102 {l : Launch} {D : va_G} {b0 : Nat} {ad : Nat → Nat} {Hb : Heap} {tau : Nat → Int64} {d n s : Nat} {S : Nat → xS} {Z : xZ} {h : mx_H} {Post : mx_R → Prop} (hx : XH n s S Z h) (hG : GI n S Z)   (hP : ∀ z : Int, 1 ≤ z ∧ z ≤ 1 → Post (some (xI z), h)) : mx_J (tB l D b0 ad Hb tau) mt_289 (d + 0) 0 [some (.ref 4102)] [] h Post := by
    refine JcI (z := 1) (show mx_Sn _ _ 0 (mx_const (.int 1) 3) from sn_289 0) rfl ?_
    refine Jif_eq (show mx_Sn _ _ 3 (mx_if_eq 17 6) from sn_289 3) (by omega) (fun q1 => ?_) (fun q1 => ?_)
    · skip
      exfalso; omega
    · skip
      refine mx_J.step (sn_289 6) (fun _ _ => rfl) ?_
      refine Jscod (L := sb_1) (show mx_Sn _ _ 7 (mx_scod 10) from sn_289 7) rfl ?_
      refine Jif_ne (show mx_Sn _ _ 10 (mx_if_ne 17 13) from sn_289 10) (by omega) (fun q2 => ?_) (fun q2 => ?_)
      · skip
        exfalso; omega
      · skip
        refine JcI (z := 1) (show mx_Sn _ _ 13 (mx_const (.int 1) 14) from sn_289 13) rfl ?_
        refine mx_J.step (sn_289 14) (fun _ _ => rfl) ?_
        exact mx_J.ret (show mx_Sn _ _ 18 (mx_zret) from sn_289 18) (fun _ _ => zr_ok (by omega)) (hP 1 (by omega))
theorem ct_289_4102 {l : Launch} {D : va_G} {b0 : Nat} {ad : Nat → Nat} {Hb : Heap} {tau : Nat → Int64} {d n s : Nat} {S : Nat → xS} {Z : xZ} {h : mx_H} (hx : XH n s S Z h) (hG : GI n S Z)   : ∃ z : Int, mx_Ca (tB l D b0 ad Hb tau) (d + 1) 289 [.ref 4102] h (some (xI z), h) ∧ (1 ≤ z ∧ z ≤ 1) := by
  obtain ⟨r, hca, z, e, hp⟩ := Jmt (B := tB l D b0 ad Hb tau) (M := mt_289) (mi := 289) (as := [.ref 4102]) (d := d + 0) (ls := [some (.ref 4102)]) rfl rfl rfl rfl rfl rfl (cw_289_4102 (l := l) (D := D) (b0 := b0) (ad := ad) (Hb := Hb) (tau := tau) (d := d) (Post := fun r => ∃ z : Int, r = (some (xI z), h) ∧ (1 ≤ z ∧ z ≤ 1)) hx hG  (fun z hz => ⟨z, rfl, hz⟩))
  subst e; exact ⟨z, hca, hp⟩
set_option maxRecDepth 100000 in
theorem cw_291_4102 {l : Launch} {D : va_G} {b0 : Nat} {ad : Nat → Nat} {Hb : Heap} {tau : Nat → Int64} {d n s : Nat} {S : Nat → xS} {Z : xZ} {h : mx_H} {Post : mx_R → Prop} (hx : XH n s S Z h) (hG : GI n S Z)   (hP : ∀ z : Int, 12 ≤ z ∧ z ≤ 12 → Post (some (xI z), h)) : mx_J (tB l D b0 ad Hb tau) mt_291 (d + 1) 0 [some (.ref 4102)] [] h Post := by
    refine mx_J.step (sn_291 0) (fun _ _ => rfl) ?_
    refine mx_J.step (sn_291 1) (fun _ _ => rfl) ?_
    refine Jsalen (L := sb_1) (z := 12) (show mx_Sn _ _ 4 (mx_salen 5) from sn_291 4) rfl rfl ?_
    refine mx_J.step (sn_291 5) (fun _ _ => rfl) ?_
    obtain ⟨z1, hc1, b1⟩ := ct_290_4102 (d := d + 0) (l := l) (D := D) (b0 := b0) (ad := ad) (Hb := Hb) (tau := tau) hx hG 
    refine Jck (show mx_Sn _ _ 6 (mx_callk 290 1 9) from sn_291 6) rfl hc1 rfl rfl rfl ?_
    refine Jishr0 (show mx_Sn _ _ 9 (mx_ishr 10) from sn_291 9) (by omega) ?_
    exact mx_J.ret (sn_291 10) (fun _ _ => rfl) (hP 12 (by omega))
theorem ct_291_4102 {l : Launch} {D : va_G} {b0 : Nat} {ad : Nat → Nat} {Hb : Heap} {tau : Nat → Int64} {d n s : Nat} {S : Nat → xS} {Z : xZ} {h : mx_H} (hx : XH n s S Z h) (hG : GI n S Z)   : ∃ z : Int, mx_Ca (tB l D b0 ad Hb tau) (d + 2) 291 [.ref 4102] h (some (xI z), h) ∧ (12 ≤ z ∧ z ≤ 12) := by
  obtain ⟨r, hca, z, e, hp⟩ := Jmt (B := tB l D b0 ad Hb tau) (M := mt_291) (mi := 291) (as := [.ref 4102]) (d := d + 1) (ls := [some (.ref 4102)]) rfl rfl rfl rfl rfl rfl (cw_291_4102 (l := l) (D := D) (b0 := b0) (ad := ad) (Hb := Hb) (tau := tau) (d := d) (Post := fun r => ∃ z : Int, r = (some (xI z), h) ∧ (12 ≤ z ∧ z ≤ 12)) hx hG  (fun z hz => ⟨z, rfl, hz⟩))
  subst e; exact ⟨z, hca, hp⟩
set_option maxRecDepth 100000 in
theorem cw_288_4103 {l : Launch} {D : va_G} {b0 : Nat} {ad : Nat → Nat} {Hb : Heap} {tau : Nat → Int64} {d n s : Nat} {S : Nat → xS} {Z : xZ} {h : mx_H} {Post : mx_R → Prop} (hx : XH n s S Z h) (hG : GI n S Z)  {x0 : Int} (p0 : 0 ≤ x0 ∧ x0 ≤ 11) (hP : ∀ z : Int, 32 ≤ z ∧ z ≤ 122 → Post (some (xI z), h)) : mx_J (tB l D b0 ad Hb tau) mt_288 (d + 2) 0 [some (.ref 4103), some (xI x0)] [] h Post := by
    refine mx_J.step (sn_288 0) (fun _ _ => rfl) ?_
    refine mx_J.step (sn_288 1) (fun _ _ => rfl) ?_
    refine Jsalen (L := sb_1) (z := 12) (show mx_Sn _ _ 2 (mx_salen 3) from sn_288 2) rfl rfl ?_
    have hc1 := ct_287_ (d := d + 0) (l := l) (D := D) (b0 := b0) (ad := ad) (Hb := Hb) (tau := tau) hx hG (show 0 ≤ x0 ∧ x0 ≤ 100 by omega) (show 0 ≤ 12 ∧ 12 ≤ 100 by omega) (show x0 < 12 by omega)
    refine Jcs0 (show mx_Sn _ _ 3 (mx_calls 287 2 6) from sn_288 3) hc1 rfl rfl rfl ?_
    refine mx_J.step (sn_288 6) (fun _ _ => rfl) ?_
    refine mx_J.step (sn_288 7) (fun _ _ => rfl) ?_
    refine Jsb_1 (show mx_Sn _ _ 8 (mx_sbald 9) from sn_288 8) rfl (by omega) (fun y2 hy2 => ?_)
    refine JcI (z := 255) (show mx_Sn _ _ 9 (mx_const (.int 255) 12) from sn_288 9) rfl ?_
    refine JiandM (q := 256) 8 (show mx_Sn _ _ 12 (mx_iand 13) from sn_288 12) rfl rfl rfl ?_
    refine Ji2c (show mx_Sn _ _ 13 (mx_i2c 14) from sn_288 13) (by omega) ?_
    exact mx_J.ret (show mx_Sn _ _ 14 (mx_nret .char) from sn_288 14) (fun _ _ => nr_ok_char (by omega)) (hP (y2 % 256) (by omega))
theorem ct_288_4103 {l : Launch} {D : va_G} {b0 : Nat} {ad : Nat → Nat} {Hb : Heap} {tau : Nat → Int64} {d n s : Nat} {S : Nat → xS} {Z : xZ} {h : mx_H} (hx : XH n s S Z h) (hG : GI n S Z)  {x0 : Int} (p0 : 0 ≤ x0 ∧ x0 ≤ 11) : ∃ z : Int, mx_Ca (tB l D b0 ad Hb tau) (d + 3) 288 [.ref 4103, xI x0] h (some (xI z), h) ∧ (32 ≤ z ∧ z ≤ 122) := by
  obtain ⟨r, hca, z, e, hp⟩ := Jmt (B := tB l D b0 ad Hb tau) (M := mt_288) (mi := 288) (as := [.ref 4103, xI x0]) (d := d + 2) (ls := [some (.ref 4103), some (xI x0)]) rfl rfl rfl rfl rfl rfl (cw_288_4103 (l := l) (D := D) (b0 := b0) (ad := ad) (Hb := Hb) (tau := tau) (d := d) (Post := fun r => ∃ z : Int, r = (some (xI z), h) ∧ (32 ≤ z ∧ z ≤ 122)) hx hG p0 (fun z hz => ⟨z, rfl, hz⟩))
  subst e; exact ⟨z, hca, hp⟩
set_option maxRecDepth 100000 in
theorem cw_292_4102 {l : Launch} {D : va_G} {b0 : Nat} {ad : Nat → Nat} {Hb : Heap} {tau : Nat → Int64} {d n s : Nat} {S : Nat → xS} {Z : xZ} {h : mx_H} {Post : mx_R → Prop} (hx : XH n s S Z h) (hG : GI n S Z)  {x0 : Int} (p0 : 0 ≤ x0 ∧ x0 ≤ 11) (hP : ∀ z : Int, 32 ≤ z ∧ z ≤ 122 → Post (some (xI z), h)) : mx_J (tB l D b0 ad Hb tau) mt_292 (d + 3) 0 [some (.ref 4102), some (xI x0)] [] h Post := by
    refine mx_J.step (sn_292 0) (fun _ _ => rfl) ?_
    obtain ⟨z1, hc1, b1⟩ := ct_289_4102 (d := d + 2) (l := l) (D := D) (b0 := b0) (ad := ad) (Hb := Hb) (tau := tau) hx hG 
    refine Jck (show mx_Sn _ _ 1 (mx_callk 289 1 4) from sn_292 1) rfl hc1 rfl rfl rfl ?_
    refine Jif_eq (show mx_Sn _ _ 4 (mx_if_eq 16 7) from sn_292 4) (by omega) (fun q2 => ?_) (fun q2 => ?_)
    · skip
      exfalso; omega
    · skip
      refine mx_J.step (sn_292 7) (fun _ _ => rfl) ?_
      refine mx_J.step (sn_292 8) (fun _ _ => rfl) ?_
      refine mx_J.step (sn_292 11) (fun _ _ => rfl) ?_
      obtain ⟨z3, hc3, b3⟩ := ct_288_4103 (d := d + 0) (l := l) (D := D) (b0 := b0) (ad := ad) (Hb := Hb) (tau := tau) hx hG (show 0 ≤ x0 ∧ x0 ≤ 11 by omega)
      refine Jcs (show mx_Sn _ _ 12 (mx_calls 288 2 15) from sn_292 12) hc3 rfl rfl rfl ?_
      exact mx_J.ret (show mx_Sn _ _ 15 (mx_nret .char) from sn_292 15) (fun _ _ => nr_ok_char (by omega)) (hP z3 (by omega))
theorem ct_292_4102 {l : Launch} {D : va_G} {b0 : Nat} {ad : Nat → Nat} {Hb : Heap} {tau : Nat → Int64} {d n s : Nat} {S : Nat → xS} {Z : xZ} {h : mx_H} (hx : XH n s S Z h) (hG : GI n S Z)  {x0 : Int} (p0 : 0 ≤ x0 ∧ x0 ≤ 11) : ∃ z : Int, mx_Ca (tB l D b0 ad Hb tau) (d + 4) 292 [.ref 4102, xI x0] h (some (xI z), h) ∧ (32 ≤ z ∧ z ≤ 122) := by
  obtain ⟨r, hca, z, e, hp⟩ := Jmt (B := tB l D b0 ad Hb tau) (M := mt_292) (mi := 292) (as := [.ref 4102, xI x0]) (d := d + 3) (ls := [some (.ref 4102), some (xI x0)]) rfl rfl rfl rfl rfl rfl (cw_292_4102 (l := l) (D := D) (b0 := b0) (ad := ad) (Hb := Hb) (tau := tau) (d := d) (Post := fun r => ∃ z : Int, r = (some (xI z), h) ∧ (32 ≤ z ∧ z ≤ 122)) hx hG p0 (fun z hz => ⟨z, rfl, hz⟩))
  subst e; exact ⟨z, hca, hp⟩
set_option maxRecDepth 100000 in
theorem cw_158_56 {l : Launch} {D : va_G} {b0 : Nat} {ad : Nat → Nat} {Hb : Heap} {tau : Nat → Int64} {d n s : Nat} {S : Nat → xS} {Z : xZ} {h : mx_H} {Post : mx_R → Prop} (hx : XH n s S Z h) (hG : GI n S Z)  {x0 : Int} (p0 : 0 ≤ x0 ∧ x0 ≤ 901) (hP : ∀ z : Int, (-1) ≤ z ∧ z ≤ 255 ∧ ((x0 < Z 56 8 → z = Z 59 x0) ∧ (Z 56 8 ≤ x0 → z = -1)) → Post (some (xI z), h)) : mx_J (tB l D b0 ad Hb tau) mt_158 (d + 0) 0 [some (.ref 56), some (xI x0)] [] h Post := by
    have a56 : 56 < n := lt83 (GI_n hG) rfl
    have s56 : S 56 = .inl (12, [0, 2, 2, 2, 2, 0, 0, 0, 0, 0, 0, 0, 0, 0, 0, 2, 2, 2, 0, 2, 2, 2, 0, 0, 2, 2, 2, 2, 2, 2, 0, 0, 2, 2, 2, 2, 2, 2, 2, 2, 2, 2]) := GI_s hG 56 rfl
    have a59 : 59 < n := lt83 (GI_n hG) rfl
    have s59 : S 59 = .inr (.int, 900, 0) := GI_s hG 59 rfl
    refine mx_J.step (sn_158 0) (fun _ _ => rfl) ?_
    refine mx_J.step (sn_158 1) (fun _ _ => rfl) ?_
    have b2 : 0 ≤ Z 56 8 ∧ Z 56 8 ≤ 900 := hG.pr 56 8
    refine JgetI (g := 8) (z := Z 56 8) hx (show mx_Sn _ _ 2 (mx_getf 12 8 5) from sn_158 2) a56 s56 rfl rfl rfl ?_
    have c18 : ∀ (k3_0 : Int), (-1) ≤ k3_0 ∧ k3_0 ≤ 255 → ((x0 < Z 56 8 → k3_0 = Z 59 x0) ∧ (Z 56 8 ≤ x0 → k3_0 = -1)) → mx_J (tB l D b0 ad Hb tau) mt_158 (d + 0) 18 [some (.ref 56), some (xI x0)] [xI k3_0] h Post := by
      intro k3_0 f3_0 f3_1
      have b4 : 0 ≤ Z 56 8 ∧ Z 56 8 ≤ 900 := hG.pr 56 8
      have b5 : 0 ≤ Z 59 x0 ∧ Z 59 x0 ≤ 255 := hG.pr 59 x0
      exact mx_J.ret (sn_158 18) (fun _ _ => rfl) (hP k3_0 (by omega))
    refine Jicmp_ge (show mx_Sn _ _ 5 (mx_icmp_ge 17 8) from sn_158 5) (by omega) (by omega) (fun q6 => ?_) (fun q6 => ?_)
    · skip
      refine JcI (z := (-1)) (show mx_Sn _ _ 17 (mx_const (.int (-1)) 18) from sn_158 17) rfl ?_
      exact c18 (-1) (by omega) (by omega)
    · skip
      refine mx_J.step (sn_158 8) (fun _ _ => rfl) ?_
      refine JgetR (g := 3) (b := 59) hx (show mx_Sn _ _ 9 (mx_getf 12 3 12) from sn_158 9) a56 s56 rfl rfl (hG.prr 56 3 rfl) ?_
      refine mx_J.step (sn_158 12) (fun _ _ => rfl) ?_
      have b8 : 0 ≤ Z 59 x0 ∧ Z 59 x0 ≤ 255 := hG.pr 59 x0
      refine JialdI (z := Z 59 x0) hx (show mx_Sn _ _ 13 (mx_iald 14) from sn_158 13) a59 s59 (by omega) rfl ?_
      refine mx_J.step (sn_158 14) (fun _ _ => rfl) ?_
      exact c18 (Z 59 x0) (by omega) (by omega)
theorem ct_158_56 {l : Launch} {D : va_G} {b0 : Nat} {ad : Nat → Nat} {Hb : Heap} {tau : Nat → Int64} {d n s : Nat} {S : Nat → xS} {Z : xZ} {h : mx_H} (hx : XH n s S Z h) (hG : GI n S Z)  {x0 : Int} (p0 : 0 ≤ x0 ∧ x0 ≤ 901) : ∃ z : Int, mx_Ca (tB l D b0 ad Hb tau) (d + 1) 158 [.ref 56, xI x0] h (some (xI z), h) ∧ ((-1) ≤ z ∧ z ≤ 255 ∧ ((x0 < Z 56 8 → z = Z 59 x0) ∧ (Z 56 8 ≤ x0 → z = -1))) := by
  obtain ⟨r, hca, z, e, hp⟩ := Jmt (B := tB l D b0 ad Hb tau) (M := mt_158) (mi := 158) (as := [.ref 56, xI x0]) (d := d + 0) (ls := [some (.ref 56), some (xI x0)]) rfl rfl rfl rfl rfl rfl (cw_158_56 (l := l) (D := D) (b0 := b0) (ad := ad) (Hb := Hb) (tau := tau) (d := d) (Post := fun r => ∃ z : Int, r = (some (xI z), h) ∧ ((-1) ≤ z ∧ z ≤ 255 ∧ ((x0 < Z 56 8 → z = Z 59 x0) ∧ (Z 56 8 ≤ x0 → z = -1)))) hx hG p0 (fun z hz => ⟨z, rfl, hz⟩))
  subst e; exact ⟨z, hca, hp⟩
