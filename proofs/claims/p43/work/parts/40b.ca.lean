set_option maxRecDepth 100000 in
theorem cw_9_7_19 {l : Launch} {D : va_G} {b0 : Nat} {ad : Nat → Nat} {Hb : Heap} {tau : Nat → Int64} {d n s : Nat} {S : Nat → xS} {Z : xZ} {h : mx_H} {Post : mx_R → Prop} (hx : XH n s S Z h) (hG : GI n S Z)  (m19 : AB Z 19 19 (-40) 40) (hP : ∀ z : Int, z = nmN (Z 7 4) (Z 19) ∧ 0 ≤ z ∧ z ≤ 384 → Post (some (xI z), h)) : mx_J (tB l D b0 ad Hb tau) mt_9 (d + 1) 0 [some (.ref 7), some (.ref 19), none, none, none, none] [] h Post := by
    have a7 : 7 < n := lt83 (GI_n hG) rfl
    have s7 : S 7 = .inl (0, [2, 2, 2, 2, 0, 0]) := GI_s hG 7 rfl
    have a19 : 19 < n := lt83 (GI_n hG) rfl
    have s19 : S 19 = .inr (.int, 19, 0) := GI_s hG 19 rfl
    refine JcI (z := 0) (show mx_Sn _ _ 0 (mx_const (.int 0) 1) from sn_9 0) rfl ?_
    refine mx_J.step (ls2 := [some (.ref 7), some (.ref 19), some (xI 0), none, none, none]) (sn_9 1) (fun _ _ => rfl) ?_
    refine mx_J.step (sn_9 2) (fun _ _ => rfl) ?_
    have b2 : 0 ≤ Z 7 4 ∧ Z 7 4 ≤ 18 := hG.pr 7 4
    refine JgetI (g := 4) (z := Z 7 4) hx (show mx_Sn _ _ 3 (mx_getf 0 4 6) from sn_9 3) a7 s7 rfl rfl rfl ?_
    refine mx_J.step (ls2 := [some (.ref 7), some (.ref 19), some (xI 0), some (xI (Z 7 4)), none, none]) (sn_9 6) (fun _ _ => rfl) ?_
    have wd := W1z (n := (Z 7 4)) (by omega)
    refine JcI (z := 18) (show mx_Sn _ _ 7 (mx_const (.int 18) 9) from sn_9 7) rfl ?_
    refine mx_J.step (ls2 := [some (.ref 7), some (.ref 19), some (xI 0), some (xI (Z 7 4)), some (xI 18), none]) (sn_9 9) (fun _ _ => rfl) ?_
    refine JcI (z := 18) (show mx_Sn _ _ 11 (mx_const (.int 18) 13) from sn_9 11) rfl ?_
    refine mx_J.step (ls2 := [some (.ref 7), some (.ref 19), some (xI 0), some (xI (Z 7 4)), some (xI 18), some (xI 18)]) (sn_9 13) (fun _ _ => rfl) ?_
    have c15 : ∀ (m3 : Nat) (w3_2 : Int) (w3_3 : Int) (w3_4 : Int) (w3_5 : Int), w3_5 - 0 < (m3 : Int) → 0 ≤ w3_2 ∧ w3_2 ≤ 384 → (-719) ≤ w3_3 ∧ w3_3 ≤ 18 → 1 ≤ w3_4 ∧ w3_4 ≤ 18 → 0 ≤ w3_5 ∧ w3_5 ≤ 18 → (w3_3 ≤ 0 ∨ w3_2 + wy (w3_3 * 19 + w3_4) ≤ 385) → w3_5 ≤ w3_4 → nmi (Z 19) w3_5 w3_2 w3_3 w3_4 = nmN (Z 7 4) (Z 19) → mx_J (tB l D b0 ad Hb tau) mt_9 (d + 1) 15 [some (.ref 7), some (.ref 19), some (xI w3_2), some (xI w3_3), some (xI w3_4), some (xI w3_5)] [] h Post := by
      intro m3
      induction m3 with
      | zero => intro w3_2 w3_3 w3_4 w3_5 q3 f3_0 f3_1 f3_2 f3_3 f3_4 f3_5 f3_6; exact absurd q3 (by omega)
      | succ m3 ih3 =>
        intro w3_2 w3_3 w3_4 w3_5 q3 f3_0 f3_1 f3_2 f3_3 f3_4 f3_5 f3_6
        refine mx_J.step (sn_9 15) (fun _ _ => rfl) ?_
        have c69 : (w3_5 ≤ 0 ∨ w3_3 ≤ 0) → mx_J (tB l D b0 ad Hb tau) mt_9 (d + 1) 69 [some (.ref 7), some (.ref 19), some (xI w3_2), some (xI w3_3), some (xI w3_4), some (xI w3_5)] [] h Post := by
          intro f4_0
          refine mx_J.step (sn_9 69) (fun _ _ => rfl) ?_
          exact mx_J.ret (sn_9 70) (fun _ _ => rfl) (hP w3_2 ⟨((nmi_0 (f := Z 19) (sz := w3_5) (nb := w3_2) (rest := w3_3) (above := w3_4) (by omega)).symm.trans (by assumption)), by omega⟩)
        refine Jif_le (show mx_Sn _ _ 17 (mx_if_le 69 20) from sn_9 17) (by omega) (fun q5 => ?_) (fun q5 => ?_)
        · skip
          exact c69 (by omega)
        · skip
          refine mx_J.step (sn_9 20) (fun _ _ => rfl) ?_
          refine Jif_le (show mx_Sn _ _ 21 (mx_if_le 69 24) from sn_9 21) (by omega) (fun q6 => ?_) (fun q6 => ?_)
          · skip
            exact c69 (by omega)
          · skip
            refine mx_J.step (sn_9 24) (fun _ _ => rfl) ?_
            refine mx_J.step (sn_9 25) (fun _ _ => rfl) ?_
            have b7 : (-40) ≤ Z 19 w3_5 ∧ Z 19 w3_5 ≤ 40 := m19 w3_5 (by omega) (by omega)
            have b8 : (-2147483648) ≤ Z 19 w3_5 ∧ Z 19 w3_5 ≤ 2147483647 := hG.pr 19 w3_5
            refine JialdI (z := Z 19 w3_5) hx (show mx_Sn _ _ 27 (mx_iald 28) from sn_9 27) a19 s19 (by omega) rfl ?_
            have c63 : ∀ (w9_2 : Int) (w9_3 : Int) (w9_4 : Int), 0 ≤ w9_2 ∧ w9_2 ≤ 384 → (-719) ≤ w9_3 ∧ w9_3 ≤ 18 → 1 ≤ w9_4 ∧ w9_4 ≤ 18 → (w9_3 ≤ 0 ∨ w9_2 + wy (w9_3 * 19 + w9_4) ≤ 385) → w3_5 ≤ w9_4 → nmi (Z 19) (w3_5 - 1) w9_2 w9_3 w9_4 = nmN (Z 7 4) (Z 19) → mx_J (tB l D b0 ad Hb tau) mt_9 (d + 1) 63 [some (.ref 7), some (.ref 19), some (xI w9_2), some (xI w9_3), some (xI w9_4), some (xI w3_5)] [] h Post := by
              intro w9_2 w9_3 w9_4 f9_0 f9_1 f9_2 f9_3 f9_4 f9_5
              refine Jiinc (z := w3_5) (cz := (-1)) (ls2 := [some (.ref 7), some (.ref 19), some (xI w9_2), some (xI w9_3), some (xI w9_4), some (xI (w3_5 + (-1)))]) (show mx_Sn _ _ 63 (mx_iinc 5 (-1) 66) from sn_9 63) rfl rfl rfl rfl ?_
              refine mx_J.step (sn_9 66) (fun _ _ => rfl) ?_
              exact ih3 w9_2 w9_3 w9_4 (w3_5 + (-1)) (by omega) (by omega) (by omega) (by omega) (by omega) (by omega) (by omega) (by assumption)
            refine Jif_le (show mx_Sn _ _ 28 (mx_if_le 63 31) from sn_9 28) (by omega) (fun q10 => ?_) (fun q10 => ?_)
            · skip
              exact c63 w3_2 w3_3 w3_4 (by omega) (by omega) (by omega) (by omega) (by omega) ((nmi_n (f := Z 19) (sz := w3_5) (nb := w3_2) (rest := w3_3) (above := w3_4) (by omega) (by omega) (by omega)).symm.trans (by assumption))
            · skip
              refine mx_J.step (sn_9 31) (fun _ _ => rfl) ?_
              refine mx_J.step (sn_9 32) (fun _ _ => rfl) ?_
              refine mx_J.step (sn_9 33) (fun _ _ => rfl) ?_
              refine mx_J.step (sn_9 34) (fun _ _ => rfl) ?_
              obtain ⟨z11, hc11, b11⟩ := ct_2_7 (d := d + 0) (l := l) (D := D) (b0 := b0) (ad := ad) (Hb := Hb) (tau := tau) hx hG (show 0 ≤ w3_3 ∧ w3_3 ≤ 18 by omega) (show 0 ≤ w3_4 ∧ w3_4 ≤ 18 by omega)
              refine Jcv hx (show mx_Sn _ _ 36 (mx_callv 2 3 0 39) from sn_9 36) a7 s7 hc11 rfl rfl rfl ?_
              refine mx_J.step (sn_9 39) (fun _ _ => rfl) ?_
              refine mx_J.step (sn_9 40) (fun _ _ => rfl) ?_
              refine mx_J.step (sn_9 41) (fun _ _ => rfl) ?_
              obtain ⟨z12, hc12, b12⟩ := ct_2_7 (d := d + 0) (l := l) (D := D) (b0 := b0) (ad := ad) (Hb := Hb) (tau := tau) hx hG (show 0 ≤ w3_3 ∧ w3_3 ≤ 18 by omega) (show 0 ≤ w3_5 ∧ w3_5 ≤ 18 by omega)
              refine Jcv hx (show mx_Sn _ _ 43 (mx_callv 2 3 0 46) from sn_9 43) a7 s7 hc12 rfl rfl rfl ?_
              refine Jisub (show mx_Sn _ _ 46 (mx_isub 47) from sn_9 46) ?_
              refine Jiadd (show mx_Sn _ _ 47 (mx_iadd 48) from sn_9 47) ?_
              refine mx_J.step (ls2 := [some (.ref 7), some (.ref 19), some (xI (w3_2 + (z11 - z12))), some (xI w3_3), some (xI w3_4), some (xI w3_5)]) (sn_9 48) (fun _ _ => rfl) ?_
              refine mx_J.step (sn_9 49) (fun _ _ => rfl) ?_
              refine mx_J.step (sn_9 50) (fun _ _ => rfl) ?_
              refine mx_J.step (sn_9 52) (fun _ _ => rfl) ?_
              refine mx_J.step (sn_9 53) (fun _ _ => rfl) ?_
              refine JialdI (z := Z 19 w3_5) hx (show mx_Sn _ _ 55 (mx_iald 56) from sn_9 55) a19 s19 (by omega) rfl ?_
              refine JimulQ (A := 18) (C := 40) (show mx_Sn _ _ 56 (mx_imul 57) from sn_9 56) (by omega) (by omega) (by decide) (fun y13 hy13 hym => ?_)
              refine Jisub (show mx_Sn _ _ 57 (mx_isub 58) from sn_9 57) ?_
              have wa := W1 (n := w3_3) (m := w3_5) (by omega) (by omega)
              have wb : (w3_3 - y13) < 0 ∨ wy ((w3_3 - y13) * 19 + w3_5) ≤ wy (w3_3 * 19 + w3_5) := W2 (by omega) (by omega)
              have wc : wy (w3_3 * 19 + w3_5) ≤ wy (w3_3 * 19 + w3_4) := W3 (by omega) (by omega)
              refine mx_J.step (ls2 := [some (.ref 7), some (.ref 19), some (xI (w3_2 + (z11 - z12))), some (xI (w3_3 - y13)), some (xI w3_4), some (xI w3_5)]) (sn_9 58) (fun _ _ => rfl) ?_
              refine mx_J.step (sn_9 59) (fun _ _ => rfl) ?_
              refine mx_J.step (ls2 := [some (.ref 7), some (.ref 19), some (xI (w3_2 + (z11 - z12))), some (xI (w3_3 - y13)), some (xI w3_5), some (xI w3_5)]) (sn_9 61) (fun _ _ => rfl) ?_
              exact c63 (w3_2 + (z11 - z12)) (w3_3 - y13) w3_5 (by omega) (by omega) (by omega) (by omega) (by omega) (nmt_y (by assumption) (by omega) (by omega) (by omega) hym (by omega))
    exact c15 (Int.toNat (18 - 0) + 1) 0 (Z 7 4) 18 18 (by omega) (by omega) (by omega) (by omega) (by omega) (by omega) (by omega) (nmi_x)
theorem ct_9_7_19 {l : Launch} {D : va_G} {b0 : Nat} {ad : Nat → Nat} {Hb : Heap} {tau : Nat → Int64} {d n s : Nat} {S : Nat → xS} {Z : xZ} {h : mx_H} (hx : XH n s S Z h) (hG : GI n S Z)  (m19 : AB Z 19 19 (-40) 40) : ∃ z : Int, mx_Ca (tB l D b0 ad Hb tau) (d + 2) 9 [.ref 7, .ref 19] h (some (xI z), h) ∧ (z = nmN (Z 7 4) (Z 19) ∧ 0 ≤ z ∧ z ≤ 384) := by
  obtain ⟨r, hca, z, e, hp⟩ := Jmt (B := tB l D b0 ad Hb tau) (M := mt_9) (mi := 9) (as := [.ref 7, .ref 19]) (d := d + 1) (ls := [some (.ref 7), some (.ref 19), none, none, none, none]) rfl rfl rfl rfl rfl rfl (cw_9_7_19 (l := l) (D := D) (b0 := b0) (ad := ad) (Hb := Hb) (tau := tau) (d := d) (Post := fun r => ∃ z : Int, r = (some (xI z), h) ∧ (z = nmN (Z 7 4) (Z 19) ∧ 0 ≤ z ∧ z ≤ 384)) hx hG m19 (fun z hz => ⟨z, rfl, hz⟩))
  subst e; exact ⟨z, hca, hp⟩
set_option maxRecDepth 100000 in
theorem cw_8_7_42 {l : Launch} {D : va_G} {b0 : Nat} {ad : Nat → Nat} {Hb : Heap} {tau : Nat → Int64} {d n s : Nat} {S : Nat → xS} {Z : xZ} {h : mx_H} {Post : mx_R → Prop} (hx : XH n s S Z h) (hG : GI n S Z)  {x0 : Int} (p0 : (-2147483648) ≤ x0 ∧ x0 ≤ 2147483647) (hP : ∀ (Z' : xZ) (h' : mx_H), XH n s S Z' h' → GI n S Z' → fr' [(42, (-1))] Z Z' → AB Z' 42 19 0 18 → Post (none, h')) : mx_J (tB l D b0 ad Hb tau) mt_8 (d + 1) 0 [some (.ref 7), some (xI x0), some (.ref 42), none, none] [] h Post := by
    have a7 : 7 < n := lt83 (GI_n hG) rfl
    have s7 : S 7 = .inl (0, [2, 2, 2, 2, 0, 0]) := GI_s hG 7 rfl
    have a9 : 9 < n := lt83 (GI_n hG) rfl
    have s9 : S 9 = .inr (.byte, 6930, 0) := GI_s hG 9 rfl
    have a42 : 42 < n := lt83 (GI_n hG) rfl
    have s42 : S 42 = .inr (.int, 19, 0) := GI_s hG 42 rfl
    refine mx_J.step (sn_8 0) (fun _ _ => rfl) ?_
    refine JcI (z := 0) (show mx_Sn _ _ 1 (mx_const (.int 0) 2) from sn_8 1) rfl ?_
    obtain ⟨Z1, h1, hc1, hx1, hG1, hf1, m1_42⟩ := ct_284_42_i0 (d := d + 0) (l := l) (D := D) (b0 := b0) (ad := ad) (Hb := Hb) (tau := tau) hx hG 
    refine Jcs0 (show mx_Sn _ _ 2 (mx_calls 284 2 5) from sn_8 2) hc1 rfl rfl rfl ?_
    refine mx_J.step (sn_8 5) (fun _ _ => rfl) ?_
    refine mx_J.step (sn_8 6) (fun _ _ => rfl) ?_
    have eq3 : Z1 7 5 = Z 7 5 := (hf1 7 5 rfl)
    have b4 : 0 ≤ Z 7 5 ∧ Z 7 5 ≤ 385 := hG.pr 7 5
    have eq5 : Z1 10 x0 = Z 10 x0 := (hf1 10 x0 rfl)
    have b6 : 0 ≤ Z 10 x0 ∧ Z 10 x0 ≤ 18 := hG.pr 10 x0
    obtain ⟨z2, hc2, b2⟩ := ct_5_7 (d := d + 0) (l := l) (D := D) (b0 := b0) (ad := ad) (Hb := Hb) (tau := tau) hx1 hG1 (show (-2147483648) ≤ x0 ∧ x0 ≤ 2147483647 by omega)
    try rw [eq3] at b2
    try rw [eq5] at b2
    refine Jcv hx1 (show mx_Sn _ _ 7 (mx_callv 5 2 0 10) from sn_8 7) a7 s7 hc2 rfl rfl rfl ?_
    refine mx_J.step (ls2 := [some (.ref 7), some (xI x0), some (.ref 42), some (xI z2), none]) (sn_8 10) (fun _ _ => rfl) ?_
    refine JcI (z := 0) (show mx_Sn _ _ 11 (mx_const (.int 0) 12) from sn_8 11) rfl ?_
    refine mx_J.step (ls2 := [some (.ref 7), some (xI x0), some (.ref 42), some (xI z2), some (xI 0)]) (sn_8 12) (fun _ _ => rfl) ?_
    have c14 : ∀ (m7 : Nat) (w7_4 : Int) (Z8 : xZ) (h8 : mx_H), 18 - w7_4 < (m7 : Int) → 0 ≤ w7_4 ∧ w7_4 ≤ 18 → AB Z8 42 (19) (0) (w7_4) → XH n s S Z8 h8 → GI n S Z8 → fr' [(42, (-1))] Z1 Z8 → mx_J (tB l D b0 ad Hb tau) mt_8 (d + 1) 14 [some (.ref 7), some (xI x0), some (.ref 42), some (xI z2), some (xI w7_4)] [] h8 Post := by
      intro m7
      induction m7 with
      | zero => intro w7_4 Z8 h8 q7 f7_0 f7_1 hx8 hG8 hf8; exact absurd q7 (by omega)
      | succ m7 ih7 =>
        intro w7_4 Z8 h8 q7 f7_0 f7_1 hx8 hG8 hf8
        refine mx_J.step (sn_8 14) (fun _ _ => rfl) ?_
        refine mx_J.step (sn_8 16) (fun _ _ => rfl) ?_
        refine Jicmp_ge (show mx_Sn _ _ 17 (mx_icmp_ge 44 20) from sn_8 17) (by omega) (by omega) (fun q9 => ?_) (fun q9 => ?_)
        · skip
          exact mx_J.ret (sn_8 44) (fun _ _ => rfl) (hP Z8 h8 hx8 hG8 (fr_tr (M := [(42, (-1))]) (fr_tr (M := [(42, (-1))]) fr_rf (hf1) (M1 := []) rfl rfl) (hf8) rfl rfl) (ab_mono f7_1 (by omega) (by omega) (by omega)))
        · skip
          refine mx_J.step (sn_8 20) (fun _ _ => rfl) ?_
          refine mx_J.step (sn_8 21) (fun _ _ => rfl) ?_
          refine JgetR (g := 1) (b := 9) hx8 (show mx_Sn _ _ 22 (mx_getf 0 1 25) from sn_8 22) a7 s7 rfl rfl (hG8.prr 7 1 rfl) ?_
          refine mx_J.step (sn_8 25) (fun _ _ => rfl) ?_
          refine JcI (z := 18) (show mx_Sn _ _ 26 (mx_const (.int 18) 28) from sn_8 26) rfl ?_
          refine Jimul (show mx_Sn _ _ 28 (mx_imul 29) from sn_8 28) ?_
          refine mx_J.step (sn_8 29) (fun _ _ => rfl) ?_
          refine Jiadd (show mx_Sn _ _ 31 (mx_iadd 32) from sn_8 31) ?_
          have b11 : 0 ≤ Z 9 ((x0 * 18) + w7_4) ∧ Z 9 ((x0 * 18) + w7_4) ≤ 18 := hG.pr 9 ((x0 * 18) + w7_4)
          refine JbaldI (z := Z 9 ((x0 * 18) + w7_4)) hx8 (show mx_Sn _ _ 32 (mx_bald 33) from sn_8 32) a9 s9 (by omega) ((hf8 9 ((x0 * 18) + w7_4) rfl).trans (hf1 9 ((x0 * 18) + w7_4) rfl)) ?_
          refine mx_J.step (sn_8 33) (fun _ _ => rfl) ?_
          have b12 : 0 ≤ Z8 42 (Z 9 ((x0 * 18) + w7_4)) ∧ Z8 42 (Z 9 ((x0 * 18) + w7_4)) ≤ w7_4 := f7_1 (Z 9 ((x0 * 18) + w7_4)) (by omega) (by omega)
          have b13 : (-2147483648) ≤ Z8 42 (Z 9 ((x0 * 18) + w7_4)) ∧ Z8 42 (Z 9 ((x0 * 18) + w7_4)) ≤ 2147483647 := hG8.pr 42 (Z 9 ((x0 * 18) + w7_4))
          refine JialdI (z := Z8 42 (Z 9 ((x0 * 18) + w7_4))) hx8 (show mx_Sn _ _ 34 (mx_iald 35) from sn_8 34) a42 s42 (by omega) rfl ?_
          refine JcI (z := 1) (show mx_Sn _ _ 35 (mx_const (.int 1) 36) from sn_8 35) rfl ?_
          refine Jiadd (show mx_Sn _ _ 36 (mx_iadd 37) from sn_8 36) ?_
          refine JiastI hx8 (show mx_Sn _ _ 37 (mx_iast 1 38) from sn_8 37) a42 s42 rfl (by omega) (fun Z14 h14 hx14 hE14 => ?_)
          have hG14 := GI_up hG8 hE14 (show (-2147483648) ≤ (Z8 42 (Z 9 ((x0 * 18) + w7_4))) + 1 ∧ (Z8 42 (Z 9 ((x0 * 18) + w7_4))) + 1 ≤ 2147483647 by omega) trivial rfl
          have m14 : AB Z14 42 19 0 (w7_4 + 1) := ab_up hE14 f7_1 (by omega) (by omega) (by omega)
          refine Jiinc (z := w7_4) (cz := 1) (ls2 := [some (.ref 7), some (xI x0), some (.ref 42), some (xI z2), some (xI (w7_4 + 1))]) (show mx_Sn _ _ 38 (mx_iinc 4 1 41) from sn_8 38) rfl rfl rfl rfl ?_
          refine mx_J.step (sn_8 41) (fun _ _ => rfl) ?_
          exact ih7 (w7_4 + 1) Z14 h14 (by omega) (by omega) (ab_mono m14 (by omega) (by omega) (by omega)) hx14 hG14 (fr_tr (M := [(42, (-1))]) (fr_tr (M := [(42, (-1))]) fr_rf (hf8) (M1 := []) rfl rfl) (fr_ua hE14) rfl rfl)
    exact c14 (Int.toNat (18 - 0) + 1) 0 Z1 h1 (by omega) (by omega) (ab_mono m1_42 (by omega) (by omega) (by omega)) hx1 hG1 fr_rf
theorem ct_8_7_42 {l : Launch} {D : va_G} {b0 : Nat} {ad : Nat → Nat} {Hb : Heap} {tau : Nat → Int64} {d n s : Nat} {S : Nat → xS} {Z : xZ} {h : mx_H} (hx : XH n s S Z h) (hG : GI n S Z)  {x0 : Int} (p0 : (-2147483648) ≤ x0 ∧ x0 ≤ 2147483647) : ∃ (Z' : xZ) (h' : mx_H), mx_Ca (tB l D b0 ad Hb tau) (d + 2) 8 [.ref 7, xI x0, .ref 42] h (none, h') ∧ XH n s S Z' h' ∧ GI n S Z' ∧ fr' [(42, (-1))] Z Z' ∧ (AB Z' 42 19 0 18) := by
  obtain ⟨r, hca, Z', h', e, q⟩ := Jmt (B := tB l D b0 ad Hb tau) (M := mt_8) (mi := 8) (as := [.ref 7, xI x0, .ref 42]) (d := d + 1) (ls := [some (.ref 7), some (xI x0), some (.ref 42), none, none]) rfl rfl rfl rfl rfl rfl (cw_8_7_42 (l := l) (D := D) (b0 := b0) (ad := ad) (Hb := Hb) (tau := tau) (d := d) (Post := fun r => ∃ (Z' : xZ) (h' : mx_H), r = (none, h') ∧ XH n s S Z' h' ∧ GI n S Z' ∧ fr' [(42, (-1))] Z Z' ∧ (AB Z' 42 19 0 18)) hx hG p0 (fun Z' h' q1 q2 q3 q5_42 => ⟨Z', h', rfl, q1, q2, q3, q5_42⟩))
  subst e; exact ⟨Z', h', hca, q⟩
set_option maxRecDepth 100000 in
theorem cw_29_12 {l : Launch} {D : va_G} {b0 : Nat} {ad : Nat → Nat} {Hb : Heap} {tau : Nat → Int64} {d n s : Nat} {S : Nat → xS} {Z : xZ} {h : mx_H} {Post : mx_R → Prop} (hx : XH n s S Z h) (hG : GI n S Z)  {x0 x1 : Int} (p0 : (-2147483648) ≤ x0 ∧ x0 ≤ 2147483647) (p1 : (-2147483648) ≤ x1 ∧ x1 ≤ 2147483647) (hP : ∀ (z : Int) (Z' : xZ) (h' : mx_H), XH n s S Z' h' → GI n S Z' → fr' [(16, (-1)), (17, (-1)), (18, (-1)), (19, (-1))] Z Z' → 0 ≤ z ∧ z ≤ 384 → Post (some (xI z), h')) : mx_J (tB l D b0 ad Hb tau) mt_29 (d + 2) 0 [some (.ref 12), some (xI x0), some (xI x1), none, none, none, none, none] [] h Post := by
    have a7 : 7 < n := lt83 (GI_n hG) rfl
    have s7 : S 7 = .inl (0, [2, 2, 2, 2, 0, 0]) := GI_s hG 7 rfl
    have a12 : 12 < n := lt83 (GI_n hG) rfl
    have s12 : S 12 = .inl (4, [2, 2, 0, 2, 2, 2, 2, 2, 2]) := GI_s hG 12 rfl
    have a19 : 19 < n := lt83 (GI_n hG) rfl
    have s19 : S 19 = .inr (.int, 19, 0) := GI_s hG 19 rfl
    refine mx_J.step (sn_29 0) (fun _ _ => rfl) ?_
    refine JgetR (g := 8) (b := 19) hx (show mx_Sn _ _ 1 (mx_getf 4 8 4) from sn_29 1) a12 s12 rfl rfl (hG.prr 12 8 rfl) ?_
    refine JcI (z := 0) (show mx_Sn _ _ 4 (mx_const (.int 0) 5) from sn_29 4) rfl ?_
    obtain ⟨Z2, h2, hc2, hx2, hG2, hf2, m2_19⟩ := ct_284_19_i0 (d := d + 1) (l := l) (D := D) (b0 := b0) (ad := ad) (Hb := Hb) (tau := tau) hx hG 
    refine Jcs0 (show mx_Sn _ _ 5 (mx_calls 284 2 8) from sn_29 5) hc2 rfl rfl rfl ?_
    refine mx_J.step (sn_29 8) (fun _ _ => rfl) ?_
    refine JgetR (g := 0) (b := 7) hx2 (show mx_Sn _ _ 9 (mx_getf 4 0 12) from sn_29 9) a12 s12 rfl rfl (hG2.prr 12 0 rfl) ?_
    refine mx_J.step (sn_29 12) (fun _ _ => rfl) ?_
    have eq5 : Z2 7 5 = Z 7 5 := (hf2 7 5 rfl)
    have b6 : 0 ≤ Z 7 5 ∧ Z 7 5 ≤ 385 := hG.pr 7 5
    have eq7 : Z2 10 x0 = Z 10 x0 := (hf2 10 x0 rfl)
    have b8 : 0 ≤ Z 10 x0 ∧ Z 10 x0 ≤ 18 := hG.pr 10 x0
    obtain ⟨z4, hc4, b4⟩ := ct_5_7 (d := d + 1) (l := l) (D := D) (b0 := b0) (ad := ad) (Hb := Hb) (tau := tau) hx2 hG2 (show (-2147483648) ≤ x0 ∧ x0 ≤ 2147483647 by omega)
    try rw [eq5] at b4
    try rw [eq7] at b4
    refine Jcv hx2 (show mx_Sn _ _ 13 (mx_callv 5 2 0 16) from sn_29 13) a7 s7 hc4 rfl rfl rfl ?_
    refine mx_J.step (ls2 := [some (.ref 12), some (xI x0), some (xI x1), some (xI z4), none, none, none, none]) (sn_29 16) (fun _ _ => rfl) ?_
    refine JcI (z := 0) (show mx_Sn _ _ 17 (mx_const (.int 0) 18) from sn_29 17) rfl ?_
    refine mx_J.step (ls2 := [some (.ref 12), some (xI x0), some (xI x1), some (xI z4), some (xI 0), none, none, none]) (sn_29 18) (fun _ _ => rfl) ?_
    have pz : ps Z x0 0 = 0 := ps_0
    refine JcI (z := 0) (show mx_Sn _ _ 20 (mx_const (.int 0) 21) from sn_29 20) rfl ?_
    refine mx_J.step (ls2 := [some (.ref 12), some (xI x0), some (xI x1), some (xI z4), some (xI 0), some (xI 0), none, none]) (sn_29 21) (fun _ _ => rfl) ?_
    have c23 : ∀ (m9 : Nat) (w9_4 : Int) (w9_5 : Int) (u9_6 : Option Value) (u9_7 : Option Value) (Z10 : xZ) (h10 : mx_H), 18 - w9_5 < (m9 : Int) → 0 ≤ w9_4 ∧ w9_4 ≤ 18 → 0 ≤ w9_5 ∧ w9_5 ≤ 18 → w9_4 ≤ ps Z x0 w9_5 → w9_5 ≤ z4 → AB Z10 19 (19) (0) (w9_5) → XH n s S Z10 h10 → GI n S Z10 → fr' [(16, (-1)), (17, (-1)), (18, (-1)), (19, (-1))] Z2 Z10 → mx_J (tB l D b0 ad Hb tau) mt_29 (d + 2) 23 [some (.ref 12), some (xI x0), some (xI x1), some (xI z4), some (xI w9_4), some (xI w9_5), u9_6, u9_7] [] h10 Post := by
      intro m9
      induction m9 with
      | zero => intro w9_4 w9_5 u9_6 u9_7 Z10 h10 q9 f9_0 f9_1 f9_2 f9_3 f9_4 hx10 hG10 hf10; exact absurd q9 (by omega)
      | succ m9 ih9 =>
        intro w9_4 w9_5 u9_6 u9_7 Z10 h10 q9 f9_0 f9_1 f9_2 f9_3 f9_4 hx10 hG10 hf10
        refine mx_J.step (sn_29 23) (fun _ _ => rfl) ?_
        refine mx_J.step (sn_29 25) (fun _ _ => rfl) ?_
        refine Jicmp_ge (show mx_Sn _ _ 26 (mx_icmp_ge 89 29) from sn_29 26) (by omega) (by omega) (fun q11 => ?_) (fun q11 => ?_)
        · skip
          refine mx_J.step (sn_29 89) (fun _ _ => rfl) ?_
          refine JgetR (g := 8) (b := 19) hx10 (show mx_Sn _ _ 90 (mx_getf 4 8 93) from sn_29 90) a12 s12 rfl rfl (hG10.prr 12 8 rfl) ?_
          refine mx_J.step (sn_29 93) (fun _ _ => rfl) ?_
          refine mx_J.step (sn_29 95) (fun _ _ => rfl) ?_
          have b13 : 0 ≤ Z10 19 w9_4 ∧ Z10 19 w9_4 ≤ w9_5 := f9_4 w9_4 (by omega) (by omega)
          have b14 : (-2147483648) ≤ Z10 19 w9_4 ∧ Z10 19 w9_4 ≤ 2147483647 := hG10.pr 19 w9_4
          refine JialdI (z := Z10 19 w9_4) hx10 (show mx_Sn _ _ 96 (mx_iald 97) from sn_29 96) a19 s19 (by omega) rfl ?_
          refine JcI (z := 1) (show mx_Sn _ _ 97 (mx_const (.int 1) 98) from sn_29 97) rfl ?_
          refine Jiadd (show mx_Sn _ _ 98 (mx_iadd 99) from sn_29 98) ?_
          refine JiastI hx10 (show mx_Sn _ _ 99 (mx_iast 1 100) from sn_29 99) a19 s19 rfl (by omega) (fun Z15 h15 hx15 hE15 => ?_)
          have hG15 := GI_up hG10 hE15 (show (-2147483648) ≤ (Z10 19 w9_4) + 1 ∧ (Z10 19 w9_4) + 1 ≤ 2147483647 by omega) trivial rfl
          have m15 : AB Z15 19 19 0 (w9_5 + 1) := ab_up hE15 f9_4 (by omega) (by omega) (by omega)
          refine mx_J.step (sn_29 100) (fun _ _ => rfl) ?_
          refine JgetR (g := 0) (b := 7) hx15 (show mx_Sn _ _ 101 (mx_getf 4 0 104) from sn_29 101) a12 s12 rfl rfl (hG15.prr 12 0 rfl) ?_
          refine mx_J.step (sn_29 104) (fun _ _ => rfl) ?_
          refine JgetR (g := 8) (b := 19) hx15 (show mx_Sn _ _ 105 (mx_getf 4 8 108) from sn_29 105) a12 s12 rfl rfl (hG15.prr 12 8 rfl) ?_
          obtain ⟨z18, hc18, b18⟩ := ct_9_7_19 (d := d + 0) (l := l) (D := D) (b0 := b0) (ad := ad) (Hb := Hb) (tau := tau) hx15 hG15  (ab_mono m15 (by omega) (by omega) (by omega))
          obtain ⟨bs18_0, b18⟩ := b18
          refine Jcv hx15 (show mx_Sn _ _ 108 (mx_callv 9 2 0 111) from sn_29 108) a7 s7 hc18 rfl rfl rfl ?_
          exact mx_J.ret (sn_29 111) (fun _ _ => rfl) (hP z18 Z15 h15 hx15 hG15 (fr_tr (M := [(16, (-1)), (17, (-1)), (18, (-1)), (19, (-1))]) (fr_tr (M := [(16, (-1)), (17, (-1)), (18, (-1)), (19, (-1))]) (fr_tr (M := [(16, (-1)), (17, (-1)), (18, (-1)), (19, (-1))]) fr_rf (hf2) (M1 := []) rfl rfl) (hf10) rfl rfl) (fr_ua hE15) rfl rfl) (by omega))
        · skip
          refine mx_J.step (sn_29 29) (fun _ _ => rfl) ?_
          refine JgetR (g := 0) (b := 7) hx10 (show mx_Sn _ _ 30 (mx_getf 4 0 33) from sn_29 30) a12 s12 rfl rfl (hG10.prr 12 0 rfl) ?_
          refine mx_J.step (sn_29 33) (fun _ _ => rfl) ?_
          refine mx_J.step (sn_29 34) (fun _ _ => rfl) ?_
          have eq21 : Z10 9 (x0 * 18 + w9_5) = Z 9 (x0 * 18 + w9_5) := ((hf10 9 (x0 * 18 + w9_5) rfl).trans (hf2 9 (x0 * 18 + w9_5) rfl))
          have b22 : 0 ≤ Z 9 (x0 * 18 + w9_5) ∧ Z 9 (x0 * 18 + w9_5) ≤ 18 := hG.pr 9 (x0 * 18 + w9_5)
          have eq23 : Z10 10 x0 = Z 10 x0 := ((hf10 10 x0 rfl).trans (hf2 10 x0 rfl))
          have eq24 : Z10 7 5 = Z 7 5 := ((hf10 7 5 rfl).trans (hf2 7 5 rfl))
          obtain ⟨z20, hc20, b20⟩ := ct_6_7 (d := d + 0) (l := l) (D := D) (b0 := b0) (ad := ad) (Hb := Hb) (tau := tau) hx10 hG10 (show (-2147483648) ≤ x0 ∧ x0 ≤ 2147483647 by omega) (show (-2147483648) ≤ w9_5 ∧ w9_5 ≤ 2147483647 by omega)
          try rw [eq21] at b20
          try rw [eq23] at b20
          try rw [eq24] at b20
          refine Jcv hx10 (show mx_Sn _ _ 36 (mx_callv 6 3 0 39) from sn_29 36) a7 s7 hc20 rfl rfl rfl ?_
          refine mx_J.step (ls2 := [some (.ref 12), some (xI x0), some (xI x1), some (xI z4), some (xI w9_4), some (xI w9_5), some (xI z20), u9_7]) (sn_29 39) (fun _ _ => rfl) ?_
          have pv := (GI_sm hG x0 w9_5 (by omega) (by omega) (by omega) (by omega)).2 (by omega)
          refine mx_J.step (sn_29 41) (fun _ _ => rfl) ?_
          refine mx_J.step (sn_29 43) (fun _ _ => rfl) ?_
          have c60 : ∀ (k25_0 : Int) (Z26 : xZ) (h26 : mx_H), 0 ≤ k25_0 ∧ k25_0 ≤ 18 → k25_0 ≤ z20 → XH n s S Z26 h26 → GI n S Z26 → fr' [(16, (-1)), (17, (-1)), (18, (-1))] Z10 Z26 → mx_J (tB l D b0 ad Hb tau) mt_29 (d + 2) 60 [some (.ref 12), some (xI x0), some (xI x1), some (xI z4), some (xI w9_4), some (xI w9_5), some (xI z20), u9_7] [xI k25_0] h26 Post := by
            intro k25_0 Z26 h26 f25_0 f25_1 hx26 hG26 hf26
            refine mx_J.step (ls2 := [some (.ref 12), some (xI x0), some (xI x1), some (xI z4), some (xI w9_4), some (xI w9_5), some (xI z20), some (xI k25_0)]) (sn_29 60) (fun _ _ => rfl) ?_
            have pw : 0 ≤ Z 9 (x0 * 18 + w9_5) ∧ Z 9 (x0 * 18 + w9_5) ≤ 18 := hG.pr 9 (x0 * 18 + w9_5)
            have px := ps_s (Z := Z) (t := x0) (p := w9_5) (by omega)
            have py : ps Z x0 (w9_5 + 1) ≤ 18 := (GI_sm hG x0 (w9_5 + 1) (by omega) (by omega) (by omega) (by omega)).1
            refine mx_J.step (sn_29 62) (fun _ _ => rfl) ?_
            refine mx_J.step (sn_29 64) (fun _ _ => rfl) ?_
            refine Jiadd (show mx_Sn _ _ 66 (mx_iadd 67) from sn_29 66) ?_
            refine mx_J.step (ls2 := [some (.ref 12), some (xI x0), some (xI x1), some (xI z4), some (xI (w9_4 + k25_0)), some (xI w9_5), some (xI z20), some (xI k25_0)]) (sn_29 67) (fun _ _ => rfl) ?_
            refine mx_J.step (sn_29 69) (fun _ _ => rfl) ?_
            refine JgetR (g := 8) (b := 19) hx26 (show mx_Sn _ _ 70 (mx_getf 4 8 73) from sn_29 70) a12 s12 rfl rfl (hG26.prr 12 8 rfl) ?_
            refine mx_J.step (sn_29 73) (fun _ _ => rfl) ?_
            refine mx_J.step (sn_29 75) (fun _ _ => rfl) ?_
            refine Jisub (show mx_Sn _ _ 77 (mx_isub 78) from sn_29 77) ?_
            refine mx_J.step (sn_29 78) (fun _ _ => rfl) ?_
            have b28 : 0 ≤ Z10 19 (z20 - k25_0) ∧ Z10 19 (z20 - k25_0) ≤ w9_5 := f9_4 (z20 - k25_0) (by omega) (by omega)
            have b29 : (-2147483648) ≤ Z10 19 (z20 - k25_0) ∧ Z10 19 (z20 - k25_0) ≤ 2147483647 := hG10.pr 19 (z20 - k25_0)
            refine JialdI (z := Z10 19 (z20 - k25_0)) hx26 (show mx_Sn _ _ 79 (mx_iald 80) from sn_29 79) a19 s19 (by omega) (hf26 19 (z20 - k25_0) rfl) ?_
            refine JcI (z := 1) (show mx_Sn _ _ 80 (mx_const (.int 1) 81) from sn_29 80) rfl ?_
            refine Jiadd (show mx_Sn _ _ 81 (mx_iadd 82) from sn_29 81) ?_
            refine JiastI hx26 (show mx_Sn _ _ 82 (mx_iast 1 83) from sn_29 82) a19 s19 rfl (by omega) (fun Z30 h30 hx30 hE30 => ?_)
            have hG30 := GI_up hG26 hE30 (show (-2147483648) ≤ (Z10 19 (z20 - k25_0)) + 1 ∧ (Z10 19 (z20 - k25_0)) + 1 ≤ 2147483647 by omega) trivial rfl
            have m31 : AB Z26 19 19 0 w9_5 := ab_fr f9_4 hf26 (fun _ => rfl)
            have m30 : AB Z30 19 19 0 (w9_5 + 1) := ab_up hE30 m31 (by omega) (by omega) (by omega)
            refine Jiinc (z := w9_5) (cz := 1) (ls2 := [some (.ref 12), some (xI x0), some (xI x1), some (xI z4), some (xI (w9_4 + k25_0)), some (xI (w9_5 + 1)), some (xI z20), some (xI k25_0)]) (show mx_Sn _ _ 83 (mx_iinc 5 1 86) from sn_29 83) rfl rfl rfl rfl ?_
            refine mx_J.step (sn_29 86) (fun _ _ => rfl) ?_
            exact ih9 (w9_4 + k25_0) (w9_5 + 1) (some (xI z20)) (some (xI k25_0)) Z30 h30 (by omega) (by omega) (by omega) (by omega) (by omega) (ab_mono m30 (by omega) (by omega) (by omega)) hx30 hG30 (fr_tr (M := [(16, (-1)), (17, (-1)), (18, (-1)), (19, (-1))]) (fr_tr (M := [(16, (-1)), (17, (-1)), (18, (-1)), (19, (-1))]) (fr_tr (M := [(16, (-1)), (17, (-1)), (18, (-1)), (19, (-1))]) fr_rf (hf10) (M1 := []) rfl rfl) (hf26) rfl rfl) (fr_ua hE30) rfl rfl)
          refine Jicmp_ne (show mx_Sn _ _ 44 (mx_icmp_ne 51 47) from sn_29 44) (by omega) (by omega) (fun q32 => ?_) (fun q32 => ?_)
          · skip
            refine mx_J.step (sn_29 51) (fun _ _ => rfl) ?_
            refine mx_J.step (sn_29 52) (fun _ _ => rfl) ?_
            refine mx_J.step (sn_29 54) (fun _ _ => rfl) ?_
            refine mx_J.step (sn_29 56) (fun _ _ => rfl) ?_
            obtain ⟨z33, Z33, h33, hc33, hx33, hG33, hf33, b33⟩ := ct_30_12 (d := d + 0) (l := l) (D := D) (b0 := b0) (ad := ad) (Hb := Hb) (tau := tau) hx10 hG10 (show 1 ≤ z20 ∧ z20 ≤ 18 by omega) (show 0 ≤ w9_5 ∧ w9_5 ≤ 17 by omega) (show 0 ≤ z4 ∧ z4 ≤ 18 by omega)
            refine Jcv hx10 (show mx_Sn _ _ 57 (mx_callv 30 4 4 60) from sn_29 57) a12 s12 hc33 rfl rfl rfl ?_
            exact c60 z33 Z33 h33 (by omega) (by omega) hx33 hG33 (fr_tr (M := [(16, (-1)), (17, (-1)), (18, (-1))]) fr_rf (hf33) (M1 := []) rfl rfl)
          · skip
            refine JcI (z := 0) (show mx_Sn _ _ 47 (mx_const (.int 0) 48) from sn_29 47) rfl ?_
            refine mx_J.step (sn_29 48) (fun _ _ => rfl) ?_
            exact c60 0 Z10 h10 (by omega) (by omega) hx10 hG10 fr_rf
    exact c23 (Int.toNat (18 - 0) + 1) 0 0 none none Z2 h2 (by omega) (by omega) (by omega) (by omega) (by omega) (ab_mono m2_19 (by omega) (by omega) (by omega)) hx2 hG2 fr_rf
theorem ct_29_12 {l : Launch} {D : va_G} {b0 : Nat} {ad : Nat → Nat} {Hb : Heap} {tau : Nat → Int64} {d n s : Nat} {S : Nat → xS} {Z : xZ} {h : mx_H} (hx : XH n s S Z h) (hG : GI n S Z)  {x0 x1 : Int} (p0 : (-2147483648) ≤ x0 ∧ x0 ≤ 2147483647) (p1 : (-2147483648) ≤ x1 ∧ x1 ≤ 2147483647) : ∃ (z : Int) (Z' : xZ) (h' : mx_H), mx_Ca (tB l D b0 ad Hb tau) (d + 3) 29 [.ref 12, xI x0, xI x1] h (some (xI z), h') ∧ XH n s S Z' h' ∧ GI n S Z' ∧ fr' [(16, (-1)), (17, (-1)), (18, (-1)), (19, (-1))] Z Z' ∧ (0 ≤ z ∧ z ≤ 384) := by
  obtain ⟨r, hca, z, Z', h', e, q⟩ := Jmt (B := tB l D b0 ad Hb tau) (M := mt_29) (mi := 29) (as := [.ref 12, xI x0, xI x1]) (d := d + 2) (ls := [some (.ref 12), some (xI x0), some (xI x1), none, none, none, none, none]) rfl rfl rfl rfl rfl rfl (cw_29_12 (l := l) (D := D) (b0 := b0) (ad := ad) (Hb := Hb) (tau := tau) (d := d) (Post := fun r => ∃ (z : Int) (Z' : xZ) (h' : mx_H), r = (some (xI z), h') ∧ XH n s S Z' h' ∧ GI n S Z' ∧ fr' [(16, (-1)), (17, (-1)), (18, (-1)), (19, (-1))] Z Z' ∧ (0 ≤ z ∧ z ≤ 384)) hx hG p0 p1 (fun z Z' h' q1 q2 q3 q4 => ⟨z, Z', h', rfl, q1, q2, q3, q4⟩))
  subst e; exact ⟨z, Z', h', hca, q⟩
set_option maxRecDepth 100000 in
theorem cw_26_12 {l : Launch} {D : va_G} {b0 : Nat} {ad : Nat → Nat} {Hb : Heap} {tau : Nat → Int64} {d n s : Nat} {S : Nat → xS} {Z : xZ} {h : mx_H} {Post : mx_R → Prop} (hx : XH n s S Z h) (hG : GI n S Z)  {x0 x1 : Int} (p0 : (-2147483648) ≤ x0 ∧ x0 ≤ 2147483647) (p1 : (-2147483648) ≤ x1 ∧ x1 ≤ 2147483647) (hP : ∀ (z : Int) (Z' : xZ) (h' : mx_H), XH n s S Z' h' → GI n S Z' → fr' [(14, (-1)), (16, (-1)), (17, (-1)), (18, (-1)), (19, (-1))] Z Z' → (-1) ≤ z ∧ z ≤ 384 → Post (some (xI z), h')) : mx_J (tB l D b0 ad Hb tau) mt_26 (d + 3) 0 [some (.ref 12), some (xI x0), some (xI x1), none, none, none] [] h Post := by
    have a7 : 7 < n := lt83 (GI_n hG) rfl
    have s7 : S 7 = .inl (0, [2, 2, 2, 2, 0, 0]) := GI_s hG 7 rfl
    have a12 : 12 < n := lt83 (GI_n hG) rfl
    have s12 : S 12 = .inl (4, [2, 2, 0, 2, 2, 2, 2, 2, 2]) := GI_s hG 12 rfl
    have a14 : 14 < n := lt83 (GI_n hG) rfl
    have s14 : S 14 = .inr (.int, 7315, 0) := GI_s hG 14 rfl
    refine mx_J.step (sn_26 0) (fun _ _ => rfl) ?_
    have c25 : mx_J (tB l D b0 ad Hb tau) mt_26 (d + 3) 25 [some (.ref 12), some (xI x0), some (xI x1), none, none, none] [] h Post := by
      refine JcI (z := (-1)) (show mx_Sn _ _ 25 (mx_const (.int (-1)) 26) from sn_26 25) rfl ?_
      exact mx_J.ret (sn_26 26) (fun _ _ => rfl) (hP (-1) Z h hx hG fr_rf (by omega))
    refine Jif_lt (show mx_Sn _ _ 1 (mx_if_lt 25 4) from sn_26 1) (by omega) (fun q2 => ?_) (fun q2 => ?_)
    · skip
      exact c25 
    · skip
      refine mx_J.step (sn_26 4) (fun _ _ => rfl) ?_
      refine mx_J.step (sn_26 5) (fun _ _ => rfl) ?_
      refine JgetR (g := 0) (b := 7) hx (show mx_Sn _ _ 6 (mx_getf 4 0 9) from sn_26 6) a12 s12 rfl rfl (hG.prr 12 0 rfl) ?_
      have b5 : 0 ≤ Z 7 5 ∧ Z 7 5 ≤ 385 := hG.pr 7 5
      refine JgetI (g := 5) (z := Z 7 5) hx (show mx_Sn _ _ 9 (mx_getf 0 5 12) from sn_26 9) a7 s7 rfl rfl rfl ?_
      refine Jicmp_ge (show mx_Sn _ _ 12 (mx_icmp_ge 25 15) from sn_26 12) (by omega) (by omega) (fun q6 => ?_) (fun q6 => ?_)
      · skip
        exact c25 
      · skip
        refine mx_J.step (sn_26 15) (fun _ _ => rfl) ?_
        refine Jif_lt (show mx_Sn _ _ 16 (mx_if_lt 25 19) from sn_26 16) (by omega) (fun q7 => ?_) (fun q7 => ?_)
        · skip
          exact c25 
        · skip
          refine mx_J.step (sn_26 19) (fun _ _ => rfl) ?_
          refine JcI (z := 18) (show mx_Sn _ _ 20 (mx_const (.int 18) 22) from sn_26 20) rfl ?_
          refine Jicmp_le (show mx_Sn _ _ 22 (mx_icmp_le 27 25) from sn_26 22) (by omega) (by omega) (fun q8 => ?_) (fun q8 => ?_)
          · skip
            refine mx_J.step (sn_26 27) (fun _ _ => rfl) ?_
            refine JcI (z := 19) (show mx_Sn _ _ 28 (mx_const (.int 19) 30) from sn_26 28) rfl ?_
            refine Jimul (show mx_Sn _ _ 30 (mx_imul 31) from sn_26 30) ?_
            refine mx_J.step (sn_26 31) (fun _ _ => rfl) ?_
            refine Jiadd (show mx_Sn _ _ 32 (mx_iadd 33) from sn_26 32) ?_
            refine mx_J.step (ls2 := [some (.ref 12), some (xI x0), some (xI x1), some (xI ((x0 * 19) + x1)), none, none]) (sn_26 33) (fun _ _ => rfl) ?_
            refine mx_J.step (sn_26 34) (fun _ _ => rfl) ?_
            refine JgetR (g := 3) (b := 14) hx (show mx_Sn _ _ 35 (mx_getf 4 3 38) from sn_26 35) a12 s12 rfl rfl (hG.prr 12 3 rfl) ?_
            refine mx_J.step (sn_26 38) (fun _ _ => rfl) ?_
            have b10 : (-2147483648) ≤ Z 14 ((x0 * 19) + x1) ∧ Z 14 ((x0 * 19) + x1) ≤ 2147483647 := hG.pr 14 ((x0 * 19) + x1)
            have b11 : (Z 14 ((x0 * 19) + x1)) % 1024 ≤ 385 := GI_ex hG 14 ((x0 * 19) + x1)
            refine JialdI (z := Z 14 ((x0 * 19) + x1)) hx (show mx_Sn _ _ 39 (mx_iald 40) from sn_26 39) a14 s14 (by omega) rfl ?_
            refine JcI (z := 10) (show mx_Sn _ _ 40 (mx_const (.int 10) 42) from sn_26 40) rfl ?_
            refine JishrX (show mx_Sn _ _ 42 (mx_ishr 43) from sn_26 42) (fun y12 hy12 => ?_)
            refine mx_J.step (sn_26 43) (fun _ _ => rfl) ?_
            have b14 : (-2147483648) ≤ Z 12 2 ∧ Z 12 2 ≤ 2147483647 := hG.pr 12 2
            refine JgetI (g := 2) (z := Z 12 2) hx (show mx_Sn _ _ 44 (mx_getf 4 2 47) from sn_26 44) a12 s12 rfl rfl rfl ?_
            have c101 : ∀ (u15_4 : Option Value) (u15_5 : Option Value) (Z16 : xZ) (h16 : mx_H), XH n s S Z16 h16 → GI n S Z16 → fr' [(14, (-1)), (16, (-1)), (17, (-1)), (18, (-1)), (19, (-1))] Z Z16 → mx_J (tB l D b0 ad Hb tau) mt_26 (d + 3) 101 [some (.ref 12), some (xI x0), some (xI x1), some (xI ((x0 * 19) + x1)), u15_4, u15_5] [] h16 Post := by
              intro u15_4 u15_5 Z16 h16 hx16 hG16 hf16
              refine mx_J.step (sn_26 101) (fun _ _ => rfl) ?_
              refine JgetR (g := 3) (b := 14) hx16 (show mx_Sn _ _ 102 (mx_getf 4 3 105) from sn_26 102) a12 s12 rfl rfl (hG16.prr 12 3 rfl) ?_
              refine mx_J.step (sn_26 105) (fun _ _ => rfl) ?_
              have b18 : (-2147483648) ≤ Z16 14 ((x0 * 19) + x1) ∧ Z16 14 ((x0 * 19) + x1) ≤ 2147483647 := hG16.pr 14 ((x0 * 19) + x1)
              have b19 : (Z16 14 ((x0 * 19) + x1)) % 1024 ≤ 385 := GI_ex hG16 14 ((x0 * 19) + x1)
              refine JialdI (z := Z16 14 ((x0 * 19) + x1)) hx16 (show mx_Sn _ _ 106 (mx_iald 107) from sn_26 106) a14 s14 (by omega) rfl ?_
              refine JcI (z := 1023) (show mx_Sn _ _ 107 (mx_const (.int 1023) 110) from sn_26 107) rfl ?_
              refine JiandM (q := 1024) 10 (show mx_Sn _ _ 110 (mx_iand 111) from sn_26 110) rfl rfl rfl ?_
              refine JcI (z := 1) (show mx_Sn _ _ 111 (mx_const (.int 1) 112) from sn_26 111) rfl ?_
              refine Jisub (show mx_Sn _ _ 112 (mx_isub 113) from sn_26 112) ?_
              exact mx_J.ret (sn_26 113) (fun _ _ => rfl) (hP (((Z16 14 ((x0 * 19) + x1)) % 1024) - 1) Z16 h16 hx16 hG16 (fr_tr (M := [(14, (-1)), (16, (-1)), (17, (-1)), (18, (-1)), (19, (-1))]) fr_rf (hf16) (M1 := []) rfl rfl) (by omega))
            refine Jicmp_eq (show mx_Sn _ _ 47 (mx_icmp_eq 101 50) from sn_26 47) (by omega) (by omega) (fun q20 => ?_) (fun q20 => ?_)
            · skip
              exact c101 none none Z h hx hG fr_rf
            · skip
              refine mx_J.step (sn_26 50) (fun _ _ => rfl) ?_
              refine JgetR (g := 0) (b := 7) hx (show mx_Sn _ _ 51 (mx_getf 4 0 54) from sn_26 51) a12 s12 rfl rfl (hG.prr 12 0 rfl) ?_
              refine mx_J.step (sn_26 54) (fun _ _ => rfl) ?_
              refine mx_J.step (sn_26 55) (fun _ _ => rfl) ?_
              obtain ⟨z22, hc22, b22⟩ := ct_7_7 (d := d + 1) (l := l) (D := D) (b0 := b0) (ad := ad) (Hb := Hb) (tau := tau) hx hG (show (-2147483648) ≤ x0 ∧ x0 ≤ 2147483647 by omega) (show (-2147483648) ≤ x1 ∧ x1 ≤ 2147483647 by omega)
              refine Jcv hx (show mx_Sn _ _ 56 (mx_callv 7 3 0 59) from sn_26 56) a7 s7 hc22 rfl rfl rfl ?_
              refine mx_J.step (ls2 := [some (.ref 12), some (xI x0), some (xI x1), some (xI ((x0 * 19) + x1)), some (xI z22), none]) (sn_26 59) (fun _ _ => rfl) ?_
              refine mx_J.step (sn_26 61) (fun _ _ => rfl) ?_
              have c81 : ∀ (k23_0 : Int) (Z24 : xZ) (h24 : mx_H), (-1) ≤ k23_0 ∧ k23_0 ≤ 384 → XH n s S Z24 h24 → GI n S Z24 → fr' [(16, (-1)), (17, (-1)), (18, (-1)), (19, (-1))] Z Z24 → mx_J (tB l D b0 ad Hb tau) mt_26 (d + 3) 81 [some (.ref 12), some (xI x0), some (xI x1), some (xI ((x0 * 19) + x1)), some (xI z22), none] [xI k23_0] h24 Post := by
                intro k23_0 Z24 h24 f23_0 hx24 hG24 hf24
                refine mx_J.step (ls2 := [some (.ref 12), some (xI x0), some (xI x1), some (xI ((x0 * 19) + x1)), some (xI z22), some (xI k23_0)]) (sn_26 81) (fun _ _ => rfl) ?_
                refine mx_J.step (sn_26 83) (fun _ _ => rfl) ?_
                refine JgetR (g := 3) (b := 14) hx24 (show mx_Sn _ _ 84 (mx_getf 4 3 87) from sn_26 84) a12 s12 rfl rfl (hG24.prr 12 3 rfl) ?_
                refine mx_J.step (sn_26 87) (fun _ _ => rfl) ?_
                refine mx_J.step (sn_26 88) (fun _ _ => rfl) ?_
                refine JgetI (g := 2) (z := Z 12 2) hx24 (show mx_Sn _ _ 89 (mx_getf 4 2 92) from sn_26 89) a12 s12 rfl rfl (hf24 12 2 rfl) ?_
                refine JcI (z := 10) (show mx_Sn _ _ 92 (mx_const (.int 10) 94) from sn_26 92) rfl ?_
                refine Jishl10 (show mx_Sn _ _ 94 (mx_ishl 95) from sn_26 94) (fun y27 hy27 => ?_)
                refine mx_J.step (sn_26 95) (fun _ _ => rfl) ?_
                refine JcI (z := 1) (show mx_Sn _ _ 97 (mx_const (.int 1) 98) from sn_26 97) rfl ?_
                refine Jiadd (show mx_Sn _ _ 98 (mx_iadd 99) from sn_26 98) ?_
                refine Jior10 (show mx_Sn _ _ 99 (mx_ior 100) from sn_26 99) (by omega) (by omega) (fun y28 hy28 => ?_)
                refine JiastI hx24 (show mx_Sn _ _ 100 (mx_iast 1 101) from sn_26 100) a14 s14 rfl (by omega) (fun Z29 h29 hx29 hE29 => ?_)
                have hG29 := GI_up hG24 hE29 (show (-2147483648) ≤ y28 ∧ y28 ≤ 2147483647 by omega) (show y28 % 1024 ≤ 385 by first | omega | (unfold f57 at *; omega)) rfl
                exact c101 (some (xI z22)) (some (xI k23_0)) Z29 h29 hx29 hG29 (fr_tr (M := [(14, (-1)), (16, (-1)), (17, (-1)), (18, (-1)), (19, (-1))]) (fr_tr (M := [(14, (-1)), (16, (-1)), (17, (-1)), (18, (-1)), (19, (-1))]) fr_rf (hf24) (M1 := []) rfl rfl) (fr_ua hE29) rfl rfl)
              have c74 : mx_J (tB l D b0 ad Hb tau) mt_26 (d + 3) 74 [some (.ref 12), some (xI x0), some (xI x1), some (xI ((x0 * 19) + x1)), some (xI z22), none] [] h Post := by
                refine mx_J.step (sn_26 74) (fun _ _ => rfl) ?_
                refine mx_J.step (sn_26 75) (fun _ _ => rfl) ?_
                refine mx_J.step (sn_26 76) (fun _ _ => rfl) ?_
                obtain ⟨z31, Z31, h31, hc31, hx31, hG31, hf31, b31⟩ := ct_29_12 (d := d + 0) (l := l) (D := D) (b0 := b0) (ad := ad) (Hb := Hb) (tau := tau) hx hG (show (-2147483648) ≤ x0 ∧ x0 ≤ 2147483647 by omega) (show (-2147483648) ≤ z22 ∧ z22 ≤ 2147483647 by omega)
                refine Jcv hx (show mx_Sn _ _ 78 (mx_callv 29 3 4 81) from sn_26 78) a12 s12 hc31 rfl rfl rfl ?_
                exact c81 z31 Z31 h31 (by omega) hx31 hG31 (fr_tr (M := [(16, (-1)), (17, (-1)), (18, (-1)), (19, (-1))]) fr_rf (hf31) (M1 := []) rfl rfl)
              refine Jif_le (show mx_Sn _ _ 62 (mx_if_le 74 65) from sn_26 62) (by omega) (fun q32 => ?_) (fun q32 => ?_)
              · skip
                exact c74 
              · skip
                refine mx_J.step (sn_26 65) (fun _ _ => rfl) ?_
                refine Jif_ge (show mx_Sn _ _ 67 (mx_if_ge 74 70) from sn_26 67) (by omega) (fun q33 => ?_) (fun q33 => ?_)
                · skip
                  exact c74 
                · skip
                  refine JcI (z := (-1)) (show mx_Sn _ _ 70 (mx_const (.int (-1)) 71) from sn_26 70) rfl ?_
                  refine mx_J.step (sn_26 71) (fun _ _ => rfl) ?_
                  exact c81 (-1) Z h (by omega) hx hG fr_rf
          · skip
            exact c25 
theorem ct_26_12 {l : Launch} {D : va_G} {b0 : Nat} {ad : Nat → Nat} {Hb : Heap} {tau : Nat → Int64} {d n s : Nat} {S : Nat → xS} {Z : xZ} {h : mx_H} (hx : XH n s S Z h) (hG : GI n S Z)  {x0 x1 : Int} (p0 : (-2147483648) ≤ x0 ∧ x0 ≤ 2147483647) (p1 : (-2147483648) ≤ x1 ∧ x1 ≤ 2147483647) : ∃ (z : Int) (Z' : xZ) (h' : mx_H), mx_Ca (tB l D b0 ad Hb tau) (d + 4) 26 [.ref 12, xI x0, xI x1] h (some (xI z), h') ∧ XH n s S Z' h' ∧ GI n S Z' ∧ fr' [(14, (-1)), (16, (-1)), (17, (-1)), (18, (-1)), (19, (-1))] Z Z' ∧ ((-1) ≤ z ∧ z ≤ 384) := by
  obtain ⟨r, hca, z, Z', h', e, q⟩ := Jmt (B := tB l D b0 ad Hb tau) (M := mt_26) (mi := 26) (as := [.ref 12, xI x0, xI x1]) (d := d + 3) (ls := [some (.ref 12), some (xI x0), some (xI x1), none, none, none]) rfl rfl rfl rfl rfl rfl (cw_26_12 (l := l) (D := D) (b0 := b0) (ad := ad) (Hb := Hb) (tau := tau) (d := d) (Post := fun r => ∃ (z : Int) (Z' : xZ) (h' : mx_H), r = (some (xI z), h') ∧ XH n s S Z' h' ∧ GI n S Z' ∧ fr' [(14, (-1)), (16, (-1)), (17, (-1)), (18, (-1)), (19, (-1))] Z Z' ∧ ((-1) ≤ z ∧ z ≤ 384)) hx hG p0 p1 (fun z Z' h' q1 q2 q3 q4 => ⟨z, Z', h', rfl, q1, q2, q3, q4⟩))
  subst e; exact ⟨z, Z', h', hca, q⟩
set_option maxRecDepth 100000 in
theorem cw_28_12 {l : Launch} {D : va_G} {b0 : Nat} {ad : Nat → Nat} {Hb : Heap} {tau : Nat → Int64} {d n s : Nat} {S : Nat → xS} {Z : xZ} {h : mx_H} {Post : mx_R → Prop} (hx : XH n s S Z h) (hG : GI n S Z)  {x0 x1 : Int} (p0 : (-2147483648) ≤ x0 ∧ x0 ≤ 2147483647) (p1 : (-2147483648) ≤ x1 ∧ x1 ≤ 2147483647) (hP : ∀ (z : Int) (Z' : xZ) (h' : mx_H), XH n s S Z' h' → GI n S Z' → fr' [(14, (-1)), (15, (-1)), (16, (-1)), (17, (-1)), (18, (-1)), (19, (-1))] Z Z' → (-1) ≤ z ∧ z ≤ 384 → Post (some (xI z), h')) : mx_J (tB l D b0 ad Hb tau) mt_28 (d + 4) 0 [some (.ref 12), some (xI x0), some (xI x1), none] [] h Post := by
    have a7 : 7 < n := lt83 (GI_n hG) rfl
    have s7 : S 7 = .inl (0, [2, 2, 2, 2, 0, 0]) := GI_s hG 7 rfl
    have a12 : 12 < n := lt83 (GI_n hG) rfl
    have s12 : S 12 = .inl (4, [2, 2, 0, 2, 2, 2, 2, 2, 2]) := GI_s hG 12 rfl
    have a15 : 15 < n := lt83 (GI_n hG) rfl
    have s15 : S 15 = .inr (.int, 3850, 0) := GI_s hG 15 rfl
    refine mx_J.step (sn_28 0) (fun _ _ => rfl) ?_
    have c25 : mx_J (tB l D b0 ad Hb tau) mt_28 (d + 4) 25 [some (.ref 12), some (xI x0), some (xI x1), none] [] h Post := by
      refine JcI (z := (-1)) (show mx_Sn _ _ 25 (mx_const (.int (-1)) 26) from sn_28 25) rfl ?_
      exact mx_J.ret (sn_28 26) (fun _ _ => rfl) (hP (-1) Z h hx hG fr_rf (by omega))
    refine Jif_lt (show mx_Sn _ _ 1 (mx_if_lt 25 4) from sn_28 1) (by omega) (fun q2 => ?_) (fun q2 => ?_)
    · skip
      exact c25 
    · skip
      refine mx_J.step (sn_28 4) (fun _ _ => rfl) ?_
      refine mx_J.step (sn_28 5) (fun _ _ => rfl) ?_
      refine JgetR (g := 0) (b := 7) hx (show mx_Sn _ _ 6 (mx_getf 4 0 9) from sn_28 6) a12 s12 rfl rfl (hG.prr 12 0 rfl) ?_
      have b5 : 0 ≤ Z 7 5 ∧ Z 7 5 ≤ 385 := hG.pr 7 5
      refine JgetI (g := 5) (z := Z 7 5) hx (show mx_Sn _ _ 9 (mx_getf 0 5 12) from sn_28 9) a7 s7 rfl rfl rfl ?_
      refine Jicmp_ge (show mx_Sn _ _ 12 (mx_icmp_ge 25 15) from sn_28 12) (by omega) (by omega) (fun q6 => ?_) (fun q6 => ?_)
      · skip
        exact c25 
      · skip
        refine mx_J.step (sn_28 15) (fun _ _ => rfl) ?_
        refine Jif_lt (show mx_Sn _ _ 16 (mx_if_lt 25 19) from sn_28 16) (by omega) (fun q7 => ?_) (fun q7 => ?_)
        · skip
          exact c25 
        · skip
          refine mx_J.step (sn_28 19) (fun _ _ => rfl) ?_
          refine JcI (z := 10) (show mx_Sn _ _ 20 (mx_const (.int 10) 22) from sn_28 20) rfl ?_
          refine Jicmp_lt (show mx_Sn _ _ 22 (mx_icmp_lt 27 25) from sn_28 22) (by omega) (by omega) (fun q8 => ?_) (fun q8 => ?_)
          · skip
            refine mx_J.step (sn_28 27) (fun _ _ => rfl) ?_
            refine mx_J.step (sn_28 28) (fun _ _ => rfl) ?_
            refine JgetR (g := 0) (b := 7) hx (show mx_Sn _ _ 29 (mx_getf 4 0 32) from sn_28 29) a12 s12 rfl rfl (hG.prr 12 0 rfl) ?_
            refine mx_J.step (sn_28 32) (fun _ _ => rfl) ?_
            have b11 : 0 ≤ Z 10 x0 ∧ Z 10 x0 ≤ 18 := hG.pr 10 x0
            obtain ⟨z10, hc10, b10⟩ := ct_5_7 (d := d + 3) (l := l) (D := D) (b0 := b0) (ad := ad) (Hb := Hb) (tau := tau) hx hG (show (-2147483648) ≤ x0 ∧ x0 ≤ 2147483647 by omega)
            refine Jcv hx (show mx_Sn _ _ 33 (mx_callv 5 2 0 36) from sn_28 33) a7 s7 hc10 rfl rfl rfl ?_
            refine Jicmp_lt (show mx_Sn _ _ 36 (mx_icmp_lt 46 39) from sn_28 36) (by omega) (by omega) (fun q12 => ?_) (fun q12 => ?_)
            · skip
              refine mx_J.step (sn_28 46) (fun _ _ => rfl) ?_
              refine JcI (z := 10) (show mx_Sn _ _ 47 (mx_const (.int 10) 49) from sn_28 47) rfl ?_
              refine Jimul (show mx_Sn _ _ 49 (mx_imul 50) from sn_28 49) ?_
              refine mx_J.step (sn_28 50) (fun _ _ => rfl) ?_
              refine Jiadd (show mx_Sn _ _ 51 (mx_iadd 52) from sn_28 51) ?_
              refine mx_J.step (ls2 := [some (.ref 12), some (xI x0), some (xI x1), some (xI ((x0 * 10) + x1))]) (sn_28 52) (fun _ _ => rfl) ?_
              refine mx_J.step (sn_28 53) (fun _ _ => rfl) ?_
              refine JgetR (g := 4) (b := 15) hx (show mx_Sn _ _ 54 (mx_getf 4 4 57) from sn_28 54) a12 s12 rfl rfl (hG.prr 12 4 rfl) ?_
              refine mx_J.step (sn_28 57) (fun _ _ => rfl) ?_
              have b14 : (-2147483648) ≤ Z 15 ((x0 * 10) + x1) ∧ Z 15 ((x0 * 10) + x1) ≤ 2147483647 := hG.pr 15 ((x0 * 10) + x1)
              have b15 : (Z 15 ((x0 * 10) + x1)) % 1024 ≤ 385 := GI_ex hG 15 ((x0 * 10) + x1)
              refine JialdI (z := Z 15 ((x0 * 10) + x1)) hx (show mx_Sn _ _ 58 (mx_iald 59) from sn_28 58) a15 s15 (by omega) rfl ?_
              refine JcI (z := 10) (show mx_Sn _ _ 59 (mx_const (.int 10) 61) from sn_28 59) rfl ?_
              refine JishrX (show mx_Sn _ _ 61 (mx_ishr 62) from sn_28 61) (fun y16 hy16 => ?_)
              refine mx_J.step (sn_28 62) (fun _ _ => rfl) ?_
              have b18 : (-2147483648) ≤ Z 12 2 ∧ Z 12 2 ≤ 2147483647 := hG.pr 12 2
              refine JgetI (g := 2) (z := Z 12 2) hx (show mx_Sn _ _ 63 (mx_getf 4 2 66) from sn_28 63) a12 s12 rfl rfl rfl ?_
              have c91 : ∀  (Z20 : xZ) (h20 : mx_H), XH n s S Z20 h20 → GI n S Z20 → fr' [(15, (-1)), (16, (-1)), (17, (-1)), (18, (-1)), (19, (-1))] Z Z20 → mx_J (tB l D b0 ad Hb tau) mt_28 (d + 4) 91 [some (.ref 12), some (xI x0), some (xI x1), some (xI ((x0 * 10) + x1))] [] h20 Post := by
                intro Z20 h20 hx20 hG20 hf20
                refine mx_J.step (sn_28 91) (fun _ _ => rfl) ?_
                refine JgetR (g := 4) (b := 15) hx20 (show mx_Sn _ _ 92 (mx_getf 4 4 95) from sn_28 92) a12 s12 rfl rfl (hG20.prr 12 4 rfl) ?_
                refine mx_J.step (sn_28 95) (fun _ _ => rfl) ?_
                have b22 : (-2147483648) ≤ Z20 15 ((x0 * 10) + x1) ∧ Z20 15 ((x0 * 10) + x1) ≤ 2147483647 := hG20.pr 15 ((x0 * 10) + x1)
                have b23 : (Z20 15 ((x0 * 10) + x1)) % 1024 ≤ 385 := GI_ex hG20 15 ((x0 * 10) + x1)
                refine JialdI (z := Z20 15 ((x0 * 10) + x1)) hx20 (show mx_Sn _ _ 96 (mx_iald 97) from sn_28 96) a15 s15 (by omega) rfl ?_
                refine JcI (z := 1023) (show mx_Sn _ _ 97 (mx_const (.int 1023) 100) from sn_28 97) rfl ?_
                refine JiandM (q := 1024) 10 (show mx_Sn _ _ 100 (mx_iand 101) from sn_28 100) rfl rfl rfl ?_
                refine JcI (z := 1) (show mx_Sn _ _ 101 (mx_const (.int 1) 102) from sn_28 101) rfl ?_
                refine Jisub (show mx_Sn _ _ 102 (mx_isub 103) from sn_28 102) ?_
                exact mx_J.ret (sn_28 103) (fun _ _ => rfl) (hP (((Z20 15 ((x0 * 10) + x1)) % 1024) - 1) Z20 h20 hx20 hG20 (fr_tr (M := [(14, (-1)), (15, (-1)), (16, (-1)), (17, (-1)), (18, (-1)), (19, (-1))]) fr_rf (hf20) (M1 := []) rfl rfl) (by omega))
              refine Jicmp_eq (show mx_Sn _ _ 66 (mx_icmp_eq 91 69) from sn_28 66) (by omega) (by omega) (fun q24 => ?_) (fun q24 => ?_)
              · skip
                exact c91 Z h hx hG fr_rf
              · skip
                refine mx_J.step (sn_28 69) (fun _ _ => rfl) ?_
                refine JgetR (g := 4) (b := 15) hx (show mx_Sn _ _ 70 (mx_getf 4 4 73) from sn_28 70) a12 s12 rfl rfl (hG.prr 12 4 rfl) ?_
                refine mx_J.step (sn_28 73) (fun _ _ => rfl) ?_
                refine mx_J.step (sn_28 74) (fun _ _ => rfl) ?_
                refine JgetI (g := 2) (z := Z 12 2) hx (show mx_Sn _ _ 75 (mx_getf 4 2 78) from sn_28 75) a12 s12 rfl rfl rfl ?_
                refine JcI (z := 10) (show mx_Sn _ _ 78 (mx_const (.int 10) 80) from sn_28 78) rfl ?_
                refine Jishl10 (show mx_Sn _ _ 80 (mx_ishl 81) from sn_28 80) (fun y27 hy27 => ?_)
                refine mx_J.step (sn_28 81) (fun _ _ => rfl) ?_
                refine mx_J.step (sn_28 82) (fun _ _ => rfl) ?_
                refine mx_J.step (sn_28 83) (fun _ _ => rfl) ?_
                obtain ⟨z28, Z28, h28, hc28, hx28, hG28, hf28, b28⟩ := ct_29_12 (d := d + 1) (l := l) (D := D) (b0 := b0) (ad := ad) (Hb := Hb) (tau := tau) hx hG (show (-2147483648) ≤ x0 ∧ x0 ≤ 2147483647 by omega) (show (-2147483648) ≤ x1 ∧ x1 ≤ 2147483647 by omega)
                refine Jcv hx (show mx_Sn _ _ 84 (mx_callv 29 3 4 87) from sn_28 84) a12 s12 hc28 rfl rfl rfl ?_
                refine JcI (z := 1) (show mx_Sn _ _ 87 (mx_const (.int 1) 88) from sn_28 87) rfl ?_
                refine Jiadd (show mx_Sn _ _ 88 (mx_iadd 89) from sn_28 88) ?_
                refine Jior10 (show mx_Sn _ _ 89 (mx_ior 90) from sn_28 89) (by omega) (by omega) (fun y29 hy29 => ?_)
                refine JiastI hx28 (show mx_Sn _ _ 90 (mx_iast 1 91) from sn_28 90) a15 s15 rfl (by omega) (fun Z30 h30 hx30 hE30 => ?_)
                have hG30 := GI_up hG28 hE30 (show (-2147483648) ≤ y29 ∧ y29 ≤ 2147483647 by omega) (show y29 % 1024 ≤ 385 by first | omega | (unfold f57 at *; omega)) rfl
                exact c91 Z30 h30 hx30 hG30 (fr_tr (M := [(15, (-1)), (16, (-1)), (17, (-1)), (18, (-1)), (19, (-1))]) (fr_tr (M := [(15, (-1)), (16, (-1)), (17, (-1)), (18, (-1)), (19, (-1))]) fr_rf (hf28) (M1 := []) rfl rfl) (fr_ua hE30) rfl rfl)
            · skip
              refine mx_J.step (sn_28 39) (fun _ _ => rfl) ?_
              refine mx_J.step (sn_28 40) (fun _ _ => rfl) ?_
              refine JcI (z := 0) (show mx_Sn _ _ 41 (mx_const (.int 0) 42) from sn_28 41) rfl ?_
              obtain ⟨z31, Z31, h31, hc31, hx31, hG31, hf31, b31⟩ := ct_26_12 (d := d + 0) (l := l) (D := D) (b0 := b0) (ad := ad) (Hb := Hb) (tau := tau) hx hG (show (-2147483648) ≤ x0 ∧ x0 ≤ 2147483647 by omega) (show (-2147483648) ≤ 0 ∧ 0 ≤ 2147483647 by omega)
              refine Jcv hx (show mx_Sn _ _ 42 (mx_callv 26 3 4 45) from sn_28 42) a12 s12 hc31 rfl rfl rfl ?_
              exact mx_J.ret (sn_28 45) (fun _ _ => rfl) (hP z31 Z31 h31 hx31 hG31 (fr_tr (M := [(14, (-1)), (15, (-1)), (16, (-1)), (17, (-1)), (18, (-1)), (19, (-1))]) fr_rf (hf31) (M1 := []) rfl rfl) (by omega))
          · skip
            exact c25 
theorem ct_28_12 {l : Launch} {D : va_G} {b0 : Nat} {ad : Nat → Nat} {Hb : Heap} {tau : Nat → Int64} {d n s : Nat} {S : Nat → xS} {Z : xZ} {h : mx_H} (hx : XH n s S Z h) (hG : GI n S Z)  {x0 x1 : Int} (p0 : (-2147483648) ≤ x0 ∧ x0 ≤ 2147483647) (p1 : (-2147483648) ≤ x1 ∧ x1 ≤ 2147483647) : ∃ (z : Int) (Z' : xZ) (h' : mx_H), mx_Ca (tB l D b0 ad Hb tau) (d + 5) 28 [.ref 12, xI x0, xI x1] h (some (xI z), h') ∧ XH n s S Z' h' ∧ GI n S Z' ∧ fr' [(14, (-1)), (15, (-1)), (16, (-1)), (17, (-1)), (18, (-1)), (19, (-1))] Z Z' ∧ ((-1) ≤ z ∧ z ≤ 384) := by
  obtain ⟨r, hca, z, Z', h', e, q⟩ := Jmt (B := tB l D b0 ad Hb tau) (M := mt_28) (mi := 28) (as := [.ref 12, xI x0, xI x1]) (d := d + 4) (ls := [some (.ref 12), some (xI x0), some (xI x1), none]) rfl rfl rfl rfl rfl rfl (cw_28_12 (l := l) (D := D) (b0 := b0) (ad := ad) (Hb := Hb) (tau := tau) (d := d) (Post := fun r => ∃ (z : Int) (Z' : xZ) (h' : mx_H), r = (some (xI z), h') ∧ XH n s S Z' h' ∧ GI n S Z' ∧ fr' [(14, (-1)), (15, (-1)), (16, (-1)), (17, (-1)), (18, (-1)), (19, (-1))] Z Z' ∧ ((-1) ≤ z ∧ z ≤ 384)) hx hG p0 p1 (fun z Z' h' q1 q2 q3 q4 => ⟨z, Z', h', rfl, q1, q2, q3, q4⟩))
  subst e; exact ⟨z, Z', h', hca, q⟩
set_option maxRecDepth 100000 in
theorem cw_141_1_38 {l : Launch} {D : va_G} {b0 : Nat} {ad : Nat → Nat} {Hb : Heap} {tau : Nat → Int64} {d n s : Nat} {S : Nat → xS} {Z : xZ} {h : mx_H} {Post : mx_R → Prop} (hx : XH n s S Z h) (hG : GI n S Z)  {x0 x1 : Int} (p0 : (-2147483648) ≤ x0 ∧ x0 ≤ 2147483647) (p1 : (-2147483648) ≤ x1 ∧ x1 ≤ 2147483647) (hP : ∀ (z : Int) (Z' : xZ) (h' : mx_H), XH n s S Z' h' → GI n S Z' → fr' [(38, 2), (42, (-1))] Z Z' → 0 ≤ z ∧ z ≤ 2 → Post (some (xI z), h')) : mx_J (tB l D b0 ad Hb tau) mt_141 (d + 2) 0 [some (.ref 1), some (.ref 38), some (xI x0), some (xI x1)] [] h Post := by
    have a1 : 1 < n := lt83 (GI_n hG) rfl
    have s1 : S 1 = .inl (11, [2, 0, 0, 0, 2, 2, 2, 2, 2, 2, 2, 2, 2, 2, 2, 2, 2]) := GI_s hG 1 rfl
    have a7 : 7 < n := lt83 (GI_n hG) rfl
    have s7 : S 7 = .inl (0, [2, 2, 2, 2, 0, 0]) := GI_s hG 7 rfl
    have a38 : 38 < n := lt83 (GI_n hG) rfl
    have s38 : S 38 = .inl (5, [2, 0, 0, 0, 0, 0]) := GI_s hG 38 rfl
    have a42 : 42 < n := lt83 (GI_n hG) rfl
    have s42 : S 42 = .inr (.int, 19, 0) := GI_s hG 42 rfl
    refine mx_J.step (sn_141 0) (fun _ _ => rfl) ?_
    refine JcI (z := 1) (show mx_Sn _ _ 1 (mx_const (.int 1) 2) from sn_141 1) rfl ?_
    have c21 : mx_J (tB l D b0 ad Hb tau) mt_141 (d + 2) 21 [some (.ref 1), some (.ref 38), some (xI x0), some (xI x1)] [] h Post := by
      refine JcI (z := 1) (show mx_Sn _ _ 21 (mx_const (.int 1) 22) from sn_141 21) rfl ?_
      exact mx_J.ret (sn_141 22) (fun _ _ => rfl) (hP 1 Z h hx hG fr_rf (by omega))
    refine Jicmp_lt (show mx_Sn _ _ 2 (mx_icmp_lt 21 5) from sn_141 2) (by omega) (by omega) (fun q2 => ?_) (fun q2 => ?_)
    · skip
      exact c21 
    · skip
      refine mx_J.step (sn_141 5) (fun _ _ => rfl) ?_
      refine JcI (z := 18) (show mx_Sn _ _ 6 (mx_const (.int 18) 8) from sn_141 6) rfl ?_
      refine Jicmp_gt (show mx_Sn _ _ 8 (mx_icmp_gt 21 11) from sn_141 8) (by omega) (by omega) (fun q3 => ?_) (fun q3 => ?_)
      · skip
        exact c21 
      · skip
        refine mx_J.step (sn_141 11) (fun _ _ => rfl) ?_
        refine JcI (z := 1) (show mx_Sn _ _ 12 (mx_const (.int 1) 13) from sn_141 12) rfl ?_
        refine Jicmp_lt (show mx_Sn _ _ 13 (mx_icmp_lt 21 16) from sn_141 13) (by omega) (by omega) (fun q4 => ?_) (fun q4 => ?_)
        · skip
          exact c21 
        · skip
          refine mx_J.step (sn_141 16) (fun _ _ => rfl) ?_
          refine mx_J.step (sn_141 17) (fun _ _ => rfl) ?_
          refine Jicmp_lt (show mx_Sn _ _ 18 (mx_icmp_lt 23 21) from sn_141 18) (by omega) (by omega) (fun q5 => ?_) (fun q5 => ?_)
          · skip
            refine mx_J.step (sn_141 23) (fun _ _ => rfl) ?_
            refine JgetR (g := 5) (b := 7) hx (show mx_Sn _ _ 24 (mx_getf 11 5 27) from sn_141 24) a1 s1 rfl rfl (hG.prr 1 5 rfl) ?_
            refine mx_J.step (sn_141 27) (fun _ _ => rfl) ?_
            have b8 : 0 ≤ Z 38 2 ∧ Z 38 2 ≤ 384 := hG.pr 38 2
            refine JgetI (g := 2) (z := Z 38 2) hx (show mx_Sn _ _ 28 (mx_getf 5 2 31) from sn_141 28) a38 s38 rfl rfl rfl ?_
            refine mx_J.step (sn_141 31) (fun _ _ => rfl) ?_
            refine JgetR (g := 15) (b := 42) hx (show mx_Sn _ _ 32 (mx_getf 11 15 35) from sn_141 32) a1 s1 rfl rfl (hG.prr 1 15 rfl) ?_
            obtain ⟨Z10, h10, hc10, hx10, hG10, hf10, m10_42⟩ := ct_8_7_42 (d := d + 0) (l := l) (D := D) (b0 := b0) (ad := ad) (Hb := Hb) (tau := tau) hx hG (show (-2147483648) ≤ Z 38 2 ∧ Z 38 2 ≤ 2147483647 by omega)
            refine Jcv0 hx (show mx_Sn _ _ 35 (mx_callv 8 3 0 38) from sn_141 35) a7 s7 hc10 rfl rfl rfl ?_
            refine mx_J.step (sn_141 38) (fun _ _ => rfl) ?_
            refine JgetR (g := 15) (b := 42) hx10 (show mx_Sn _ _ 39 (mx_getf 11 15 42) from sn_141 39) a1 s1 rfl rfl (hG10.prr 1 15 rfl) ?_
            refine mx_J.step (sn_141 42) (fun _ _ => rfl) ?_
            have b12 : 0 ≤ Z10 42 x0 ∧ Z10 42 x0 ≤ 18 := m10_42 x0 (by omega) (by omega)
            have b13 : (-2147483648) ≤ Z10 42 x0 ∧ Z10 42 x0 ≤ 2147483647 := hG10.pr 42 x0
            refine JialdI (z := Z10 42 x0) hx10 (show mx_Sn _ _ 43 (mx_iald 44) from sn_141 43) a42 s42 (by omega) rfl ?_
            refine JcI (z := 1) (show mx_Sn _ _ 44 (mx_const (.int 1) 45) from sn_141 44) rfl ?_
            refine Jicmp_ge (show mx_Sn _ _ 45 (mx_icmp_ge 50 48) from sn_141 45) (by omega) (by omega) (fun q14 => ?_) (fun q14 => ?_)
            · skip
              refine mx_J.step (sn_141 50) (fun _ _ => rfl) ?_
              refine JgetR (g := 15) (b := 42) hx10 (show mx_Sn _ _ 51 (mx_getf 11 15 54) from sn_141 51) a1 s1 rfl rfl (hG10.prr 1 15 rfl) ?_
              refine mx_J.step (sn_141 54) (fun _ _ => rfl) ?_
              refine mx_J.step (sn_141 55) (fun _ _ => rfl) ?_
              refine JialdI (z := Z10 42 x0) hx10 (show mx_Sn _ _ 56 (mx_iald 57) from sn_141 56) a42 s42 (by omega) rfl ?_
              refine JcI (z := 1) (show mx_Sn _ _ 57 (mx_const (.int 1) 58) from sn_141 57) rfl ?_
              refine Jisub (show mx_Sn _ _ 58 (mx_isub 59) from sn_141 58) ?_
              refine JiastI hx10 (show mx_Sn _ _ 59 (mx_iast 1 60) from sn_141 59) a42 s42 rfl (by omega) (fun Z16 h16 hx16 hE16 => ?_)
              have hG16 := GI_up hG10 hE16 (show (-2147483648) ≤ (Z10 42 x0) - 1 ∧ (Z10 42 x0) - 1 ≤ 2147483647 by omega) trivial rfl
              have m16 : AB Z16 42 19 (-1) 18 := ab_up hE16 m10_42 (by omega) (by omega) (by omega)
              refine mx_J.step (sn_141 60) (fun _ _ => rfl) ?_
              refine JgetR (g := 15) (b := 42) hx16 (show mx_Sn _ _ 61 (mx_getf 11 15 64) from sn_141 61) a1 s1 rfl rfl (hG16.prr 1 15 rfl) ?_
              refine mx_J.step (sn_141 64) (fun _ _ => rfl) ?_
              refine mx_J.step (sn_141 65) (fun _ _ => rfl) ?_
              have b18 : (-1) ≤ Z16 42 x1 ∧ Z16 42 x1 ≤ 18 := m16 x1 (by omega) (by omega)
              have b19 : (-2147483648) ≤ Z16 42 x1 ∧ Z16 42 x1 ≤ 2147483647 := hG16.pr 42 x1
              refine JialdI (z := Z16 42 x1) hx16 (show mx_Sn _ _ 66 (mx_iald 67) from sn_141 66) a42 s42 (by omega) rfl ?_
              refine JcI (z := 1) (show mx_Sn _ _ 67 (mx_const (.int 1) 68) from sn_141 67) rfl ?_
              refine Jiadd (show mx_Sn _ _ 68 (mx_iadd 69) from sn_141 68) ?_
              refine JiastI hx16 (show mx_Sn _ _ 69 (mx_iast 1 70) from sn_141 69) a42 s42 rfl (by omega) (fun Z20 h20 hx20 hE20 => ?_)
              have hG20 := GI_up hG16 hE20 (show (-2147483648) ≤ (Z16 42 x1) + 1 ∧ (Z16 42 x1) + 1 ≤ 2147483647 by omega) trivial rfl
              have m20 : AB Z20 42 19 (-1) 19 := ab_up hE20 m16 (by omega) (by omega) (by omega)
              refine mx_J.step (sn_141 70) (fun _ _ => rfl) ?_
              refine JgetR (g := 15) (b := 42) hx20 (show mx_Sn _ _ 71 (mx_getf 11 15 74) from sn_141 71) a1 s1 rfl rfl (hG20.prr 1 15 rfl) ?_
              refine mx_J.step (sn_141 74) (fun _ _ => rfl) ?_
              refine mx_J.step (sn_141 75) (fun _ _ => rfl) ?_
              refine Jisub (show mx_Sn _ _ 76 (mx_isub 77) from sn_141 76) ?_
              refine mx_J.step (sn_141 77) (fun _ _ => rfl) ?_
              have b22 : (-1) ≤ Z20 42 (x0 - x1) ∧ Z20 42 (x0 - x1) ≤ 19 := m20 (x0 - x1) (by omega) (by omega)
              have b23 : (-2147483648) ≤ Z20 42 (x0 - x1) ∧ Z20 42 (x0 - x1) ≤ 2147483647 := hG20.pr 42 (x0 - x1)
              refine JialdI (z := Z20 42 (x0 - x1)) hx20 (show mx_Sn _ _ 78 (mx_iald 79) from sn_141 78) a42 s42 (by omega) rfl ?_
              refine JcI (z := 1) (show mx_Sn _ _ 79 (mx_const (.int 1) 80) from sn_141 79) rfl ?_
              refine Jiadd (show mx_Sn _ _ 80 (mx_iadd 81) from sn_141 80) ?_
              refine JiastI hx20 (show mx_Sn _ _ 81 (mx_iast 1 82) from sn_141 81) a42 s42 rfl (by omega) (fun Z24 h24 hx24 hE24 => ?_)
              have hG24 := GI_up hG20 hE24 (show (-2147483648) ≤ (Z20 42 (x0 - x1)) + 1 ∧ (Z20 42 (x0 - x1)) + 1 ≤ 2147483647 by omega) trivial rfl
              have m24 : AB Z24 42 19 (-1) 20 := ab_up hE24 m20 (by omega) (by omega) (by omega)
              refine mx_J.step (sn_141 82) (fun _ _ => rfl) ?_
              refine mx_J.step (sn_141 83) (fun _ _ => rfl) ?_
              refine JgetR (g := 5) (b := 7) hx24 (show mx_Sn _ _ 84 (mx_getf 11 5 87) from sn_141 84) a1 s1 rfl rfl (hG24.prr 1 5 rfl) ?_
              refine mx_J.step (sn_141 87) (fun _ _ => rfl) ?_
              refine JgetR (g := 15) (b := 42) hx24 (show mx_Sn _ _ 88 (mx_getf 11 15 91) from sn_141 88) a1 s1 rfl rfl (hG24.prr 1 15 rfl) ?_
              obtain ⟨z27, hc27, b27⟩ := ct_9_7_42 (d := d + 0) (l := l) (D := D) (b0 := b0) (ad := ad) (Hb := Hb) (tau := tau) hx24 hG24  (ab_mono m24 (by omega) (by omega) (by omega))
              obtain ⟨bs27_0, b27⟩ := b27
              refine Jcv hx24 (show mx_Sn _ _ 91 (mx_callv 9 2 0 94) from sn_141 91) a7 s7 hc27 rfl rfl rfl ?_
              refine JputI (g := 2) hx24 (show mx_Sn _ _ 94 (mx_putf 1 5 2 (.int) 97) from sn_141 94) a38 s38 rfl rfl rfl rfl (fun Z28 h28 hx28 hE28 => ?_)
              have hG28 := GI_up hG24 hE28 (show 0 ≤ z27 ∧ z27 ≤ 384 by omega) trivial rfl
              refine JcI (z := 0) (show mx_Sn _ _ 97 (mx_const (.int 0) 98) from sn_141 97) rfl ?_
              exact mx_J.ret (sn_141 98) (fun _ _ => rfl) (hP 0 Z28 h28 hx28 hG28 (fr_tr (M := [(38, 2), (42, (-1))]) (fr_tr (M := [(38, 2), (42, (-1))]) (fr_tr (M := [(38, 2), (42, (-1))]) (fr_tr (M := [(38, 2), (42, (-1))]) (fr_tr (M := [(38, 2), (42, (-1))]) fr_rf (hf10) (M1 := []) rfl rfl) (fr_ua hE16) rfl rfl) (fr_ua hE20) rfl rfl) (fr_ua hE24) rfl rfl) (fr_up hE28) rfl rfl) (by omega))
            · skip
              refine JcI (z := 2) (show mx_Sn _ _ 48 (mx_const (.int 2) 49) from sn_141 48) rfl ?_
              exact mx_J.ret (sn_141 49) (fun _ _ => rfl) (hP 2 Z10 h10 hx10 hG10 (fr_tr (M := [(38, 2), (42, (-1))]) fr_rf (hf10) (M1 := []) rfl rfl) (by omega))
          · skip
            exact c21 
theorem ct_141_1_38 {l : Launch} {D : va_G} {b0 : Nat} {ad : Nat → Nat} {Hb : Heap} {tau : Nat → Int64} {d n s : Nat} {S : Nat → xS} {Z : xZ} {h : mx_H} (hx : XH n s S Z h) (hG : GI n S Z)  {x0 x1 : Int} (p0 : (-2147483648) ≤ x0 ∧ x0 ≤ 2147483647) (p1 : (-2147483648) ≤ x1 ∧ x1 ≤ 2147483647) : ∃ (z : Int) (Z' : xZ) (h' : mx_H), mx_Ca (tB l D b0 ad Hb tau) (d + 3) 141 [.ref 1, .ref 38, xI x0, xI x1] h (some (xI z), h') ∧ XH n s S Z' h' ∧ GI n S Z' ∧ fr' [(38, 2), (42, (-1))] Z Z' ∧ (0 ≤ z ∧ z ≤ 2) := by
  obtain ⟨r, hca, z, Z', h', e, q⟩ := Jmt (B := tB l D b0 ad Hb tau) (M := mt_141) (mi := 141) (as := [.ref 1, .ref 38, xI x0, xI x1]) (d := d + 2) (ls := [some (.ref 1), some (.ref 38), some (xI x0), some (xI x1)]) rfl rfl rfl rfl rfl rfl (cw_141_1_38 (l := l) (D := D) (b0 := b0) (ad := ad) (Hb := Hb) (tau := tau) (d := d) (Post := fun r => ∃ (z : Int) (Z' : xZ) (h' : mx_H), r = (some (xI z), h') ∧ XH n s S Z' h' ∧ GI n S Z' ∧ fr' [(38, 2), (42, (-1))] Z Z' ∧ (0 ≤ z ∧ z ≤ 2)) hx hG p0 p1 (fun z Z' h' q1 q2 q3 q4 => ⟨z, Z', h', rfl, q1, q2, q3, q4⟩))
  subst e; exact ⟨z, Z', h', hca, q⟩
set_option maxRecDepth 100000 in
theorem cw_142_1_38 {l : Launch} {D : va_G} {b0 : Nat} {ad : Nat → Nat} {Hb : Heap} {tau : Nat → Int64} {d n s : Nat} {S : Nat → xS} {Z : xZ} {h : mx_H} {Post : mx_R → Prop} (hx : XH n s S Z h) (hG : GI n S Z)  {x0 x1 : Int} (p0 : (-2147483648) ≤ x0 ∧ x0 ≤ 2147483647) (p1 : (-2147483648) ≤ x1 ∧ x1 ≤ 2147483647) (hP : ∀ (z : Int) (Z' : xZ) (h' : mx_H), XH n s S Z' h' → GI n S Z' → fr' [(38, 2), (42, (-1))] Z Z' → 0 ≤ z ∧ z ≤ 2 → Post (some (xI z), h')) : mx_J (tB l D b0 ad Hb tau) mt_142 (d + 2) 0 [some (.ref 1), some (.ref 38), some (xI x0), some (xI x1)] [] h Post := by
    have a1 : 1 < n := lt83 (GI_n hG) rfl
    have s1 : S 1 = .inl (11, [2, 0, 0, 0, 2, 2, 2, 2, 2, 2, 2, 2, 2, 2, 2, 2, 2]) := GI_s hG 1 rfl
    have a7 : 7 < n := lt83 (GI_n hG) rfl
    have s7 : S 7 = .inl (0, [2, 2, 2, 2, 0, 0]) := GI_s hG 7 rfl
    have a38 : 38 < n := lt83 (GI_n hG) rfl
    have s38 : S 38 = .inl (5, [2, 0, 0, 0, 0, 0]) := GI_s hG 38 rfl
    have a42 : 42 < n := lt83 (GI_n hG) rfl
    have s42 : S 42 = .inr (.int, 19, 0) := GI_s hG 42 rfl
    refine mx_J.step (sn_142 0) (fun _ _ => rfl) ?_
    refine JcI (z := 1) (show mx_Sn _ _ 1 (mx_const (.int 1) 2) from sn_142 1) rfl ?_
    have c22 : mx_J (tB l D b0 ad Hb tau) mt_142 (d + 2) 22 [some (.ref 1), some (.ref 38), some (xI x0), some (xI x1)] [] h Post := by
      refine JcI (z := 1) (show mx_Sn _ _ 22 (mx_const (.int 1) 23) from sn_142 22) rfl ?_
      exact mx_J.ret (sn_142 23) (fun _ _ => rfl) (hP 1 Z h hx hG fr_rf (by omega))
    refine Jicmp_lt (show mx_Sn _ _ 2 (mx_icmp_lt 22 5) from sn_142 2) (by omega) (by omega) (fun q2 => ?_) (fun q2 => ?_)
    · skip
      exact c22 
    · skip
      refine mx_J.step (sn_142 5) (fun _ _ => rfl) ?_
      refine JcI (z := 18) (show mx_Sn _ _ 6 (mx_const (.int 18) 8) from sn_142 6) rfl ?_
      refine Jicmp_gt (show mx_Sn _ _ 8 (mx_icmp_gt 22 11) from sn_142 8) (by omega) (by omega) (fun q3 => ?_) (fun q3 => ?_)
      · skip
        exact c22 
      · skip
        refine mx_J.step (sn_142 11) (fun _ _ => rfl) ?_
        refine JcI (z := 1) (show mx_Sn _ _ 12 (mx_const (.int 1) 13) from sn_142 12) rfl ?_
        refine Jicmp_lt (show mx_Sn _ _ 13 (mx_icmp_lt 22 16) from sn_142 13) (by omega) (by omega) (fun q4 => ?_) (fun q4 => ?_)
        · skip
          exact c22 
        · skip
          refine mx_J.step (sn_142 16) (fun _ _ => rfl) ?_
          refine JcI (z := 18) (show mx_Sn _ _ 17 (mx_const (.int 18) 19) from sn_142 17) rfl ?_
          refine Jicmp_le (show mx_Sn _ _ 19 (mx_icmp_le 24 22) from sn_142 19) (by omega) (by omega) (fun q5 => ?_) (fun q5 => ?_)
          · skip
            refine mx_J.step (sn_142 24) (fun _ _ => rfl) ?_
            refine JgetR (g := 5) (b := 7) hx (show mx_Sn _ _ 25 (mx_getf 11 5 28) from sn_142 25) a1 s1 rfl rfl (hG.prr 1 5 rfl) ?_
            refine mx_J.step (sn_142 28) (fun _ _ => rfl) ?_
            have b8 : 0 ≤ Z 38 2 ∧ Z 38 2 ≤ 384 := hG.pr 38 2
            refine JgetI (g := 2) (z := Z 38 2) hx (show mx_Sn _ _ 29 (mx_getf 5 2 32) from sn_142 29) a38 s38 rfl rfl rfl ?_
            refine mx_J.step (sn_142 32) (fun _ _ => rfl) ?_
            refine JgetR (g := 15) (b := 42) hx (show mx_Sn _ _ 33 (mx_getf 11 15 36) from sn_142 33) a1 s1 rfl rfl (hG.prr 1 15 rfl) ?_
            obtain ⟨Z10, h10, hc10, hx10, hG10, hf10, m10_42⟩ := ct_8_7_42 (d := d + 0) (l := l) (D := D) (b0 := b0) (ad := ad) (Hb := Hb) (tau := tau) hx hG (show (-2147483648) ≤ Z 38 2 ∧ Z 38 2 ≤ 2147483647 by omega)
            refine Jcv0 hx (show mx_Sn _ _ 36 (mx_callv 8 3 0 39) from sn_142 36) a7 s7 hc10 rfl rfl rfl ?_
            refine mx_J.step (sn_142 39) (fun _ _ => rfl) ?_
            refine JgetR (g := 15) (b := 42) hx10 (show mx_Sn _ _ 40 (mx_getf 11 15 43) from sn_142 40) a1 s1 rfl rfl (hG10.prr 1 15 rfl) ?_
            refine mx_J.step (sn_142 43) (fun _ _ => rfl) ?_
            refine mx_J.step (sn_142 44) (fun _ _ => rfl) ?_
            have b12 : 0 ≤ Z10 42 x0 ∧ Z10 42 x0 ≤ 18 := m10_42 x0 (by omega) (by omega)
            have b13 : (-2147483648) ≤ Z10 42 x0 ∧ Z10 42 x0 ≤ 2147483647 := hG10.pr 42 x0
            refine JialdI (z := Z10 42 x0) hx10 (show mx_Sn _ _ 45 (mx_iald 46) from sn_142 45) a42 s42 (by omega) rfl ?_
            refine JcI (z := 1) (show mx_Sn _ _ 46 (mx_const (.int 1) 47) from sn_142 46) rfl ?_
            refine Jisub (show mx_Sn _ _ 47 (mx_isub 48) from sn_142 47) ?_
            refine JiastI hx10 (show mx_Sn _ _ 48 (mx_iast 1 49) from sn_142 48) a42 s42 rfl (by omega) (fun Z14 h14 hx14 hE14 => ?_)
            have hG14 := GI_up hG10 hE14 (show (-2147483648) ≤ (Z10 42 x0) - 1 ∧ (Z10 42 x0) - 1 ≤ 2147483647 by omega) trivial rfl
            have m14 : AB Z14 42 19 (-1) 18 := ab_up hE14 m10_42 (by omega) (by omega) (by omega)
            refine mx_J.step (sn_142 49) (fun _ _ => rfl) ?_
            refine JgetR (g := 15) (b := 42) hx14 (show mx_Sn _ _ 50 (mx_getf 11 15 53) from sn_142 50) a1 s1 rfl rfl (hG14.prr 1 15 rfl) ?_
            refine mx_J.step (sn_142 53) (fun _ _ => rfl) ?_
            refine mx_J.step (sn_142 54) (fun _ _ => rfl) ?_
            have b16 : (-1) ≤ Z14 42 x1 ∧ Z14 42 x1 ≤ 18 := m14 x1 (by omega) (by omega)
            have b17 : (-2147483648) ≤ Z14 42 x1 ∧ Z14 42 x1 ≤ 2147483647 := hG14.pr 42 x1
            refine JialdI (z := Z14 42 x1) hx14 (show mx_Sn _ _ 55 (mx_iald 56) from sn_142 55) a42 s42 (by omega) rfl ?_
            refine JcI (z := 1) (show mx_Sn _ _ 56 (mx_const (.int 1) 57) from sn_142 56) rfl ?_
            refine Jisub (show mx_Sn _ _ 57 (mx_isub 58) from sn_142 57) ?_
            refine JiastI hx14 (show mx_Sn _ _ 58 (mx_iast 1 59) from sn_142 58) a42 s42 rfl (by omega) (fun Z18 h18 hx18 hE18 => ?_)
            have hG18 := GI_up hG14 hE18 (show (-2147483648) ≤ (Z14 42 x1) - 1 ∧ (Z14 42 x1) - 1 ≤ 2147483647 by omega) trivial rfl
            have m18 : AB Z18 42 19 (-2) 18 := ab_up hE18 m14 (by omega) (by omega) (by omega)
            refine mx_J.step (sn_142 59) (fun _ _ => rfl) ?_
            refine JgetR (g := 15) (b := 42) hx18 (show mx_Sn _ _ 60 (mx_getf 11 15 63) from sn_142 60) a1 s1 rfl rfl (hG18.prr 1 15 rfl) ?_
            refine mx_J.step (sn_142 63) (fun _ _ => rfl) ?_
            have b20 : (-2) ≤ Z18 42 x0 ∧ Z18 42 x0 ≤ 18 := m18 x0 (by omega) (by omega)
            have b21 : (-2147483648) ≤ Z18 42 x0 ∧ Z18 42 x0 ≤ 2147483647 := hG18.pr 42 x0
            refine JialdI (z := Z18 42 x0) hx18 (show mx_Sn _ _ 64 (mx_iald 65) from sn_142 64) a42 s42 (by omega) rfl ?_
            have c85 : mx_J (tB l D b0 ad Hb tau) mt_142 (d + 2) 85 [some (.ref 1), some (.ref 38), some (xI x0), some (xI x1)] [] h18 Post := by
              refine JcI (z := 2) (show mx_Sn _ _ 85 (mx_const (.int 2) 86) from sn_142 85) rfl ?_
              exact mx_J.ret (sn_142 86) (fun _ _ => rfl) (hP 2 Z18 h18 hx18 hG18 (fr_tr (M := [(38, 2), (42, (-1))]) (fr_tr (M := [(38, 2), (42, (-1))]) (fr_tr (M := [(38, 2), (42, (-1))]) fr_rf (hf10) (M1 := []) rfl rfl) (fr_ua hE14) rfl rfl) (fr_ua hE18) rfl rfl) (by omega))
            refine Jif_lt (show mx_Sn _ _ 65 (mx_if_lt 85 68) from sn_142 65) (by omega) (fun q23 => ?_) (fun q23 => ?_)
            · skip
              exact c85 
            · skip
              refine mx_J.step (sn_142 68) (fun _ _ => rfl) ?_
              refine JgetR (g := 15) (b := 42) hx18 (show mx_Sn _ _ 69 (mx_getf 11 15 72) from sn_142 69) a1 s1 rfl rfl (hG18.prr 1 15 rfl) ?_
              refine mx_J.step (sn_142 72) (fun _ _ => rfl) ?_
              have b25 : (-2) ≤ Z18 42 x1 ∧ Z18 42 x1 ≤ 18 := m18 x1 (by omega) (by omega)
              have b26 : (-2147483648) ≤ Z18 42 x1 ∧ Z18 42 x1 ≤ 2147483647 := hG18.pr 42 x1
              refine JialdI (z := Z18 42 x1) hx18 (show mx_Sn _ _ 73 (mx_iald 74) from sn_142 73) a42 s42 (by omega) rfl ?_
              refine Jif_lt (show mx_Sn _ _ 74 (mx_if_lt 85 77) from sn_142 74) (by omega) (fun q27 => ?_) (fun q27 => ?_)
              · skip
                exact c85 
              · skip
                refine mx_J.step (sn_142 77) (fun _ _ => rfl) ?_
                refine mx_J.step (sn_142 78) (fun _ _ => rfl) ?_
                refine Jiadd (show mx_Sn _ _ 79 (mx_iadd 80) from sn_142 79) ?_
                refine JcI (z := 18) (show mx_Sn _ _ 80 (mx_const (.int 18) 82) from sn_142 80) rfl ?_
                refine Jicmp_le (show mx_Sn _ _ 82 (mx_icmp_le 87 85) from sn_142 82) (by omega) (by omega) (fun q28 => ?_) (fun q28 => ?_)
                · skip
                  refine mx_J.step (sn_142 87) (fun _ _ => rfl) ?_
                  refine JgetR (g := 15) (b := 42) hx18 (show mx_Sn _ _ 88 (mx_getf 11 15 91) from sn_142 88) a1 s1 rfl rfl (hG18.prr 1 15 rfl) ?_
                  refine mx_J.step (sn_142 91) (fun _ _ => rfl) ?_
                  refine mx_J.step (sn_142 92) (fun _ _ => rfl) ?_
                  refine Jiadd (show mx_Sn _ _ 93 (mx_iadd 94) from sn_142 93) ?_
                  refine mx_J.step (sn_142 94) (fun _ _ => rfl) ?_
                  have b30 : (-2) ≤ Z18 42 (x0 + x1) ∧ Z18 42 (x0 + x1) ≤ 18 := m18 (x0 + x1) (by omega) (by omega)
                  have b31 : (-2147483648) ≤ Z18 42 (x0 + x1) ∧ Z18 42 (x0 + x1) ≤ 2147483647 := hG18.pr 42 (x0 + x1)
                  refine JialdI (z := Z18 42 (x0 + x1)) hx18 (show mx_Sn _ _ 95 (mx_iald 96) from sn_142 95) a42 s42 (by omega) rfl ?_
                  refine JcI (z := 1) (show mx_Sn _ _ 96 (mx_const (.int 1) 97) from sn_142 96) rfl ?_
                  refine Jiadd (show mx_Sn _ _ 97 (mx_iadd 98) from sn_142 97) ?_
                  refine JiastI hx18 (show mx_Sn _ _ 98 (mx_iast 1 99) from sn_142 98) a42 s42 rfl (by omega) (fun Z32 h32 hx32 hE32 => ?_)
                  have hG32 := GI_up hG18 hE32 (show (-2147483648) ≤ (Z18 42 (x0 + x1)) + 1 ∧ (Z18 42 (x0 + x1)) + 1 ≤ 2147483647 by omega) trivial rfl
                  have m32 : AB Z32 42 19 (-2) 19 := ab_up hE32 m18 (by omega) (by omega) (by omega)
                  refine mx_J.step (sn_142 99) (fun _ _ => rfl) ?_
                  refine mx_J.step (sn_142 100) (fun _ _ => rfl) ?_
                  refine JgetR (g := 5) (b := 7) hx32 (show mx_Sn _ _ 101 (mx_getf 11 5 104) from sn_142 101) a1 s1 rfl rfl (hG32.prr 1 5 rfl) ?_
                  refine mx_J.step (sn_142 104) (fun _ _ => rfl) ?_
                  refine JgetR (g := 15) (b := 42) hx32 (show mx_Sn _ _ 105 (mx_getf 11 15 108) from sn_142 105) a1 s1 rfl rfl (hG32.prr 1 15 rfl) ?_
                  obtain ⟨z35, hc35, b35⟩ := ct_9_7_42 (d := d + 0) (l := l) (D := D) (b0 := b0) (ad := ad) (Hb := Hb) (tau := tau) hx32 hG32  (ab_mono m32 (by omega) (by omega) (by omega))
                  obtain ⟨bs35_0, b35⟩ := b35
                  refine Jcv hx32 (show mx_Sn _ _ 108 (mx_callv 9 2 0 111) from sn_142 108) a7 s7 hc35 rfl rfl rfl ?_
                  refine JputI (g := 2) hx32 (show mx_Sn _ _ 111 (mx_putf 1 5 2 (.int) 114) from sn_142 111) a38 s38 rfl rfl rfl rfl (fun Z36 h36 hx36 hE36 => ?_)
                  have hG36 := GI_up hG32 hE36 (show 0 ≤ z35 ∧ z35 ≤ 384 by omega) trivial rfl
                  refine JcI (z := 0) (show mx_Sn _ _ 114 (mx_const (.int 0) 115) from sn_142 114) rfl ?_
                  exact mx_J.ret (sn_142 115) (fun _ _ => rfl) (hP 0 Z36 h36 hx36 hG36 (fr_tr (M := [(38, 2), (42, (-1))]) (fr_tr (M := [(38, 2), (42, (-1))]) (fr_tr (M := [(38, 2), (42, (-1))]) (fr_tr (M := [(38, 2), (42, (-1))]) (fr_tr (M := [(38, 2), (42, (-1))]) fr_rf (hf10) (M1 := []) rfl rfl) (fr_ua hE14) rfl rfl) (fr_ua hE18) rfl rfl) (fr_ua hE32) rfl rfl) (fr_up hE36) rfl rfl) (by omega))
                · skip
                  exact c85 
          · skip
            exact c22 
theorem ct_142_1_38 {l : Launch} {D : va_G} {b0 : Nat} {ad : Nat → Nat} {Hb : Heap} {tau : Nat → Int64} {d n s : Nat} {S : Nat → xS} {Z : xZ} {h : mx_H} (hx : XH n s S Z h) (hG : GI n S Z)  {x0 x1 : Int} (p0 : (-2147483648) ≤ x0 ∧ x0 ≤ 2147483647) (p1 : (-2147483648) ≤ x1 ∧ x1 ≤ 2147483647) : ∃ (z : Int) (Z' : xZ) (h' : mx_H), mx_Ca (tB l D b0 ad Hb tau) (d + 3) 142 [.ref 1, .ref 38, xI x0, xI x1] h (some (xI z), h') ∧ XH n s S Z' h' ∧ GI n S Z' ∧ fr' [(38, 2), (42, (-1))] Z Z' ∧ (0 ≤ z ∧ z ≤ 2) := by
  obtain ⟨r, hca, z, Z', h', e, q⟩ := Jmt (B := tB l D b0 ad Hb tau) (M := mt_142) (mi := 142) (as := [.ref 1, .ref 38, xI x0, xI x1]) (d := d + 2) (ls := [some (.ref 1), some (.ref 38), some (xI x0), some (xI x1)]) rfl rfl rfl rfl rfl rfl (cw_142_1_38 (l := l) (D := D) (b0 := b0) (ad := ad) (Hb := Hb) (tau := tau) (d := d) (Post := fun r => ∃ (z : Int) (Z' : xZ) (h' : mx_H), r = (some (xI z), h') ∧ XH n s S Z' h' ∧ GI n S Z' ∧ fr' [(38, 2), (42, (-1))] Z Z' ∧ (0 ≤ z ∧ z ≤ 2)) hx hG p0 p1 (fun z Z' h' q1 q2 q3 q4 => ⟨z, Z', h', rfl, q1, q2, q3, q4⟩))
  subst e; exact ⟨z, Z', h', hca, q⟩
set_option maxRecDepth 100000 in
theorem cw_27_12 {l : Launch} {D : va_G} {b0 : Nat} {ad : Nat → Nat} {Hb : Heap} {tau : Nat → Int64} {d n s : Nat} {S : Nat → xS} {Z : xZ} {h : mx_H} {Post : mx_R → Prop} (hx : XH n s S Z h) (hG : GI n S Z)  {x0 : Int} (p0 : (-2147483648) ≤ x0 ∧ x0 ≤ 2147483647) (hP : ∀ (z : Int) (Z' : xZ) (h' : mx_H), XH n s S Z' h' → GI n S Z' → fr' [(14, (-1)), (16, (-1)), (17, (-1)), (18, (-1)), (19, (-1))] Z Z' → 0 ≤ z ∧ z ≤ 384 → Post (some (xI z), h')) : mx_J (tB l D b0 ad Hb tau) mt_27 (d + 4) 0 [some (.ref 12), some (xI x0)] [] h Post := by
    have a12 : 12 < n := lt83 (GI_n hG) rfl
    have s12 : S 12 = .inl (4, [2, 2, 0, 2, 2, 2, 2, 2, 2]) := GI_s hG 12 rfl
    refine JcI (z := 0) (show mx_Sn _ _ 0 (mx_const (.int 0) 1) from sn_27 0) rfl ?_
    refine mx_J.step (sn_27 1) (fun _ _ => rfl) ?_
    refine mx_J.step (sn_27 2) (fun _ _ => rfl) ?_
    refine JcI (z := 0) (show mx_Sn _ _ 3 (mx_const (.int 0) 4) from sn_27 3) rfl ?_
    obtain ⟨z1, Z1, h1, hc1, hx1, hG1, hf1, b1⟩ := ct_26_12 (d := d + 0) (l := l) (D := D) (b0 := b0) (ad := ad) (Hb := Hb) (tau := tau) hx hG (show (-2147483648) ≤ x0 ∧ x0 ≤ 2147483647 by omega) (show (-2147483648) ≤ 0 ∧ 0 ≤ 2147483647 by omega)
    refine Jcv hx (show mx_Sn _ _ 4 (mx_callv 26 3 4 7) from sn_27 4) a12 s12 hc1 rfl rfl rfl ?_
    refine Jmmax (show mx_Sn _ _ 7 (mx_mmax 10) from sn_27 7) (by omega) (by omega) ⟨_, rfl⟩ rfl (fun y2 hy2 => ?_)
    exact mx_J.ret (sn_27 10) (fun _ _ => rfl) (hP y2 Z1 h1 hx1 hG1 (fr_tr (M := [(14, (-1)), (16, (-1)), (17, (-1)), (18, (-1)), (19, (-1))]) fr_rf (hf1) (M1 := []) rfl rfl) (by omega))
theorem ct_27_12 {l : Launch} {D : va_G} {b0 : Nat} {ad : Nat → Nat} {Hb : Heap} {tau : Nat → Int64} {d n s : Nat} {S : Nat → xS} {Z : xZ} {h : mx_H} (hx : XH n s S Z h) (hG : GI n S Z)  {x0 : Int} (p0 : (-2147483648) ≤ x0 ∧ x0 ≤ 2147483647) : ∃ (z : Int) (Z' : xZ) (h' : mx_H), mx_Ca (tB l D b0 ad Hb tau) (d + 5) 27 [.ref 12, xI x0] h (some (xI z), h') ∧ XH n s S Z' h' ∧ GI n S Z' ∧ fr' [(14, (-1)), (16, (-1)), (17, (-1)), (18, (-1)), (19, (-1))] Z Z' ∧ (0 ≤ z ∧ z ≤ 384) := by
  obtain ⟨r, hca, z, Z', h', e, q⟩ := Jmt (B := tB l D b0 ad Hb tau) (M := mt_27) (mi := 27) (as := [.ref 12, xI x0]) (d := d + 4) (ls := [some (.ref 12), some (xI x0)]) rfl rfl rfl rfl rfl rfl (cw_27_12 (l := l) (D := D) (b0 := b0) (ad := ad) (Hb := Hb) (tau := tau) (d := d) (Post := fun r => ∃ (z : Int) (Z' : xZ) (h' : mx_H), r = (some (xI z), h') ∧ XH n s S Z' h' ∧ GI n S Z' ∧ fr' [(14, (-1)), (16, (-1)), (17, (-1)), (18, (-1)), (19, (-1))] Z Z' ∧ (0 ≤ z ∧ z ≤ 384)) hx hG p0 (fun z Z' h' q1 q2 q3 q4 => ⟨z, Z', h', rfl, q1, q2, q3, q4⟩))
  subst e; exact ⟨z, Z', h', hca, q⟩
set_option maxRecDepth 100000 in
theorem cw_93_1 {l : Launch} {D : va_G} {b0 : Nat} {ad : Nat → Nat} {Hb : Heap} {tau : Nat → Int64} {d n s : Nat} {S : Nat → xS} {Z : xZ} {h : mx_H} {Post : mx_R → Prop} (hx : XH n s S Z h) (hG : GI n S Z)  {x0 : Int} (p0 : (-2147483648) ≤ x0 ∧ x0 ≤ 2147483647) (hP : ∀ (z : Int) (Z' : xZ) (h' : mx_H), XH n s S Z' h' → GI n S Z' → fr' [(16, (-1)), (17, (-1)), (18, (-1))] Z Z' → (-2) ≤ z ∧ z ≤ 18 → Post (some (xI z), h')) : mx_J (tB l D b0 ad Hb tau) mt_93 (d + 2) 0 [some (.ref 1), some (xI x0), none] [] h Post := by
    have a1 : 1 < n := lt83 (GI_n hG) rfl
    have s1 : S 1 = .inl (11, [2, 0, 0, 0, 2, 2, 2, 2, 2, 2, 2, 2, 2, 2, 2, 2, 2]) := GI_s hG 1 rfl
    have a7 : 7 < n := lt83 (GI_n hG) rfl
    have s7 : S 7 = .inl (0, [2, 2, 2, 2, 0, 0]) := GI_s hG 7 rfl
    have a12 : 12 < n := lt83 (GI_n hG) rfl
    have s12 : S 12 = .inl (4, [2, 2, 0, 2, 2, 2, 2, 2, 2]) := GI_s hG 12 rfl
    have a36 : 36 < n := lt83 (GI_n hG) rfl
    have s36 : S 36 = .inl (5, [2, 0, 0, 0, 0, 0]) := GI_s hG 36 rfl
    refine mx_J.step (sn_93 0) (fun _ _ => rfl) ?_
    refine JgetR (g := 5) (b := 7) hx (show mx_Sn _ _ 1 (mx_getf 11 5 4) from sn_93 1) a1 s1 rfl rfl (hG.prr 1 5 rfl) ?_
    refine mx_J.step (sn_93 4) (fun _ _ => rfl) ?_
    refine JgetR (g := 12) (b := 36) hx (show mx_Sn _ _ 5 (mx_getf 11 12 8) from sn_93 5) a1 s1 rfl rfl (hG.prr 1 12 rfl) ?_
    have b4 : 0 ≤ Z 36 2 ∧ Z 36 2 ≤ 384 := hG.pr 36 2
    refine JgetI (g := 2) (z := Z 36 2) hx (show mx_Sn _ _ 8 (mx_getf 5 2 11) from sn_93 8) a36 s36 rfl rfl rfl ?_
    have b6 : 0 ≤ Z 7 5 ∧ Z 7 5 ≤ 385 := hG.pr 7 5
    have b7 : 0 ≤ Z 10 (Z 36 2) ∧ Z 10 (Z 36 2) ≤ 18 := hG.pr 10 (Z 36 2)
    obtain ⟨z5, hc5, b5⟩ := ct_5_7 (d := d + 1) (l := l) (D := D) (b0 := b0) (ad := ad) (Hb := Hb) (tau := tau) hx hG (show (-2147483648) ≤ Z 36 2 ∧ Z 36 2 ≤ 2147483647 by omega)
    refine Jcv hx (show mx_Sn _ _ 11 (mx_callv 5 2 0 14) from sn_93 11) a7 s7 hc5 rfl rfl rfl ?_
    refine mx_J.step (ls2 := [some (.ref 1), some (xI x0), some (xI z5)]) (sn_93 14) (fun _ _ => rfl) ?_
    refine mx_J.step (sn_93 15) (fun _ _ => rfl) ?_
    have c24 : mx_J (tB l D b0 ad Hb tau) mt_93 (d + 2) 24 [some (.ref 1), some (xI x0), some (xI z5)] [] h Post := by
      refine JcI (z := (-2)) (show mx_Sn _ _ 24 (mx_const (.int (-2)) 26) from sn_93 24) rfl ?_
      exact mx_J.ret (sn_93 26) (fun _ _ => rfl) (hP (-2) Z h hx hG fr_rf (by omega))
    refine Jif_lt (show mx_Sn _ _ 16 (mx_if_lt 24 19) from sn_93 16) (by omega) (fun q9 => ?_) (fun q9 => ?_)
    · skip
      exact c24 
    · skip
      refine mx_J.step (sn_93 19) (fun _ _ => rfl) ?_
      refine mx_J.step (sn_93 20) (fun _ _ => rfl) ?_
      refine Jicmp_lt (show mx_Sn _ _ 21 (mx_icmp_lt 27 24) from sn_93 21) (by omega) (by omega) (fun q10 => ?_) (fun q10 => ?_)
      · skip
        refine mx_J.step (sn_93 27) (fun _ _ => rfl) ?_
        refine JgetR (g := 6) (b := 12) hx (show mx_Sn _ _ 28 (mx_getf 11 6 31) from sn_93 28) a1 s1 rfl rfl (hG.prr 1 6 rfl) ?_
        refine mx_J.step (sn_93 31) (fun _ _ => rfl) ?_
        refine JgetR (g := 5) (b := 7) hx (show mx_Sn _ _ 32 (mx_getf 11 5 35) from sn_93 32) a1 s1 rfl rfl (hG.prr 1 5 rfl) ?_
        refine mx_J.step (sn_93 35) (fun _ _ => rfl) ?_
        refine JgetR (g := 12) (b := 36) hx (show mx_Sn _ _ 36 (mx_getf 11 12 39) from sn_93 36) a1 s1 rfl rfl (hG.prr 1 12 rfl) ?_
        refine JgetI (g := 2) (z := Z 36 2) hx (show mx_Sn _ _ 39 (mx_getf 5 2 42) from sn_93 39) a36 s36 rfl rfl rfl ?_
        refine mx_J.step (sn_93 42) (fun _ _ => rfl) ?_
        have b16 : 0 ≤ Z 9 ((Z 36 2) * 18 + x0) ∧ Z 9 ((Z 36 2) * 18 + x0) ≤ 18 := hG.pr 9 ((Z 36 2) * 18 + x0)
        obtain ⟨z15, hc15, b15⟩ := ct_6_7 (d := d + 0) (l := l) (D := D) (b0 := b0) (ad := ad) (Hb := Hb) (tau := tau) hx hG (show (-2147483648) ≤ Z 36 2 ∧ Z 36 2 ≤ 2147483647 by omega) (show (-2147483648) ≤ x0 ∧ x0 ≤ 2147483647 by omega)
        refine Jcv hx (show mx_Sn _ _ 43 (mx_callv 6 3 0 46) from sn_93 43) a7 s7 hc15 rfl rfl rfl ?_
        have pv := (GI_sm hG (Z 36 2) x0 (by omega) (by omega) (by omega) (by omega)).2 (by omega)
        refine mx_J.step (sn_93 46) (fun _ _ => rfl) ?_
        refine mx_J.step (sn_93 47) (fun _ _ => rfl) ?_
        obtain ⟨z17, Z17, h17, hc17, hx17, hG17, hf17, b17⟩ := ct_30_12 (d := d + 0) (l := l) (D := D) (b0 := b0) (ad := ad) (Hb := Hb) (tau := tau) hx hG (show 1 ≤ z15 ∧ z15 ≤ 18 by omega) (show 0 ≤ x0 ∧ x0 ≤ 17 by omega) (show 0 ≤ z5 ∧ z5 ≤ 18 by omega)
        refine Jcv hx (show mx_Sn _ _ 48 (mx_callv 30 4 4 51) from sn_93 48) a12 s12 hc17 rfl rfl rfl ?_
        exact mx_J.ret (sn_93 51) (fun _ _ => rfl) (hP z17 Z17 h17 hx17 hG17 (fr_tr (M := [(16, (-1)), (17, (-1)), (18, (-1))]) fr_rf (hf17) (M1 := []) rfl rfl) (by omega))
      · skip
        exact c24 
theorem ct_93_1 {l : Launch} {D : va_G} {b0 : Nat} {ad : Nat → Nat} {Hb : Heap} {tau : Nat → Int64} {d n s : Nat} {S : Nat → xS} {Z : xZ} {h : mx_H} (hx : XH n s S Z h) (hG : GI n S Z)  {x0 : Int} (p0 : (-2147483648) ≤ x0 ∧ x0 ≤ 2147483647) : ∃ (z : Int) (Z' : xZ) (h' : mx_H), mx_Ca (tB l D b0 ad Hb tau) (d + 3) 93 [.ref 1, xI x0] h (some (xI z), h') ∧ XH n s S Z' h' ∧ GI n S Z' ∧ fr' [(16, (-1)), (17, (-1)), (18, (-1))] Z Z' ∧ ((-2) ≤ z ∧ z ≤ 18) := by
  obtain ⟨r, hca, z, Z', h', e, q⟩ := Jmt (B := tB l D b0 ad Hb tau) (M := mt_93) (mi := 93) (as := [.ref 1, xI x0]) (d := d + 2) (ls := [some (.ref 1), some (xI x0), none]) rfl rfl rfl rfl rfl rfl (cw_93_1 (l := l) (D := D) (b0 := b0) (ad := ad) (Hb := Hb) (tau := tau) (d := d) (Post := fun r => ∃ (z : Int) (Z' : xZ) (h' : mx_H), r = (some (xI z), h') ∧ XH n s S Z' h' ∧ GI n S Z' ∧ fr' [(16, (-1)), (17, (-1)), (18, (-1))] Z Z' ∧ ((-2) ≤ z ∧ z ≤ 18)) hx hG p0 (fun z Z' h' q1 q2 q3 q4 => ⟨z, Z', h', rfl, q1, q2, q3, q4⟩))
  subst e; exact ⟨z, Z', h', hca, q⟩
set_option maxRecDepth 100000 in
theorem cw_94_1 {l : Launch} {D : va_G} {b0 : Nat} {ad : Nat → Nat} {Hb : Heap} {tau : Nat → Int64} {d n s : Nat} {S : Nat → xS} {Z : xZ} {h : mx_H} {Post : mx_R → Prop} (hx : XH n s S Z h) (hG : GI n S Z)  {x0 x1 : Int} (p0 : (-2147483648) ≤ x0 ∧ x0 ≤ 2147483647) (p1 : (-2147483648) ≤ x1 ∧ x1 ≤ 2147483647) (hP : ∀ (z : Int) (Z' : xZ) (h' : mx_H), XH n s S Z' h' → GI n S Z' → fr' [(14, (-1)), (16, (-1)), (17, (-1)), (18, (-1)), (19, (-1))] Z Z' → (-5) ≤ z ∧ z ≤ 384 → Post (some (xI z), h')) : mx_J (tB l D b0 ad Hb tau) mt_94 (d + 4) 0 [some (.ref 1), some (xI x0), some (xI x1), none] [] h Post := by
    have a1 : 1 < n := lt83 (GI_n hG) rfl
    have s1 : S 1 = .inl (11, [2, 0, 0, 0, 2, 2, 2, 2, 2, 2, 2, 2, 2, 2, 2, 2, 2]) := GI_s hG 1 rfl
    have a7 : 7 < n := lt83 (GI_n hG) rfl
    have s7 : S 7 = .inl (0, [2, 2, 2, 2, 0, 0]) := GI_s hG 7 rfl
    have a12 : 12 < n := lt83 (GI_n hG) rfl
    have s12 : S 12 = .inl (4, [2, 2, 0, 2, 2, 2, 2, 2, 2]) := GI_s hG 12 rfl
    have a36 : 36 < n := lt83 (GI_n hG) rfl
    have s36 : S 36 = .inl (5, [2, 0, 0, 0, 0, 0]) := GI_s hG 36 rfl
    refine mx_J.step (sn_94 0) (fun _ _ => rfl) ?_
    have c9 : mx_J (tB l D b0 ad Hb tau) mt_94 (d + 4) 9 [some (.ref 1), some (xI x0), some (xI x1), none] [] h Post := by
      refine JcI (z := (-2)) (show mx_Sn _ _ 9 (mx_const (.int (-2)) 11) from sn_94 9) rfl ?_
      exact mx_J.ret (sn_94 11) (fun _ _ => rfl) (hP (-2) Z h hx hG fr_rf (by omega))
    refine Jif_lt (show mx_Sn _ _ 1 (mx_if_lt 9 4) from sn_94 1) (by omega) (fun q2 => ?_) (fun q2 => ?_)
    · skip
      exact c9 
    · skip
      refine mx_J.step (sn_94 4) (fun _ _ => rfl) ?_
      refine JcI (z := 2) (show mx_Sn _ _ 5 (mx_const (.int 2) 6) from sn_94 5) rfl ?_
      refine Jicmp_le (show mx_Sn _ _ 6 (mx_icmp_le 12 9) from sn_94 6) (by omega) (by omega) (fun q3 => ?_) (fun q3 => ?_)
      · skip
        refine mx_J.step (sn_94 12) (fun _ _ => rfl) ?_
        refine JgetR (g := 6) (b := 12) hx (show mx_Sn _ _ 13 (mx_getf 11 6 16) from sn_94 13) a1 s1 rfl rfl (hG.prr 1 6 rfl) ?_
        refine mx_J.step (sn_94 16) (fun _ _ => rfl) ?_
        refine JgetR (g := 12) (b := 36) hx (show mx_Sn _ _ 17 (mx_getf 11 12 20) from sn_94 17) a1 s1 rfl rfl (hG.prr 1 12 rfl) ?_
        have b7 : 0 ≤ Z 36 2 ∧ Z 36 2 ≤ 384 := hG.pr 36 2
        refine JgetI (g := 2) (z := Z 36 2) hx (show mx_Sn _ _ 20 (mx_getf 5 2 23) from sn_94 20) a36 s36 rfl rfl rfl ?_
        refine mx_J.step (sn_94 23) (fun _ _ => rfl) ?_
        obtain ⟨z8, Z8, h8, hc8, hx8, hG8, hf8, b8⟩ := ct_26_12 (d := d + 0) (l := l) (D := D) (b0 := b0) (ad := ad) (Hb := Hb) (tau := tau) hx hG (show (-2147483648) ≤ Z 36 2 ∧ Z 36 2 ≤ 2147483647 by omega) (show (-2147483648) ≤ x0 ∧ x0 ≤ 2147483647 by omega)
        refine Jcv hx (show mx_Sn _ _ 24 (mx_callv 26 3 4 27) from sn_94 24) a12 s12 hc8 rfl rfl rfl ?_
        refine mx_J.step (ls2 := [some (.ref 1), some (xI x0), some (xI x1), some (xI z8)]) (sn_94 27) (fun _ _ => rfl) ?_
        refine mx_J.step (sn_94 28) (fun _ _ => rfl) ?_
        refine Jif_ge (show mx_Sn _ _ 29 (mx_if_ge 35 32) from sn_94 29) (by omega) (fun q9 => ?_) (fun q9 => ?_)
        · skip
          refine mx_J.step (sn_94 35) (fun _ _ => rfl) ?_
          refine Jif_ne (show mx_Sn _ _ 36 (mx_if_ne 41 39) from sn_94 36) (by omega) (fun q10 => ?_) (fun q10 => ?_)
          · skip
            refine mx_J.step (sn_94 41) (fun _ _ => rfl) ?_
            refine JcI (z := 1) (show mx_Sn _ _ 42 (mx_const (.int 1) 43) from sn_94 42) rfl ?_
            have c66 : ∀ (k11_0 : Int), 0 ≤ k11_0 ∧ k11_0 ≤ 18 → mx_J (tB l D b0 ad Hb tau) mt_94 (d + 4) 66 [some (.ref 1), some (xI x0), some (xI x1), some (xI z8)] [xI k11_0] h8 Post := by
              intro k11_0 f11_0
              exact mx_J.ret (sn_94 66) (fun _ _ => rfl) (hP k11_0 Z8 h8 hx8 hG8 (fr_tr (M := [(14, (-1)), (16, (-1)), (17, (-1)), (18, (-1)), (19, (-1))]) fr_rf (hf8) (M1 := []) rfl rfl) (by omega))
            refine Jicmp_ne (show mx_Sn _ _ 43 (mx_icmp_ne 57 46) from sn_94 43) (by omega) (by omega) (fun q12 => ?_) (fun q12 => ?_)
            · skip
              refine mx_J.step (sn_94 57) (fun _ _ => rfl) ?_
              refine JgetR (g := 5) (b := 7) hx8 (show mx_Sn _ _ 58 (mx_getf 11 5 61) from sn_94 58) a1 s1 rfl rfl (hG8.prr 1 5 rfl) ?_
              refine mx_J.step (sn_94 61) (fun _ _ => rfl) ?_
              refine JcI (z := 0) (show mx_Sn _ _ 62 (mx_const (.int 0) 63) from sn_94 62) rfl ?_
              have eq15 : Z8 9 (z8 * 18 + 0) = Z 9 (z8 * 18 + 0) := (hf8 9 (z8 * 18 + 0) rfl)
              have b16 : 0 ≤ Z 9 (z8 * 18 + 0) ∧ Z 9 (z8 * 18 + 0) ≤ 18 := hG.pr 9 (z8 * 18 + 0)
              have eq17 : Z8 10 z8 = Z 10 z8 := (hf8 10 z8 rfl)
              have b18 : 0 ≤ Z 10 z8 ∧ Z 10 z8 ≤ 18 := hG.pr 10 z8
              have eq19 : Z8 7 5 = Z 7 5 := (hf8 7 5 rfl)
              have b20 : 0 ≤ Z 7 5 ∧ Z 7 5 ≤ 385 := hG.pr 7 5
              obtain ⟨z14, hc14, b14⟩ := ct_6_7 (d := d + 2) (l := l) (D := D) (b0 := b0) (ad := ad) (Hb := Hb) (tau := tau) hx8 hG8 (show (-2147483648) ≤ z8 ∧ z8 ≤ 2147483647 by omega) (show (-2147483648) ≤ 0 ∧ 0 ≤ 2147483647 by omega)
              try rw [eq15] at b14
              try rw [eq17] at b14
              try rw [eq19] at b14
              refine Jcv hx8 (show mx_Sn _ _ 63 (mx_callv 6 3 0 66) from sn_94 63) a7 s7 hc14 rfl rfl rfl ?_
              exact c66 z14 (by omega)
            · skip
              refine mx_J.step (sn_94 46) (fun _ _ => rfl) ?_
              refine JgetR (g := 5) (b := 7) hx8 (show mx_Sn _ _ 47 (mx_getf 11 5 50) from sn_94 47) a1 s1 rfl rfl (hG8.prr 1 5 rfl) ?_
              refine mx_J.step (sn_94 50) (fun _ _ => rfl) ?_
              have eq23 : Z8 7 5 = Z 7 5 := (hf8 7 5 rfl)
              have b24 : 0 ≤ Z 7 5 ∧ Z 7 5 ≤ 385 := hG.pr 7 5
              have eq25 : Z8 10 z8 = Z 10 z8 := (hf8 10 z8 rfl)
              have b26 : 0 ≤ Z 10 z8 ∧ Z 10 z8 ≤ 18 := hG.pr 10 z8
              obtain ⟨z22, hc22, b22⟩ := ct_5_7 (d := d + 3) (l := l) (D := D) (b0 := b0) (ad := ad) (Hb := Hb) (tau := tau) hx8 hG8 (show (-2147483648) ≤ z8 ∧ z8 ≤ 2147483647 by omega)
              try rw [eq23] at b22
              try rw [eq25] at b22
              refine Jcv hx8 (show mx_Sn _ _ 51 (mx_callv 5 2 0 54) from sn_94 51) a7 s7 hc22 rfl rfl rfl ?_
              refine mx_J.step (sn_94 54) (fun _ _ => rfl) ?_
              exact c66 z22 (by omega)
          · skip
            refine mx_J.step (sn_94 39) (fun _ _ => rfl) ?_
            exact mx_J.ret (sn_94 40) (fun _ _ => rfl) (hP z8 Z8 h8 hx8 hG8 (fr_tr (M := [(14, (-1)), (16, (-1)), (17, (-1)), (18, (-1)), (19, (-1))]) fr_rf (hf8) (M1 := []) rfl rfl) (by omega))
        · skip
          refine JcI (z := (-5)) (show mx_Sn _ _ 32 (mx_const (.int (-5)) 34) from sn_94 32) rfl ?_
          exact mx_J.ret (sn_94 34) (fun _ _ => rfl) (hP (-5) Z8 h8 hx8 hG8 (fr_tr (M := [(14, (-1)), (16, (-1)), (17, (-1)), (18, (-1)), (19, (-1))]) fr_rf (hf8) (M1 := []) rfl rfl) (by omega))
      · skip
        exact c9 
theorem ct_94_1 {l : Launch} {D : va_G} {b0 : Nat} {ad : Nat → Nat} {Hb : Heap} {tau : Nat → Int64} {d n s : Nat} {S : Nat → xS} {Z : xZ} {h : mx_H} (hx : XH n s S Z h) (hG : GI n S Z)  {x0 x1 : Int} (p0 : (-2147483648) ≤ x0 ∧ x0 ≤ 2147483647) (p1 : (-2147483648) ≤ x1 ∧ x1 ≤ 2147483647) : ∃ (z : Int) (Z' : xZ) (h' : mx_H), mx_Ca (tB l D b0 ad Hb tau) (d + 5) 94 [.ref 1, xI x0, xI x1] h (some (xI z), h') ∧ XH n s S Z' h' ∧ GI n S Z' ∧ fr' [(14, (-1)), (16, (-1)), (17, (-1)), (18, (-1)), (19, (-1))] Z Z' ∧ ((-5) ≤ z ∧ z ≤ 384) := by
  obtain ⟨r, hca, z, Z', h', e, q⟩ := Jmt (B := tB l D b0 ad Hb tau) (M := mt_94) (mi := 94) (as := [.ref 1, xI x0, xI x1]) (d := d + 4) (ls := [some (.ref 1), some (xI x0), some (xI x1), none]) rfl rfl rfl rfl rfl rfl (cw_94_1 (l := l) (D := D) (b0 := b0) (ad := ad) (Hb := Hb) (tau := tau) (d := d) (Post := fun r => ∃ (z : Int) (Z' : xZ) (h' : mx_H), r = (some (xI z), h') ∧ XH n s S Z' h' ∧ GI n S Z' ∧ fr' [(14, (-1)), (16, (-1)), (17, (-1)), (18, (-1)), (19, (-1))] Z Z' ∧ ((-5) ≤ z ∧ z ≤ 384)) hx hG p0 p1 (fun z Z' h' q1 q2 q3 q4 => ⟨z, Z', h', rfl, q1, q2, q3, q4⟩))
  subst e; exact ⟨z, Z', h', hca, q⟩
set_option maxRecDepth 100000 in
theorem cw_15_20 {l : Launch} {D : va_G} {b0 : Nat} {ad : Nat → Nat} {Hb : Heap} {tau : Nat → Int64} {d n s : Nat} {S : Nat → xS} {Z : xZ} {h : mx_H} {Post : mx_R → Prop} (hx : XH n s S Z h) (hG : GI n S Z)  {x0 : Int} (p0 : 0 ≤ x0 ∧ x0 ≤ 384) (hP : ∀ (Z' : xZ) (h' : mx_H), XH n s S Z' h' → GI n S Z' → fr' [(14, (-1)), (16, (-1)), (17, (-1)), (18, (-1)), (19, (-1)), (20, 6), (20, 7), (21, (-1)), (22, (-1))] Z Z' → Post (none, h')) : mx_J (tB l D b0 ad Hb tau) mt_15 (d + 5) 0 [some (.ref 20), some (xI x0), none, none] [] h Post := by
    have a12 : 12 < n := lt83 (GI_n hG) rfl
    have s12 : S 12 = .inl (4, [2, 2, 0, 2, 2, 2, 2, 2, 2]) := GI_s hG 12 rfl
    have a20 : 20 < n := lt83 (GI_n hG) rfl
    have s20 : S 20 = .inl (2, [2, 2, 2, 2, 2, 2, 0, 0, 0, 0, 0, 0]) := GI_s hG 20 rfl
    have a21 : 21 < n := lt83 (GI_n hG) rfl
    have s21 : S 21 = .inr (.int, 385, 0) := GI_s hG 21 rfl
    have a22 : 22 < n := lt83 (GI_n hG) rfl
    have s22 : S 22 = .inr (.int, 385, 0) := GI_s hG 22 rfl
    refine mx_J.step (sn_15 0) (fun _ _ => rfl) ?_
    refine JgetR (g := 3) (b := 22) hx (show mx_Sn _ _ 1 (mx_getf 2 3 4) from sn_15 1) a20 s20 rfl rfl (hG.prr 20 3 rfl) ?_
    refine JcI (z := (-1)) (show mx_Sn _ _ 4 (mx_const (.int (-1)) 5) from sn_15 4) rfl ?_
    obtain ⟨Z2, h2, hc2, hx2, hG2, hf2⟩ := ct_284_22_m1 (d := d + 4) (l := l) (D := D) (b0 := b0) (ad := ad) (Hb := Hb) (tau := tau) hx hG 
    refine Jcs0 (show mx_Sn _ _ 5 (mx_calls 284 2 8) from sn_15 5) hc2 rfl rfl rfl ?_
    refine mx_J.step (sn_15 8) (fun _ _ => rfl) ?_
    refine mx_J.step (ls2 := [some (.ref 20), some (xI x0), some (xI x0), none]) (sn_15 9) (fun _ _ => rfl) ?_
    refine JcI (z := 0) (show mx_Sn _ _ 10 (mx_const (.int 0) 11) from sn_15 10) rfl ?_
    refine mx_J.step (ls2 := [some (.ref 20), some (xI x0), some (xI x0), some (xI 0)]) (sn_15 11) (fun _ _ => rfl) ?_
    have c12 : ∀ (m3 : Nat) (w3_2 : Int) (w3_3 : Int) (Z4 : xZ) (h4 : mx_H), 385 - w3_3 < (m3 : Int) → 0 ≤ w3_2 ∧ w3_2 ≤ 384 → 0 ≤ w3_3 ∧ w3_3 ≤ 385 → XH n s S Z4 h4 → GI n S Z4 → fr' [(14, (-1)), (16, (-1)), (17, (-1)), (18, (-1)), (19, (-1)), (21, (-1)), (22, (-1))] Z2 Z4 → mx_J (tB l D b0 ad Hb tau) mt_15 (d + 5) 12 [some (.ref 20), some (xI x0), some (xI w3_2), some (xI w3_3)] [] h4 Post := by
      intro m3
      induction m3 with
      | zero => intro w3_2 w3_3 Z4 h4 q3 f3_0 f3_1 hx4 hG4 hf4; exact absurd q3 (by omega)
      | succ m3 ih3 =>
        intro w3_2 w3_3 Z4 h4 q3 f3_0 f3_1 hx4 hG4 hf4
        refine mx_J.step (sn_15 12) (fun _ _ => rfl) ?_
        refine JcI (z := 385) (show mx_Sn _ _ 13 (mx_const (.int 385) 16) from sn_15 13) rfl ?_
        have c57 : mx_J (tB l D b0 ad Hb tau) mt_15 (d + 5) 57 [some (.ref 20), some (xI x0), some (xI w3_2), some (xI w3_3)] [] h4 Post := by
          refine mx_J.step (sn_15 57) (fun _ _ => rfl) ?_
          refine JcI (z := 0) (show mx_Sn _ _ 58 (mx_const (.int 0) 59) from sn_15 58) rfl ?_
          refine mx_J.step (sn_15 59) (fun _ _ => rfl) ?_
          refine JgetR (g := 3) (b := 22) hx4 (show mx_Sn _ _ 60 (mx_getf 2 3 63) from sn_15 60) a20 s20 rfl rfl (hG4.prr 20 3 rfl) ?_
          refine mx_J.step (sn_15 63) (fun _ _ => rfl) ?_
          have b7 : (-2147483648) ≤ Z4 22 w3_2 ∧ Z4 22 w3_2 ≤ 2147483647 := hG4.pr 22 w3_2
          refine JialdI (z := Z4 22 w3_2) hx4 (show mx_Sn _ _ 64 (mx_iald 65) from sn_15 64) a22 s22 (by omega) rfl ?_
          refine Jmmax (show mx_Sn _ _ 65 (mx_mmax 68) from sn_15 65) (by omega) (by omega) ⟨_, rfl⟩ rfl (fun y8 hy8 => ?_)
          refine JputI (g := 6) hx4 (show mx_Sn _ _ 68 (mx_putf 1 2 6 (.int) 71) from sn_15 68) a20 s20 rfl rfl rfl rfl (fun Z9 h9 hx9 hE9 => ?_)
          have hG9 := GI_up hG4 hE9 (show 0 ≤ y8 ∧ y8 ≤ 2147483647 by omega) trivial rfl
          refine mx_J.step (sn_15 71) (fun _ _ => rfl) ?_
          refine JcI (z := 1) (show mx_Sn _ _ 72 (mx_const (.int 1) 73) from sn_15 72) rfl ?_
          refine mx_J.step (sn_15 73) (fun _ _ => rfl) ?_
          refine mx_J.step (sn_15 74) (fun _ _ => rfl) ?_
          refine JgetI (g := 6) (z := y8) hx9 (show mx_Sn _ _ 75 (mx_getf 2 6 78) from sn_15 75) a20 s20 rfl rfl (up_at hE9) ?_
          refine Jisub (show mx_Sn _ _ 78 (mx_isub 79) from sn_15 78) ?_
          refine Jmmax (show mx_Sn _ _ 79 (mx_mmax 82) from sn_15 79) (by omega) (by omega) ⟨_, rfl⟩ rfl (fun y11 hy11 => ?_)
          refine JputI (g := 7) hx9 (show mx_Sn _ _ 82 (mx_putf 1 2 7 (.int) 85) from sn_15 82) a20 s20 rfl rfl rfl rfl (fun Z12 h12 hx12 hE12 => ?_)
          have hG12 := GI_up hG9 hE12 (show 1 ≤ y11 ∧ y11 ≤ 2147483647 by omega) trivial rfl
          exact mx_J.ret (sn_15 85) (fun _ _ => rfl) (hP Z12 h12 hx12 hG12 (fr_tr (M := [(14, (-1)), (16, (-1)), (17, (-1)), (18, (-1)), (19, (-1)), (20, 6), (20, 7), (21, (-1)), (22, (-1))]) (fr_tr (M := [(14, (-1)), (16, (-1)), (17, (-1)), (18, (-1)), (19, (-1)), (20, 6), (20, 7), (21, (-1)), (22, (-1))]) (fr_tr (M := [(14, (-1)), (16, (-1)), (17, (-1)), (18, (-1)), (19, (-1)), (20, 6), (20, 7), (21, (-1)), (22, (-1))]) (fr_tr (M := [(14, (-1)), (16, (-1)), (17, (-1)), (18, (-1)), (19, (-1)), (20, 6), (20, 7), (21, (-1)), (22, (-1))]) fr_rf (hf2) (M1 := []) rfl rfl) (hf4) rfl rfl) (fr_up hE9) rfl rfl) (fr_up hE12) rfl rfl))
        refine Jicmp_ge (show mx_Sn _ _ 16 (mx_icmp_ge 57 19) from sn_15 16) (by omega) (by omega) (fun q13 => ?_) (fun q13 => ?_)
        · skip
          exact c57 
        · skip
          refine mx_J.step (sn_15 19) (fun _ _ => rfl) ?_
          refine JgetR (g := 3) (b := 22) hx4 (show mx_Sn _ _ 20 (mx_getf 2 3 23) from sn_15 20) a20 s20 rfl rfl (hG4.prr 20 3 rfl) ?_
          refine mx_J.step (sn_15 23) (fun _ _ => rfl) ?_
          have b15 : (-2147483648) ≤ Z4 22 w3_2 ∧ Z4 22 w3_2 ≤ 2147483647 := hG4.pr 22 w3_2
          refine JialdI (z := Z4 22 w3_2) hx4 (show mx_Sn _ _ 24 (mx_iald 25) from sn_15 24) a22 s22 (by omega) rfl ?_
          refine Jif_ge (show mx_Sn _ _ 25 (mx_if_ge 57 28) from sn_15 25) (by omega) (fun q16 => ?_) (fun q16 => ?_)
          · skip
            exact c57 
          · skip
            refine mx_J.step (sn_15 28) (fun _ _ => rfl) ?_
            refine JgetR (g := 3) (b := 22) hx4 (show mx_Sn _ _ 29 (mx_getf 2 3 32) from sn_15 29) a20 s20 rfl rfl (hG4.prr 20 3 rfl) ?_
            refine mx_J.step (sn_15 32) (fun _ _ => rfl) ?_
            refine mx_J.step (sn_15 33) (fun _ _ => rfl) ?_
            refine JiastI hx4 (show mx_Sn _ _ 34 (mx_iast 1 35) from sn_15 34) a22 s22 rfl (by omega) (fun Z18 h18 hx18 hE18 => ?_)
            have hG18 := GI_up hG4 hE18 (show (-2147483648) ≤ w3_3 ∧ w3_3 ≤ 2147483647 by omega) trivial rfl
            refine mx_J.step (sn_15 35) (fun _ _ => rfl) ?_
            refine JgetR (g := 2) (b := 21) hx18 (show mx_Sn _ _ 36 (mx_getf 2 2 39) from sn_15 36) a20 s20 rfl rfl (hG18.prr 20 2 rfl) ?_
            refine mx_J.step (sn_15 39) (fun _ _ => rfl) ?_
            refine mx_J.step (sn_15 40) (fun _ _ => rfl) ?_
            refine JiastI hx18 (show mx_Sn _ _ 41 (mx_iast 1 42) from sn_15 41) a21 s21 rfl (by omega) (fun Z20 h20 hx20 hE20 => ?_)
            have hG20 := GI_up hG18 hE20 (show 0 ≤ w3_2 ∧ w3_2 ≤ 384 by omega) trivial rfl
            refine Jiinc (z := w3_3) (cz := 1) (ls2 := [some (.ref 20), some (xI x0), some (xI w3_2), some (xI (w3_3 + 1))]) (show mx_Sn _ _ 42 (mx_iinc 3 1 45) from sn_15 42) rfl rfl rfl rfl ?_
            refine mx_J.step (sn_15 45) (fun _ _ => rfl) ?_
            refine JgetR (g := 1) (b := 12) hx20 (show mx_Sn _ _ 46 (mx_getf 2 1 49) from sn_15 46) a20 s20 rfl rfl (hG20.prr 20 1 rfl) ?_
            refine mx_J.step (sn_15 49) (fun _ _ => rfl) ?_
            obtain ⟨z22, Z22, h22, hc22, hx22, hG22, hf22, b22⟩ := ct_27_12 (d := d + 0) (l := l) (D := D) (b0 := b0) (ad := ad) (Hb := Hb) (tau := tau) hx20 hG20 (show (-2147483648) ≤ w3_2 ∧ w3_2 ≤ 2147483647 by omega)
            refine Jcv hx20 (show mx_Sn _ _ 50 (mx_callv 27 2 4 53) from sn_15 50) a12 s12 hc22 rfl rfl rfl ?_
            refine mx_J.step (ls2 := [some (.ref 20), some (xI x0), some (xI z22), some (xI (w3_3 + 1))]) (sn_15 53) (fun _ _ => rfl) ?_
            refine mx_J.step (sn_15 54) (fun _ _ => rfl) ?_
            exact ih3 z22 (w3_3 + 1) Z22 h22 (by omega) (by omega) (by omega) hx22 hG22 (fr_tr (M := [(14, (-1)), (16, (-1)), (17, (-1)), (18, (-1)), (19, (-1)), (21, (-1)), (22, (-1))]) (fr_tr (M := [(14, (-1)), (16, (-1)), (17, (-1)), (18, (-1)), (19, (-1)), (21, (-1)), (22, (-1))]) (fr_tr (M := [(14, (-1)), (16, (-1)), (17, (-1)), (18, (-1)), (19, (-1)), (21, (-1)), (22, (-1))]) (fr_tr (M := [(14, (-1)), (16, (-1)), (17, (-1)), (18, (-1)), (19, (-1)), (21, (-1)), (22, (-1))]) fr_rf (hf4) (M1 := []) rfl rfl) (fr_ua hE18) rfl rfl) (fr_ua hE20) rfl rfl) (hf22) rfl rfl)
    exact c12 (Int.toNat (385 - 0) + 1) x0 0 Z2 h2 (by omega) (by omega) (by omega) hx2 hG2 fr_rf
theorem ct_15_20 {l : Launch} {D : va_G} {b0 : Nat} {ad : Nat → Nat} {Hb : Heap} {tau : Nat → Int64} {d n s : Nat} {S : Nat → xS} {Z : xZ} {h : mx_H} (hx : XH n s S Z h) (hG : GI n S Z)  {x0 : Int} (p0 : 0 ≤ x0 ∧ x0 ≤ 384) : ∃ (Z' : xZ) (h' : mx_H), mx_Ca (tB l D b0 ad Hb tau) (d + 6) 15 [.ref 20, xI x0] h (none, h') ∧ XH n s S Z' h' ∧ GI n S Z' ∧ fr' [(14, (-1)), (16, (-1)), (17, (-1)), (18, (-1)), (19, (-1)), (20, 6), (20, 7), (21, (-1)), (22, (-1))] Z Z' := by
  obtain ⟨r, hca, Z', h', e, q⟩ := Jmt (B := tB l D b0 ad Hb tau) (M := mt_15) (mi := 15) (as := [.ref 20, xI x0]) (d := d + 5) (ls := [some (.ref 20), some (xI x0), none, none]) rfl rfl rfl rfl rfl rfl (cw_15_20 (l := l) (D := D) (b0 := b0) (ad := ad) (Hb := Hb) (tau := tau) (d := d) (Post := fun r => ∃ (Z' : xZ) (h' : mx_H), r = (none, h') ∧ XH n s S Z' h' ∧ GI n S Z' ∧ fr' [(14, (-1)), (16, (-1)), (17, (-1)), (18, (-1)), (19, (-1)), (20, 6), (20, 7), (21, (-1)), (22, (-1))] Z Z') hx hG p0 (fun Z' h' q1 q2 q3 => ⟨Z', h', rfl, q1, q2, q3⟩))
  subst e; exact ⟨Z', h', hca, q⟩
set_option maxRecDepth 100000 in
theorem cw_16_20 {l : Launch} {D : va_G} {b0 : Nat} {ad : Nat → Nat} {Hb : Heap} {tau : Nat → Int64} {d n s : Nat} {S : Nat → xS} {Z : xZ} {h : mx_H} {Post : mx_R → Prop} (hx : XH n s S Z h) (hG : GI n S Z)  {x0 : Int} (p0 : 0 ≤ x0 ∧ x0 ≤ 1000000000000000) (hP : ∀ z : Int, (-1) ≤ z ∧ z ≤ 384 → Post (some (xI z), h)) : mx_J (tB l D b0 ad Hb tau) mt_16 (d + 0) 0 [some (.ref 20), some (xL x0), none, none, none] [] h Post := by
    have a20 : 20 < n := lt83 (GI_n hG) rfl
    have s20 : S 20 = .inl (2, [2, 2, 2, 2, 2, 2, 0, 0, 0, 0, 0, 0]) := GI_s hG 20 rfl
    have a21 : 21 < n := lt83 (GI_n hG) rfl
    have s21 : S 21 = .inr (.int, 385, 0) := GI_s hG 21 rfl
    refine mx_J.step (sn_16 0) (fun _ _ => rfl) ?_
    refine mx_J.step (sn_16 1) (fun _ _ => rfl) ?_
    have b2 : 0 ≤ Z 20 6 ∧ Z 20 6 ≤ 2147483647 := hG.pr 20 6
    refine JgetI (g := 6) (z := Z 20 6) hx (show mx_Sn _ _ 2 (mx_getf 2 6 5) from sn_16 2) a20 s20 rfl rfl rfl ?_
    refine Ji2l (show mx_Sn _ _ 5 (mx_i2l 6) from sn_16 5) (by omega) ?_
    have c33 : ∀ (k3_0 : Int), (-9223372036854775808) ≤ k3_0 ∧ k3_0 ≤ 9223372036854775807 → mx_J (tB l D b0 ad Hb tau) mt_16 (d + 0) 33 [some (.ref 20), some (xL x0), none, none, none] [xL k3_0] h Post := by
      intro k3_0 f3_0
      refine mx_J.step (ls2 := [some (.ref 20), some (xL x0), none, some (xL k3_0), none]) (sn_16 33) (fun _ _ => rfl) ?_
      refine mx_J.step (sn_16 34) (fun _ _ => rfl) ?_
      refine JcL (z := 0) (show mx_Sn _ _ 35 (mx_const (.long 0) 36) from sn_16 35) rfl ?_
      have c59 : ∀ (k4_0 : Int), (-1) ≤ k4_0 ∧ k4_0 ≤ 384 → mx_J (tB l D b0 ad Hb tau) mt_16 (d + 0) 59 [some (.ref 20), some (xL x0), none, some (xL k3_0), none] [xI k4_0] h Post := by
        intro k4_0 f4_0
        exact mx_J.ret (sn_16 59) (fun _ _ => rfl) (hP k4_0 (by omega))
      have c48 : mx_J (tB l D b0 ad Hb tau) mt_16 (d + 0) 48 [some (.ref 20), some (xL x0), none, some (xL k3_0), none] [] h Post := by
        refine JcI (z := (-1)) (show mx_Sn _ _ 48 (mx_const (.int (-1)) 49) from sn_16 48) rfl ?_
        refine mx_J.step (sn_16 49) (fun _ _ => rfl) ?_
        exact c59 (-1) (by omega)
      refine Jlif_lt (show mx_Sn _ _ 36 (mx_lif_lt 48 40) from sn_16 36) (by omega) (by omega) (fun q6 => ?_) (fun q6 => ?_)
      · skip
        exact c48 
      · skip
        refine mx_J.step (sn_16 40) (fun _ _ => rfl) ?_
        refine JcL (z := 385) (show mx_Sn _ _ 41 (mx_const (.long 385) 44) from sn_16 41) rfl ?_
        refine Jlif_lt (show mx_Sn _ _ 44 (mx_lif_lt 52 48) from sn_16 44) (by omega) (by omega) (fun q7 => ?_) (fun q7 => ?_)
        · skip
          refine mx_J.step (sn_16 52) (fun _ _ => rfl) ?_
          refine JgetR (g := 2) (b := 21) hx (show mx_Sn _ _ 53 (mx_getf 2 2 56) from sn_16 53) a20 s20 rfl rfl (hG.prr 20 2 rfl) ?_
          refine mx_J.step (sn_16 56) (fun _ _ => rfl) ?_
          refine Jl2i (show mx_Sn _ _ 57 (mx_l2i 58) from sn_16 57) ?_
          have b9 : 0 ≤ Z 21 k3_0 ∧ Z 21 k3_0 ≤ 384 := hG.pr 21 k3_0
          refine JialdI (z := Z 21 k3_0) hx (show mx_Sn _ _ 58 (mx_iald 59) from sn_16 58) a21 s21 (by omega) rfl ?_
          exact c59 (Z 21 k3_0) (by omega)
        · skip
          exact c48 
    refine Jlif_ge (show mx_Sn _ _ 6 (mx_lif_ge 14 10) from sn_16 6) (by omega) (by omega) (fun q10 => ?_) (fun q10 => ?_)
    · skip
      refine mx_J.step (sn_16 14) (fun _ _ => rfl) ?_
      refine JgetI (g := 6) (z := Z 20 6) hx (show mx_Sn _ _ 15 (mx_getf 2 6 18) from sn_16 15) a20 s20 rfl rfl rfl ?_
      refine Ji2l (show mx_Sn _ _ 18 (mx_i2l 19) from sn_16 18) (by omega) ?_
      refine mx_J.step (sn_16 19) (fun _ _ => rfl) ?_
      refine mx_J.step (sn_16 20) (fun _ _ => rfl) ?_
      refine JgetI (g := 6) (z := Z 20 6) hx (show mx_Sn _ _ 21 (mx_getf 2 6 24) from sn_16 21) a20 s20 rfl rfl rfl ?_
      refine Ji2l (show mx_Sn _ _ 24 (mx_i2l 25) from sn_16 24) (by omega) ?_
      refine Jlsub (show mx_Sn _ _ 25 (mx_lsub 26) from sn_16 25) ?_
      refine mx_J.step (sn_16 26) (fun _ _ => rfl) ?_
      have b14 : 1 ≤ Z 20 7 ∧ Z 20 7 ≤ 2147483647 := hG.pr 20 7
      refine JgetI (g := 7) (z := Z 20 7) hx (show mx_Sn _ _ 27 (mx_getf 2 7 30) from sn_16 27) a20 s20 rfl rfl rfl ?_
      refine Ji2l (show mx_Sn _ _ 30 (mx_i2l 31) from sn_16 30) (by omega) ?_
      refine JlremX (show mx_Sn _ _ 31 (mx_lrem 32) from sn_16 31) (by omega) (by omega) (by omega) (fun y15 hy15 => ?_)
      refine JladdN (show mx_Sn _ _ 32 (mx_ladd 33) from sn_16 32) (fun y16 hy16 hq16 => ?_)
      exact c33 y16 (by omega)
    · skip
      refine mx_J.step (sn_16 10) (fun _ _ => rfl) ?_
      refine mx_J.step (sn_16 11) (fun _ _ => rfl) ?_
      exact c33 x0 (by omega)
theorem ct_16_20 {l : Launch} {D : va_G} {b0 : Nat} {ad : Nat → Nat} {Hb : Heap} {tau : Nat → Int64} {d n s : Nat} {S : Nat → xS} {Z : xZ} {h : mx_H} (hx : XH n s S Z h) (hG : GI n S Z)  {x0 : Int} (p0 : 0 ≤ x0 ∧ x0 ≤ 1000000000000000) : ∃ z : Int, mx_Ca (tB l D b0 ad Hb tau) (d + 1) 16 [.ref 20, xL x0] h (some (xI z), h) ∧ ((-1) ≤ z ∧ z ≤ 384) := by
  obtain ⟨r, hca, z, e, hp⟩ := Jmt (B := tB l D b0 ad Hb tau) (M := mt_16) (mi := 16) (as := [.ref 20, xL x0]) (d := d + 0) (ls := [some (.ref 20), some (xL x0), none, none, none]) rfl rfl rfl rfl rfl rfl (cw_16_20 (l := l) (D := D) (b0 := b0) (ad := ad) (Hb := Hb) (tau := tau) (d := d) (Post := fun r => ∃ z : Int, r = (some (xI z), h) ∧ ((-1) ≤ z ∧ z ≤ 384)) hx hG p0 (fun z hz => ⟨z, rfl, hz⟩))
  subst e; exact ⟨z, hca, hp⟩
set_option maxRecDepth 100000 in
theorem cw_17_20 {l : Launch} {D : va_G} {b0 : Nat} {ad : Nat → Nat} {Hb : Heap} {tau : Nat → Int64} {d n s : Nat} {S : Nat → xS} {Z : xZ} {h : mx_H} {Post : mx_R → Prop} (hx : XH n s S Z h) (hG : GI n S Z)  {x0 x1 : Int} (p0 : (-2147483648) ≤ x0 ∧ x0 ≤ 2147483647) (p1 : 0 ≤ x1 ∧ x1 ≤ 9) (hP : ∀ (z : Int) (Z' : xZ) (h' : mx_H), XH n s S Z' h' → GI n S Z' → fr' [(14, (-1)), (16, (-1)), (17, (-1)), (18, (-1)), (19, (-1))] Z Z' → (-2147483648) ≤ z ∧ z ≤ 2147483647 → Post (some (xI z), h')) : mx_J (tB l D b0 ad Hb tau) mt_17 (d + 5) 0 [some (.ref 20), some (xI x0), some (xI x1), none, none, none, none] [] h Post := by
    have a7 : 7 < n := lt83 (GI_n hG) rfl
    have s7 : S 7 = .inl (0, [2, 2, 2, 2, 0, 0]) := GI_s hG 7 rfl
    have a12 : 12 < n := lt83 (GI_n hG) rfl
    have s12 : S 12 = .inl (4, [2, 2, 0, 2, 2, 2, 2, 2, 2]) := GI_s hG 12 rfl
    have a20 : 20 < n := lt83 (GI_n hG) rfl
    have s20 : S 20 = .inl (2, [2, 2, 2, 2, 2, 2, 0, 0, 0, 0, 0, 0]) := GI_s hG 20 rfl
    refine JcI (z := 0) (show mx_Sn _ _ 0 (mx_const (.int 0) 1) from sn_17 0) rfl ?_
    refine mx_J.step (ls2 := [some (.ref 20), some (xI x0), some (xI x1), some (xI 0), none, none, none]) (sn_17 1) (fun _ _ => rfl) ?_
    refine JcI (z := 0) (show mx_Sn _ _ 2 (mx_const (.int 0) 3) from sn_17 2) rfl ?_
    refine mx_J.step (ls2 := [some (.ref 20), some (xI x0), some (xI x1), some (xI 0), some (xI 0), none, none]) (sn_17 3) (fun _ _ => rfl) ?_
    have c5 : ∀ (m1 : Nat) (w1_3 : Int) (w1_4 : Int) (u1_5 : Option Value) (u1_6 : Option Value) (Z2 : xZ) (h2 : mx_H), 385 - w1_4 < (m1 : Int) → (-2147483648) ≤ w1_3 ∧ w1_3 ≤ 2147483647 → 0 ≤ w1_4 ∧ w1_4 ≤ 385 → XH n s S Z2 h2 → GI n S Z2 → fr' [(14, (-1)), (16, (-1)), (17, (-1)), (18, (-1)), (19, (-1))] Z Z2 → mx_J (tB l D b0 ad Hb tau) mt_17 (d + 5) 5 [some (.ref 20), some (xI x0), some (xI x1), some (xI w1_3), some (xI w1_4), u1_5, u1_6] [] h2 Post := by
      intro m1
      induction m1 with
      | zero => intro w1_3 w1_4 u1_5 u1_6 Z2 h2 q1 f1_0 f1_1 hx2 hG2 hf2; exact absurd q1 (by omega)
      | succ m1 ih1 =>
        intro w1_3 w1_4 u1_5 u1_6 Z2 h2 q1 f1_0 f1_1 hx2 hG2 hf2
        refine mx_J.step (sn_17 5) (fun _ _ => rfl) ?_
        refine mx_J.step (sn_17 7) (fun _ _ => rfl) ?_
        refine JgetR (g := 0) (b := 7) hx2 (show mx_Sn _ _ 8 (mx_getf 2 0 11) from sn_17 8) a20 s20 rfl rfl (hG2.prr 20 0 rfl) ?_
        have b5 : 0 ≤ Z 7 5 ∧ Z 7 5 ≤ 385 := hG.pr 7 5
        refine JgetI (g := 5) (z := Z 7 5) hx2 (show mx_Sn _ _ 11 (mx_getf 0 5 14) from sn_17 11) a7 s7 rfl rfl (hf2 7 5 rfl) ?_
        refine Jicmp_ge (show mx_Sn _ _ 14 (mx_icmp_ge 62 17) from sn_17 14) (by omega) (by omega) (fun q6 => ?_) (fun q6 => ?_)
        · skip
          refine mx_J.step (sn_17 62) (fun _ _ => rfl) ?_
          exact mx_J.ret (sn_17 63) (fun _ _ => rfl) (hP w1_3 Z2 h2 hx2 hG2 (fr_tr (M := [(14, (-1)), (16, (-1)), (17, (-1)), (18, (-1)), (19, (-1))]) fr_rf (hf2) (M1 := []) rfl rfl) (by omega))
        · skip
          refine mx_J.step (sn_17 17) (fun _ _ => rfl) ?_
          refine mx_J.step (ls2 := [some (.ref 20), some (xI x0), some (xI x1), some (xI w1_3), some (xI w1_4), some (xI w1_4), u1_6]) (sn_17 19) (fun _ _ => rfl) ?_
          refine JcI (z := 0) (show mx_Sn _ _ 21 (mx_const (.int 0) 22) from sn_17 21) rfl ?_
          refine mx_J.step (ls2 := [some (.ref 20), some (xI x0), some (xI x1), some (xI w1_3), some (xI w1_4), some (xI w1_4), some (xI 0)]) (sn_17 22) (fun _ _ => rfl) ?_
          have c24 : ∀ (m7 : Nat) (w7_5 : Int) (w7_6 : Int) (Z8 : xZ) (h8 : mx_H), 9 - w7_6 < (m7 : Int) → 0 ≤ w7_5 ∧ w7_5 ≤ 384 → 0 ≤ w7_6 ∧ w7_6 ≤ 9 → XH n s S Z8 h8 → GI n S Z8 → fr' [(14, (-1)), (16, (-1)), (17, (-1)), (18, (-1)), (19, (-1))] Z2 Z8 → mx_J (tB l D b0 ad Hb tau) mt_17 (d + 5) 24 [some (.ref 20), some (xI x0), some (xI x1), some (xI w1_3), some (xI w1_4), some (xI w7_5), some (xI w7_6)] [] h8 Post := by
            intro m7
            induction m7 with
            | zero => intro w7_5 w7_6 Z8 h8 q7 f7_0 f7_1 hx8 hG8 hf8; exact absurd q7 (by omega)
            | succ m7 ih7 =>
              intro w7_5 w7_6 Z8 h8 q7 f7_0 f7_1 hx8 hG8 hf8
              refine mx_J.step (sn_17 24) (fun _ _ => rfl) ?_
              refine mx_J.step (sn_17 26) (fun _ _ => rfl) ?_
              refine Jicmp_ge (show mx_Sn _ _ 27 (mx_icmp_ge 47 30) from sn_17 27) (by omega) (by omega) (fun q9 => ?_) (fun q9 => ?_)
              · skip
                refine mx_J.step (sn_17 47) (fun _ _ => rfl) ?_
                refine mx_J.step (sn_17 49) (fun _ _ => rfl) ?_
                have c56 : ∀ (w10_3 : Int), (-2147483648) ≤ w10_3 ∧ w10_3 ≤ 2147483647 → mx_J (tB l D b0 ad Hb tau) mt_17 (d + 5) 56 [some (.ref 20), some (xI x0), some (xI x1), some (xI w10_3), some (xI w1_4), some (xI w7_5), some (xI w7_6)] [] h8 Post := by
                  intro w10_3 f10_0
                  refine Jiinc (z := w1_4) (cz := 1) (ls2 := [some (.ref 20), some (xI x0), some (xI x1), some (xI w10_3), some (xI (w1_4 + 1)), some (xI w7_5), some (xI w7_6)]) (show mx_Sn _ _ 56 (mx_iinc 4 1 59) from sn_17 56) rfl rfl rfl rfl ?_
                  refine mx_J.step (sn_17 59) (fun _ _ => rfl) ?_
                  exact ih1 w10_3 (w1_4 + 1) (some (xI w7_5)) (some (xI w7_6)) Z8 h8 (by omega) (by omega) (by omega) hx8 hG8 (fr_tr (M := [(14, (-1)), (16, (-1)), (17, (-1)), (18, (-1)), (19, (-1))]) (fr_tr (M := [(14, (-1)), (16, (-1)), (17, (-1)), (18, (-1)), (19, (-1))]) fr_rf (hf2) (M1 := []) rfl rfl) (hf8) rfl rfl)
                refine Jicmp_ne (show mx_Sn _ _ 50 (mx_icmp_ne 56 53) from sn_17 50) (by omega) (by omega) (fun q11 => ?_) (fun q11 => ?_)
                · skip
                  exact c56 w1_3 (by omega)
                · skip
                  refine JiincN (z := w1_3) (cz := 1) (show mx_Sn _ _ 53 (mx_iinc 3 1 56) from sn_17 53) rfl rfl rfl (fun y12 hy12 hq12 => ?_)
                  show mx_J _ _ _ _ [some (.ref 20), some (xI x0), some (xI x1), some (xI y12), some (xI w1_4), some (xI w7_5), some (xI w7_6)] _ _ _
                  exact c56 y12 (by omega)
              · skip
                refine mx_J.step (sn_17 30) (fun _ _ => rfl) ?_
                refine JgetR (g := 1) (b := 12) hx8 (show mx_Sn _ _ 31 (mx_getf 2 1 34) from sn_17 31) a20 s20 rfl rfl (hG8.prr 20 1 rfl) ?_
                refine mx_J.step (sn_17 34) (fun _ _ => rfl) ?_
                obtain ⟨z14, Z14, h14, hc14, hx14, hG14, hf14, b14⟩ := ct_27_12 (d := d + 0) (l := l) (D := D) (b0 := b0) (ad := ad) (Hb := Hb) (tau := tau) hx8 hG8 (show (-2147483648) ≤ w7_5 ∧ w7_5 ≤ 2147483647 by omega)
                refine Jcv hx8 (show mx_Sn _ _ 36 (mx_callv 27 2 4 39) from sn_17 36) a12 s12 hc14 rfl rfl rfl ?_
                refine mx_J.step (ls2 := [some (.ref 20), some (xI x0), some (xI x1), some (xI w1_3), some (xI w1_4), some (xI z14), some (xI w7_6)]) (sn_17 39) (fun _ _ => rfl) ?_
                refine Jiinc (z := w7_6) (cz := 1) (ls2 := [some (.ref 20), some (xI x0), some (xI x1), some (xI w1_3), some (xI w1_4), some (xI z14), some (xI (w7_6 + 1))]) (show mx_Sn _ _ 41 (mx_iinc 6 1 44) from sn_17 41) rfl rfl rfl rfl ?_
                refine mx_J.step (sn_17 44) (fun _ _ => rfl) ?_
                exact ih7 z14 (w7_6 + 1) Z14 h14 (by omega) (by omega) (by omega) hx14 hG14 (fr_tr (M := [(14, (-1)), (16, (-1)), (17, (-1)), (18, (-1)), (19, (-1))]) (fr_tr (M := [(14, (-1)), (16, (-1)), (17, (-1)), (18, (-1)), (19, (-1))]) fr_rf (hf8) (M1 := []) rfl rfl) (hf14) rfl rfl)
          exact c24 (Int.toNat (9 - 0) + 1) w1_4 0 Z2 h2 (by omega) (by omega) (by omega) hx2 hG2 fr_rf
    exact c5 (Int.toNat (385 - 0) + 1) 0 0 none none Z h (by omega) (by omega) (by omega) hx hG fr_rf
theorem ct_17_20 {l : Launch} {D : va_G} {b0 : Nat} {ad : Nat → Nat} {Hb : Heap} {tau : Nat → Int64} {d n s : Nat} {S : Nat → xS} {Z : xZ} {h : mx_H} (hx : XH n s S Z h) (hG : GI n S Z)  {x0 x1 : Int} (p0 : (-2147483648) ≤ x0 ∧ x0 ≤ 2147483647) (p1 : 0 ≤ x1 ∧ x1 ≤ 9) : ∃ (z : Int) (Z' : xZ) (h' : mx_H), mx_Ca (tB l D b0 ad Hb tau) (d + 6) 17 [.ref 20, xI x0, xI x1] h (some (xI z), h') ∧ XH n s S Z' h' ∧ GI n S Z' ∧ fr' [(14, (-1)), (16, (-1)), (17, (-1)), (18, (-1)), (19, (-1))] Z Z' ∧ ((-2147483648) ≤ z ∧ z ≤ 2147483647) := by
  obtain ⟨r, hca, z, Z', h', e, q⟩ := Jmt (B := tB l D b0 ad Hb tau) (M := mt_17) (mi := 17) (as := [.ref 20, xI x0, xI x1]) (d := d + 5) (ls := [some (.ref 20), some (xI x0), some (xI x1), none, none, none, none]) rfl rfl rfl rfl rfl rfl (cw_17_20 (l := l) (D := D) (b0 := b0) (ad := ad) (Hb := Hb) (tau := tau) (d := d) (Post := fun r => ∃ (z : Int) (Z' : xZ) (h' : mx_H), r = (some (xI z), h') ∧ XH n s S Z' h' ∧ GI n S Z' ∧ fr' [(14, (-1)), (16, (-1)), (17, (-1)), (18, (-1)), (19, (-1))] Z Z' ∧ ((-2147483648) ≤ z ∧ z ≤ 2147483647)) hx hG p0 p1 (fun z Z' h' q1 q2 q3 q4 => ⟨z, Z', h', rfl, q1, q2, q3, q4⟩))
  subst e; exact ⟨z, Z', h', hca, q⟩
set_option maxRecDepth 100000 in
theorem cw_19_20 {l : Launch} {D : va_G} {b0 : Nat} {ad : Nat → Nat} {Hb : Heap} {tau : Nat → Int64} {d n s : Nat} {S : Nat → xS} {Z : xZ} {h : mx_H} {Post : mx_R → Prop} (hx : XH n s S Z h) (hG : GI n S Z)   (hP : ∀ (z : Int) (Z' : xZ) (h' : mx_H), XH n s S Z' h' → GI n S Z' → fr' [(14, (-1)), (16, (-1)), (17, (-1)), (18, (-1)), (19, (-1)), (20, 8), (21, (-1)), (23, (-1))] Z Z' → 0 ≤ z ∧ z ≤ 385 → Post (some (xI z), h')) : mx_J (tB l D b0 ad Hb tau) mt_19 (d + 5) 0 [some (.ref 20), none, none, none] [] h Post := by
    have a7 : 7 < n := lt83 (GI_n hG) rfl
    have s7 : S 7 = .inl (0, [2, 2, 2, 2, 0, 0]) := GI_s hG 7 rfl
    have a12 : 12 < n := lt83 (GI_n hG) rfl
    have s12 : S 12 = .inl (4, [2, 2, 0, 2, 2, 2, 2, 2, 2]) := GI_s hG 12 rfl
    have a20 : 20 < n := lt83 (GI_n hG) rfl
    have s20 : S 20 = .inl (2, [2, 2, 2, 2, 2, 2, 0, 0, 0, 0, 0, 0]) := GI_s hG 20 rfl
    have a21 : 21 < n := lt83 (GI_n hG) rfl
    have s21 : S 21 = .inr (.int, 385, 0) := GI_s hG 21 rfl
    have a23 : 23 < n := lt83 (GI_n hG) rfl
    have s23 : S 23 = .inr (.int, 385, 0) := GI_s hG 23 rfl
    refine mx_J.step (sn_19 0) (fun _ _ => rfl) ?_
    refine JgetR (g := 4) (b := 23) hx (show mx_Sn _ _ 1 (mx_getf 2 4 4) from sn_19 1) a20 s20 rfl rfl (hG.prr 20 4 rfl) ?_
    refine JcI (z := 0) (show mx_Sn _ _ 4 (mx_const (.int 0) 5) from sn_19 4) rfl ?_
    obtain ⟨Z2, h2, hc2, hx2, hG2, hf2⟩ := ct_284_23_i0 (d := d + 4) (l := l) (D := D) (b0 := b0) (ad := ad) (Hb := Hb) (tau := tau) hx hG 
    refine Jcs0 (show mx_Sn _ _ 5 (mx_calls 284 2 8) from sn_19 5) hc2 rfl rfl rfl ?_
    refine JcI (z := 0) (show mx_Sn _ _ 8 (mx_const (.int 0) 9) from sn_19 8) rfl ?_
    refine mx_J.step (ls2 := [some (.ref 20), some (xI 0), none, none]) (sn_19 9) (fun _ _ => rfl) ?_
    have c10 : ∀ (m3 : Nat) (w3_1 : Int) (Z4 : xZ) (h4 : mx_H), 385 - w3_1 < (m3 : Int) → 0 ≤ w3_1 ∧ w3_1 ≤ 385 → XH n s S Z4 h4 → GI n S Z4 → fr' [(14, (-1)), (16, (-1)), (17, (-1)), (18, (-1)), (19, (-1)), (23, (-1))] Z2 Z4 → mx_J (tB l D b0 ad Hb tau) mt_19 (d + 5) 10 [some (.ref 20), some (xI w3_1), none, none] [] h4 Post := by
      intro m3
      induction m3 with
      | zero => intro w3_1 Z4 h4 q3 f3_0 hx4 hG4 hf4; exact absurd q3 (by omega)
      | succ m3 ih3 =>
        intro w3_1 Z4 h4 q3 f3_0 hx4 hG4 hf4
        refine mx_J.step (sn_19 10) (fun _ _ => rfl) ?_
        refine mx_J.step (sn_19 11) (fun _ _ => rfl) ?_
        refine JgetR (g := 0) (b := 7) hx4 (show mx_Sn _ _ 12 (mx_getf 2 0 15) from sn_19 12) a20 s20 rfl rfl (hG4.prr 20 0 rfl) ?_
        have b7 : 0 ≤ Z 7 5 ∧ Z 7 5 ≤ 385 := hG.pr 7 5
        refine JgetI (g := 5) (z := Z 7 5) hx4 (show mx_Sn _ _ 15 (mx_getf 0 5 18) from sn_19 15) a7 s7 rfl rfl ((hf4 7 5 rfl).trans (hf2 7 5 rfl)) ?_
        refine Jicmp_ge (show mx_Sn _ _ 18 (mx_icmp_ge 44 21) from sn_19 18) (by omega) (by omega) (fun q8 => ?_) (fun q8 => ?_)
        · skip
          refine JcI (z := 0) (show mx_Sn _ _ 44 (mx_const (.int 0) 45) from sn_19 44) rfl ?_
          refine mx_J.step (ls2 := [some (.ref 20), some (xI 0), none, none]) (sn_19 45) (fun _ _ => rfl) ?_
          refine JcI (z := 0) (show mx_Sn _ _ 46 (mx_const (.int 0) 47) from sn_19 46) rfl ?_
          refine mx_J.step (ls2 := [some (.ref 20), some (xI 0), some (xI 0), none]) (sn_19 47) (fun _ _ => rfl) ?_
          have c48 : ∀ (m9 : Nat) (w9_1 : Int) (w9_2 : Int) (Z10 : xZ) (h10 : mx_H), 385 - w9_2 < (m9 : Int) → 0 ≤ w9_1 ∧ w9_1 ≤ 385 → 0 ≤ w9_2 ∧ w9_2 ≤ 385 → w9_1 ≤ w9_2 → XH n s S Z10 h10 → GI n S Z10 → fr' [(21, (-1))] Z4 Z10 → mx_J (tB l D b0 ad Hb tau) mt_19 (d + 5) 48 [some (.ref 20), some (xI w9_1), some (xI w9_2), none] [] h10 Post := by
            intro m9
            induction m9 with
            | zero => intro w9_1 w9_2 Z10 h10 q9 f9_0 f9_1 f9_2 hx10 hG10 hf10; exact absurd q9 (by omega)
            | succ m9 ih9 =>
              intro w9_1 w9_2 Z10 h10 q9 f9_0 f9_1 f9_2 hx10 hG10 hf10
              refine mx_J.step (sn_19 48) (fun _ _ => rfl) ?_
              refine mx_J.step (sn_19 49) (fun _ _ => rfl) ?_
              refine JgetR (g := 0) (b := 7) hx10 (show mx_Sn _ _ 50 (mx_getf 2 0 53) from sn_19 50) a20 s20 rfl rfl (hG10.prr 20 0 rfl) ?_
              refine JgetI (g := 5) (z := Z 7 5) hx10 (show mx_Sn _ _ 53 (mx_getf 0 5 56) from sn_19 53) a7 s7 rfl rfl ((hf10 7 5 rfl).trans ((hf4 7 5 rfl).trans (hf2 7 5 rfl))) ?_
              refine Jicmp_ge (show mx_Sn _ _ 56 (mx_icmp_ge 84 59) from sn_19 56) (by omega) (by omega) (fun q13 => ?_) (fun q13 => ?_)
              · skip
                refine mx_J.step (sn_19 84) (fun _ _ => rfl) ?_
                refine mx_J.step (sn_19 85) (fun _ _ => rfl) ?_
                refine JputI (g := 8) hx10 (show mx_Sn _ _ 86 (mx_putf 1 2 8 (.int) 89) from sn_19 86) a20 s20 rfl rfl rfl rfl (fun Z14 h14 hx14 hE14 => ?_)
                have hG14 := GI_up hG10 hE14 (show (-2147483648) ≤ w9_1 ∧ w9_1 ≤ 2147483647 by omega) trivial rfl
                refine JcI (z := 0) (show mx_Sn _ _ 89 (mx_const (.int 0) 90) from sn_19 89) rfl ?_
                refine mx_J.step (ls2 := [some (.ref 20), some (xI w9_1), some (xI 0), none]) (sn_19 90) (fun _ _ => rfl) ?_
                have c91 : ∀ (m15 : Nat) (w15_1 : Int) (w15_2 : Int) (u15_3 : Option Value) (Z16 : xZ) (h16 : mx_H), 385 - w15_2 < (m15 : Int) → 0 ≤ w15_1 ∧ w15_1 ≤ 385 → 0 ≤ w15_2 ∧ w15_2 ≤ 385 → XH n s S Z16 h16 → GI n S Z16 → fr' [(14, (-1)), (16, (-1)), (17, (-1)), (18, (-1)), (19, (-1)), (21, (-1)), (23, (-1))] Z14 Z16 → mx_J (tB l D b0 ad Hb tau) mt_19 (d + 5) 91 [some (.ref 20), some (xI w15_1), some (xI w15_2), u15_3] [] h16 Post := by
                  intro m15
                  induction m15 with
                  | zero => intro w15_1 w15_2 u15_3 Z16 h16 q15 f15_0 f15_1 hx16 hG16 hf16; exact absurd q15 (by omega)
                  | succ m15 ih15 =>
                    intro w15_1 w15_2 u15_3 Z16 h16 q15 f15_0 f15_1 hx16 hG16 hf16
                    refine mx_J.step (sn_19 91) (fun _ _ => rfl) ?_
                    refine mx_J.step (sn_19 92) (fun _ _ => rfl) ?_
                    have c159 : mx_J (tB l D b0 ad Hb tau) mt_19 (d + 5) 159 [some (.ref 20), some (xI w15_1), some (xI w15_2), u15_3] [] h16 Post := by
                      refine mx_J.step (sn_19 159) (fun _ _ => rfl) ?_
                      exact mx_J.ret (sn_19 160) (fun _ _ => rfl) (hP w15_1 Z16 h16 hx16 hG16 (fr_tr (M := [(14, (-1)), (16, (-1)), (17, (-1)), (18, (-1)), (19, (-1)), (20, 8), (21, (-1)), (23, (-1))]) (fr_tr (M := [(14, (-1)), (16, (-1)), (17, (-1)), (18, (-1)), (19, (-1)), (20, 8), (21, (-1)), (23, (-1))]) (fr_tr (M := [(14, (-1)), (16, (-1)), (17, (-1)), (18, (-1)), (19, (-1)), (20, 8), (21, (-1)), (23, (-1))]) (fr_tr (M := [(14, (-1)), (16, (-1)), (17, (-1)), (18, (-1)), (19, (-1)), (20, 8), (21, (-1)), (23, (-1))]) (fr_tr (M := [(14, (-1)), (16, (-1)), (17, (-1)), (18, (-1)), (19, (-1)), (20, 8), (21, (-1)), (23, (-1))]) fr_rf (hf2) (M1 := []) rfl rfl) (hf4) rfl rfl) (hf10) rfl rfl) (fr_up hE14) rfl rfl) (hf16) rfl rfl) (by omega))
                    refine Jicmp_ge (show mx_Sn _ _ 93 (mx_icmp_ge 159 96) from sn_19 93) (by omega) (by omega) (fun q18 => ?_) (fun q18 => ?_)
                    · skip
                      exact c159 
                    · skip
                      refine mx_J.step (sn_19 96) (fun _ _ => rfl) ?_
                      refine JcI (z := 385) (show mx_Sn _ _ 97 (mx_const (.int 385) 100) from sn_19 97) rfl ?_
                      refine Jicmp_ge (show mx_Sn _ _ 100 (mx_icmp_ge 159 103) from sn_19 100) (by omega) (by omega) (fun q19 => ?_) (fun q19 => ?_)
                      · skip
                        exact c159 
                      · skip
                        refine mx_J.step (sn_19 103) (fun _ _ => rfl) ?_
                        refine JgetR (g := 1) (b := 12) hx16 (show mx_Sn _ _ 104 (mx_getf 2 1 107) from sn_19 104) a20 s20 rfl rfl (hG16.prr 20 1 rfl) ?_
                        refine mx_J.step (sn_19 107) (fun _ _ => rfl) ?_
                        refine JgetR (g := 2) (b := 21) hx16 (show mx_Sn _ _ 108 (mx_getf 2 2 111) from sn_19 108) a20 s20 rfl rfl (hG16.prr 20 2 rfl) ?_
                        refine mx_J.step (sn_19 111) (fun _ _ => rfl) ?_
                        have b22 : 0 ≤ Z16 21 w15_2 ∧ Z16 21 w15_2 ≤ 384 := hG16.pr 21 w15_2
                        refine JialdI (z := Z16 21 w15_2) hx16 (show mx_Sn _ _ 112 (mx_iald 113) from sn_19 112) a21 s21 (by omega) rfl ?_
                        obtain ⟨z23, Z23, h23, hc23, hx23, hG23, hf23, b23⟩ := ct_27_12 (d := d + 0) (l := l) (D := D) (b0 := b0) (ad := ad) (Hb := Hb) (tau := tau) hx16 hG16 (show (-2147483648) ≤ Z16 21 w15_2 ∧ Z16 21 w15_2 ≤ 2147483647 by omega)
                        refine Jcv hx16 (show mx_Sn _ _ 113 (mx_callv 27 2 4 116) from sn_19 113) a12 s12 hc23 rfl rfl rfl ?_
                        refine mx_J.step (ls2 := [some (.ref 20), some (xI w15_1), some (xI w15_2), some (xI z23)]) (sn_19 116) (fun _ _ => rfl) ?_
                        refine mx_J.step (sn_19 117) (fun _ _ => rfl) ?_
                        refine JgetR (g := 4) (b := 23) hx23 (show mx_Sn _ _ 118 (mx_getf 2 4 121) from sn_19 118) a20 s20 rfl rfl (hG23.prr 20 4 rfl) ?_
                        refine mx_J.step (sn_19 121) (fun _ _ => rfl) ?_
                        refine mx_J.step (sn_19 122) (fun _ _ => rfl) ?_
                        have b25 : (-2147483648) ≤ Z16 23 z23 ∧ Z16 23 z23 ≤ 2147483647 := hG16.pr 23 z23
                        refine JialdI (z := Z16 23 z23) hx23 (show mx_Sn _ _ 123 (mx_iald 124) from sn_19 123) a23 s23 (by omega) (hf23 23 z23 rfl) ?_
                        refine JcI (z := 1) (show mx_Sn _ _ 124 (mx_const (.int 1) 125) from sn_19 124) rfl ?_
                        refine JisubN (show mx_Sn _ _ 125 (mx_isub 126) from sn_19 125) (fun y26 hy26 hq26 => ?_)
                        refine JiastI hx23 (show mx_Sn _ _ 126 (mx_iast 1 127) from sn_19 126) a23 s23 rfl (by omega) (fun Z27 h27 hx27 hE27 => ?_)
                        have hG27 := GI_up hG23 hE27 (show (-2147483648) ≤ y26 ∧ y26 ≤ 2147483647 by omega) trivial rfl
                        refine mx_J.step (sn_19 127) (fun _ _ => rfl) ?_
                        refine JgetR (g := 4) (b := 23) hx27 (show mx_Sn _ _ 128 (mx_getf 2 4 131) from sn_19 128) a20 s20 rfl rfl (hG27.prr 20 4 rfl) ?_
                        refine mx_J.step (sn_19 131) (fun _ _ => rfl) ?_
                        have b29 : (-2147483648) ≤ Z27 23 z23 ∧ Z27 23 z23 ≤ 2147483647 := hG27.pr 23 z23
                        refine JialdI (z := Z27 23 z23) hx27 (show mx_Sn _ _ 132 (mx_iald 133) from sn_19 132) a23 s23 (by omega) rfl ?_
                        have c153 : ∀ (w30_1 : Int) (Z31 : xZ) (h31 : mx_H), 1 ≤ w30_1 ∧ w30_1 ≤ 385 → XH n s S Z31 h31 → GI n S Z31 → fr' [(21, (-1))] Z27 Z31 → mx_J (tB l D b0 ad Hb tau) mt_19 (d + 5) 153 [some (.ref 20), some (xI w30_1), some (xI w15_2), some (xI z23)] [] h31 Post := by
                          intro w30_1 Z31 h31 f30_0 hx31 hG31 hf31
                          refine Jiinc (z := w15_2) (cz := 1) (ls2 := [some (.ref 20), some (xI w30_1), some (xI (w15_2 + 1)), some (xI z23)]) (show mx_Sn _ _ 153 (mx_iinc 2 1 156) from sn_19 153) rfl rfl rfl rfl ?_
                          refine mx_J.step (sn_19 156) (fun _ _ => rfl) ?_
                          exact ih15 w30_1 (w15_2 + 1) (some (xI z23)) Z31 h31 (by omega) (by omega) (by omega) hx31 hG31 (fr_tr (M := [(14, (-1)), (16, (-1)), (17, (-1)), (18, (-1)), (19, (-1)), (21, (-1)), (23, (-1))]) (fr_tr (M := [(14, (-1)), (16, (-1)), (17, (-1)), (18, (-1)), (19, (-1)), (21, (-1)), (23, (-1))]) (fr_tr (M := [(14, (-1)), (16, (-1)), (17, (-1)), (18, (-1)), (19, (-1)), (21, (-1)), (23, (-1))]) (fr_tr (M := [(14, (-1)), (16, (-1)), (17, (-1)), (18, (-1)), (19, (-1)), (21, (-1)), (23, (-1))]) fr_rf (hf16) (M1 := []) rfl rfl) (hf23) rfl rfl) (fr_ua hE27) rfl rfl) (hf31) rfl rfl)
                        refine Jif_ne (show mx_Sn _ _ 133 (mx_if_ne 153 136) from sn_19 133) (by omega) (fun q32 => ?_) (fun q32 => ?_)
                        · skip
                          exact c153 w15_1 Z27 h27 (by omega) hx27 hG27 fr_rf
                        · skip
                          refine mx_J.step (sn_19 136) (fun _ _ => rfl) ?_
                          refine JcI (z := 385) (show mx_Sn _ _ 137 (mx_const (.int 385) 140) from sn_19 137) rfl ?_
                          refine Jicmp_ge (show mx_Sn _ _ 140 (mx_icmp_ge 153 143) from sn_19 140) (by omega) (by omega) (fun q33 => ?_) (fun q33 => ?_)
                          · skip
                            exact c153 w15_1 Z27 h27 (by omega) hx27 hG27 fr_rf
                          · skip
                            refine mx_J.step (sn_19 143) (fun _ _ => rfl) ?_
                            refine JgetR (g := 2) (b := 21) hx27 (show mx_Sn _ _ 144 (mx_getf 2 2 147) from sn_19 144) a20 s20 rfl rfl (hG27.prr 20 2 rfl) ?_
                            refine mx_J.step (sn_19 147) (fun _ _ => rfl) ?_
                            refine mx_J.step (sn_19 148) (fun _ _ => rfl) ?_
                            refine JiastI hx27 (show mx_Sn _ _ 149 (mx_iast 1 150) from sn_19 149) a21 s21 rfl (by omega) (fun Z35 h35 hx35 hE35 => ?_)
                            have hG35 := GI_up hG27 hE35 (show 0 ≤ z23 ∧ z23 ≤ 384 by omega) trivial rfl
                            refine Jiinc (z := w15_1) (cz := 1) (ls2 := [some (.ref 20), some (xI (w15_1 + 1)), some (xI w15_2), some (xI z23)]) (show mx_Sn _ _ 150 (mx_iinc 1 1 153) from sn_19 150) rfl rfl rfl rfl ?_
                            exact c153 (w15_1 + 1) Z35 h35 (by omega) hx35 hG35 (fr_tr (M := [(21, (-1))]) fr_rf (fr_ua hE35) (M1 := []) rfl rfl)
                exact c91 (Int.toNat (385 - 0) + 1) w9_1 0 none Z14 h14 (by omega) (by omega) (by omega) hx14 hG14 fr_rf
              · skip
                refine mx_J.step (sn_19 59) (fun _ _ => rfl) ?_
                refine JgetR (g := 4) (b := 23) hx10 (show mx_Sn _ _ 60 (mx_getf 2 4 63) from sn_19 60) a20 s20 rfl rfl (hG10.prr 20 4 rfl) ?_
                refine mx_J.step (sn_19 63) (fun _ _ => rfl) ?_
                have b37 : (-2147483648) ≤ Z4 23 w9_2 ∧ Z4 23 w9_2 ≤ 2147483647 := hG4.pr 23 w9_2
                refine JialdI (z := Z4 23 w9_2) hx10 (show mx_Sn _ _ 64 (mx_iald 65) from sn_19 64) a23 s23 (by omega) (hf10 23 w9_2 rfl) ?_
                have c78 : ∀ (w38_1 : Int) (Z39 : xZ) (h39 : mx_H), 0 ≤ w38_1 ∧ w38_1 ≤ 385 → w38_1 ≤ w9_2 + 1 → XH n s S Z39 h39 → GI n S Z39 → fr' [(21, (-1))] Z10 Z39 → mx_J (tB l D b0 ad Hb tau) mt_19 (d + 5) 78 [some (.ref 20), some (xI w38_1), some (xI w9_2), none] [] h39 Post := by
                  intro w38_1 Z39 h39 f38_0 f38_1 hx39 hG39 hf39
                  refine Jiinc (z := w9_2) (cz := 1) (ls2 := [some (.ref 20), some (xI w38_1), some (xI (w9_2 + 1)), none]) (show mx_Sn _ _ 78 (mx_iinc 2 1 81) from sn_19 78) rfl rfl rfl rfl ?_
                  refine mx_J.step (sn_19 81) (fun _ _ => rfl) ?_
                  exact ih9 w38_1 (w9_2 + 1) Z39 h39 (by omega) (by omega) (by omega) (by omega) hx39 hG39 (fr_tr (M := [(21, (-1))]) (fr_tr (M := [(21, (-1))]) fr_rf (hf10) (M1 := []) rfl rfl) (hf39) rfl rfl)
                refine Jif_ne (show mx_Sn _ _ 65 (mx_if_ne 78 68) from sn_19 65) (by omega) (fun q40 => ?_) (fun q40 => ?_)
                · skip
                  exact c78 w9_1 Z10 h10 (by omega) (by omega) hx10 hG10 fr_rf
                · skip
                  refine mx_J.step (sn_19 68) (fun _ _ => rfl) ?_
                  refine JgetR (g := 2) (b := 21) hx10 (show mx_Sn _ _ 69 (mx_getf 2 2 72) from sn_19 69) a20 s20 rfl rfl (hG10.prr 20 2 rfl) ?_
                  refine mx_J.step (sn_19 72) (fun _ _ => rfl) ?_
                  refine mx_J.step (sn_19 73) (fun _ _ => rfl) ?_
                  refine JiastI hx10 (show mx_Sn _ _ 74 (mx_iast 1 75) from sn_19 74) a21 s21 rfl (by omega) (fun Z42 h42 hx42 hE42 => ?_)
                  have hG42 := GI_up hG10 hE42 (show 0 ≤ w9_2 ∧ w9_2 ≤ 384 by omega) trivial rfl
                  refine Jiinc (z := w9_1) (cz := 1) (ls2 := [some (.ref 20), some (xI (w9_1 + 1)), some (xI w9_2), none]) (show mx_Sn _ _ 75 (mx_iinc 1 1 78) from sn_19 75) rfl rfl rfl rfl ?_
                  exact c78 (w9_1 + 1) Z42 h42 (by omega) (by omega) hx42 hG42 (fr_tr (M := [(21, (-1))]) fr_rf (fr_ua hE42) (M1 := []) rfl rfl)
          exact c48 (Int.toNat (385 - 0) + 1) 0 0 Z4 h4 (by omega) (by omega) (by omega) (by omega) hx4 hG4 fr_rf
        · skip
          refine mx_J.step (sn_19 21) (fun _ _ => rfl) ?_
          refine JgetR (g := 4) (b := 23) hx4 (show mx_Sn _ _ 22 (mx_getf 2 4 25) from sn_19 22) a20 s20 rfl rfl (hG4.prr 20 4 rfl) ?_
          refine mx_J.step (sn_19 25) (fun _ _ => rfl) ?_
          refine JgetR (g := 1) (b := 12) hx4 (show mx_Sn _ _ 26 (mx_getf 2 1 29) from sn_19 26) a20 s20 rfl rfl (hG4.prr 20 1 rfl) ?_
          refine mx_J.step (sn_19 29) (fun _ _ => rfl) ?_
          obtain ⟨z45, Z45, h45, hc45, hx45, hG45, hf45, b45⟩ := ct_27_12 (d := d + 0) (l := l) (D := D) (b0 := b0) (ad := ad) (Hb := Hb) (tau := tau) hx4 hG4 (show (-2147483648) ≤ w3_1 ∧ w3_1 ≤ 2147483647 by omega)
          refine Jcv hx4 (show mx_Sn _ _ 30 (mx_callv 27 2 4 33) from sn_19 30) a12 s12 hc45 rfl rfl rfl ?_
          refine mx_J.step (sn_19 33) (fun _ _ => rfl) ?_
          have b46 : (-2147483648) ≤ Z4 23 z45 ∧ Z4 23 z45 ≤ 2147483647 := hG4.pr 23 z45
          refine JialdI (z := Z4 23 z45) hx45 (show mx_Sn _ _ 34 (mx_iald 35) from sn_19 34) a23 s23 (by omega) (hf45 23 z45 rfl) ?_
          refine JcI (z := 1) (show mx_Sn _ _ 35 (mx_const (.int 1) 36) from sn_19 35) rfl ?_
          refine JiaddN (show mx_Sn _ _ 36 (mx_iadd 37) from sn_19 36) (fun y47 hy47 hq47 => ?_)
          refine JiastI hx45 (show mx_Sn _ _ 37 (mx_iast 1 38) from sn_19 37) a23 s23 rfl (by omega) (fun Z48 h48 hx48 hE48 => ?_)
          have hG48 := GI_up hG45 hE48 (show (-2147483648) ≤ y47 ∧ y47 ≤ 2147483647 by omega) trivial rfl
          refine Jiinc (z := w3_1) (cz := 1) (ls2 := [some (.ref 20), some (xI (w3_1 + 1)), none, none]) (show mx_Sn _ _ 38 (mx_iinc 1 1 41) from sn_19 38) rfl rfl rfl rfl ?_
          refine mx_J.step (sn_19 41) (fun _ _ => rfl) ?_
          exact ih3 (w3_1 + 1) Z48 h48 (by omega) (by omega) hx48 hG48 (fr_tr (M := [(14, (-1)), (16, (-1)), (17, (-1)), (18, (-1)), (19, (-1)), (23, (-1))]) (fr_tr (M := [(14, (-1)), (16, (-1)), (17, (-1)), (18, (-1)), (19, (-1)), (23, (-1))]) (fr_tr (M := [(14, (-1)), (16, (-1)), (17, (-1)), (18, (-1)), (19, (-1)), (23, (-1))]) fr_rf (hf4) (M1 := []) rfl rfl) (hf45) rfl rfl) (fr_ua hE48) rfl rfl)
    exact c10 (Int.toNat (385 - 0) + 1) 0 Z2 h2 (by omega) (by omega) hx2 hG2 fr_rf
theorem ct_19_20 {l : Launch} {D : va_G} {b0 : Nat} {ad : Nat → Nat} {Hb : Heap} {tau : Nat → Int64} {d n s : Nat} {S : Nat → xS} {Z : xZ} {h : mx_H} (hx : XH n s S Z h) (hG : GI n S Z)   : ∃ (z : Int) (Z' : xZ) (h' : mx_H), mx_Ca (tB l D b0 ad Hb tau) (d + 6) 19 [.ref 20] h (some (xI z), h') ∧ XH n s S Z' h' ∧ GI n S Z' ∧ fr' [(14, (-1)), (16, (-1)), (17, (-1)), (18, (-1)), (19, (-1)), (20, 8), (21, (-1)), (23, (-1))] Z Z' ∧ (0 ≤ z ∧ z ≤ 385) := by
  obtain ⟨r, hca, z, Z', h', e, q⟩ := Jmt (B := tB l D b0 ad Hb tau) (M := mt_19) (mi := 19) (as := [.ref 20]) (d := d + 5) (ls := [some (.ref 20), none, none, none]) rfl rfl rfl rfl rfl rfl (cw_19_20 (l := l) (D := D) (b0 := b0) (ad := ad) (Hb := Hb) (tau := tau) (d := d) (Post := fun r => ∃ (z : Int) (Z' : xZ) (h' : mx_H), r = (some (xI z), h') ∧ XH n s S Z' h' ∧ GI n S Z' ∧ fr' [(14, (-1)), (16, (-1)), (17, (-1)), (18, (-1)), (19, (-1)), (20, 8), (21, (-1)), (23, (-1))] Z Z' ∧ (0 ≤ z ∧ z ≤ 385)) hx hG  (fun z Z' h' q1 q2 q3 q4 => ⟨z, Z', h', rfl, q1, q2, q3, q4⟩))
  subst e; exact ⟨z, Z', h', hca, q⟩
set_option maxRecDepth 100000 in
theorem cw_20_20 {l : Launch} {D : va_G} {b0 : Nat} {ad : Nat → Nat} {Hb : Heap} {tau : Nat → Int64} {d n s : Nat} {S : Nat → xS} {Z : xZ} {h : mx_H} {Post : mx_R → Prop} (hx : XH n s S Z h) (hG : GI n S Z)   (hP : ∀ (Z' : xZ) (h' : mx_H), XH n s S Z' h' → GI n S Z' → fr' [(14, (-1)), (16, (-1)), (17, (-1)), (18, (-1)), (19, (-1)), (20, 10), (22, (-1)), (24, (-1))] Z Z' → Post (none, h')) : mx_J (tB l D b0 ad Hb tau) mt_20 (d + 5) 0 [some (.ref 20), none, none, none] [] h Post := by
    have a7 : 7 < n := lt83 (GI_n hG) rfl
    have s7 : S 7 = .inl (0, [2, 2, 2, 2, 0, 0]) := GI_s hG 7 rfl
    have a12 : 12 < n := lt83 (GI_n hG) rfl
    have s12 : S 12 = .inl (4, [2, 2, 0, 2, 2, 2, 2, 2, 2]) := GI_s hG 12 rfl
    have a20 : 20 < n := lt83 (GI_n hG) rfl
    have s20 : S 20 = .inl (2, [2, 2, 2, 2, 2, 2, 0, 0, 0, 0, 0, 0]) := GI_s hG 20 rfl
    have a22 : 22 < n := lt83 (GI_n hG) rfl
    have s22 : S 22 = .inr (.int, 385, 0) := GI_s hG 22 rfl
    have a23 : 23 < n := lt83 (GI_n hG) rfl
    have s23 : S 23 = .inr (.int, 385, 0) := GI_s hG 23 rfl
    have a24 : 24 < n := lt83 (GI_n hG) rfl
    have s24 : S 24 = .inr (.int, 385, 0) := GI_s hG 24 rfl
    refine mx_J.step (sn_20 0) (fun _ _ => rfl) ?_
    refine JgetR (g := 5) (b := 24) hx (show mx_Sn _ _ 1 (mx_getf 2 5 4) from sn_20 1) a20 s20 rfl rfl (hG.prr 20 5 rfl) ?_
    refine JcI (z := 0) (show mx_Sn _ _ 4 (mx_const (.int 0) 5) from sn_20 4) rfl ?_
    obtain ⟨Z2, h2, hc2, hx2, hG2, hf2⟩ := ct_284_24_i0 (d := d + 4) (l := l) (D := D) (b0 := b0) (ad := ad) (Hb := Hb) (tau := tau) hx hG 
    refine Jcs0 (show mx_Sn _ _ 5 (mx_calls 284 2 8) from sn_20 5) hc2 rfl rfl rfl ?_
    refine mx_J.step (sn_20 8) (fun _ _ => rfl) ?_
    refine JcI (z := 0) (show mx_Sn _ _ 9 (mx_const (.int 0) 10) from sn_20 9) rfl ?_
    refine JputI (g := 10) hx2 (show mx_Sn _ _ 10 (mx_putf 1 2 10 (.int) 13) from sn_20 10) a20 s20 rfl rfl rfl rfl (fun Z3 h3 hx3 hE3 => ?_)
    have hG3 := GI_up hG2 hE3 (show (-2147483648) ≤ 0 ∧ 0 ≤ 2147483647 by omega) trivial rfl
    refine JcI (z := 0) (show mx_Sn _ _ 13 (mx_const (.int 0) 14) from sn_20 13) rfl ?_
    refine mx_J.step (ls2 := [some (.ref 20), some (xI 0), none, none]) (sn_20 14) (fun _ _ => rfl) ?_
    have c15 : ∀ (m4 : Nat) (w4_1 : Int) (u4_2 : Option Value) (u4_3 : Option Value) (Z5 : xZ) (h5 : mx_H), 385 - w4_1 < (m4 : Int) → 0 ≤ w4_1 ∧ w4_1 ≤ 385 → XH n s S Z5 h5 → GI n S Z5 → fr' [(14, (-1)), (16, (-1)), (17, (-1)), (18, (-1)), (19, (-1)), (20, 10), (22, (-1)), (24, (-1))] Z3 Z5 → mx_J (tB l D b0 ad Hb tau) mt_20 (d + 5) 15 [some (.ref 20), some (xI w4_1), u4_2, u4_3] [] h5 Post := by
      intro m4
      induction m4 with
      | zero => intro w4_1 u4_2 u4_3 Z5 h5 q4 f4_0 hx5 hG5 hf5; exact absurd q4 (by omega)
      | succ m4 ih4 =>
        intro w4_1 u4_2 u4_3 Z5 h5 q4 f4_0 hx5 hG5 hf5
        refine mx_J.step (sn_20 15) (fun _ _ => rfl) ?_
        refine mx_J.step (sn_20 16) (fun _ _ => rfl) ?_
        refine JgetR (g := 0) (b := 7) hx5 (show mx_Sn _ _ 17 (mx_getf 2 0 20) from sn_20 17) a20 s20 rfl rfl (hG5.prr 20 0 rfl) ?_
        have b8 : 0 ≤ Z 7 5 ∧ Z 7 5 ≤ 385 := hG.pr 7 5
        refine JgetI (g := 5) (z := Z 7 5) hx5 (show mx_Sn _ _ 20 (mx_getf 0 5 23) from sn_20 20) a7 s7 rfl rfl ((hf5 7 5 rfl).trans ((up_nk hE3 rfl).trans (hf2 7 5 rfl))) ?_
        refine Jicmp_ge (show mx_Sn _ _ 23 (mx_icmp_ge 116 26) from sn_20 23) (by omega) (by omega) (fun q9 => ?_) (fun q9 => ?_)
        · skip
          exact mx_J.ret (sn_20 116) (fun _ _ => rfl) (hP Z5 h5 hx5 hG5 (fr_tr (M := [(14, (-1)), (16, (-1)), (17, (-1)), (18, (-1)), (19, (-1)), (20, 10), (22, (-1)), (24, (-1))]) (fr_tr (M := [(14, (-1)), (16, (-1)), (17, (-1)), (18, (-1)), (19, (-1)), (20, 10), (22, (-1)), (24, (-1))]) (fr_tr (M := [(14, (-1)), (16, (-1)), (17, (-1)), (18, (-1)), (19, (-1)), (20, 10), (22, (-1)), (24, (-1))]) fr_rf (hf2) (M1 := []) rfl rfl) (fr_up hE3) rfl rfl) (hf5) rfl rfl))
        · skip
          refine mx_J.step (sn_20 26) (fun _ _ => rfl) ?_
          refine JgetR (g := 4) (b := 23) hx5 (show mx_Sn _ _ 27 (mx_getf 2 4 30) from sn_20 27) a20 s20 rfl rfl (hG5.prr 20 4 rfl) ?_
          refine mx_J.step (sn_20 30) (fun _ _ => rfl) ?_
          have b11 : (-2147483648) ≤ Z 23 w4_1 ∧ Z 23 w4_1 ≤ 2147483647 := hG.pr 23 w4_1
          refine JialdI (z := Z 23 w4_1) hx5 (show mx_Sn _ _ 31 (mx_iald 32) from sn_20 31) a23 s23 (by omega) ((hf5 23 w4_1 rfl).trans ((up_nk hE3 rfl).trans (hf2 23 w4_1 rfl))) ?_
          have c110 : ∀ (u12_2 : Option Value) (u12_3 : Option Value) (Z13 : xZ) (h13 : mx_H), XH n s S Z13 h13 → GI n S Z13 → fr' [(14, (-1)), (16, (-1)), (17, (-1)), (18, (-1)), (19, (-1)), (20, 10), (22, (-1)), (24, (-1))] Z5 Z13 → mx_J (tB l D b0 ad Hb tau) mt_20 (d + 5) 110 [some (.ref 20), some (xI w4_1), u12_2, u12_3] [] h13 Post := by
            intro u12_2 u12_3 Z13 h13 hx13 hG13 hf13
            refine Jiinc (z := w4_1) (cz := 1) (ls2 := [some (.ref 20), some (xI (w4_1 + 1)), u12_2, u12_3]) (show mx_Sn _ _ 110 (mx_iinc 1 1 113) from sn_20 110) rfl rfl rfl rfl ?_
            refine mx_J.step (sn_20 113) (fun _ _ => rfl) ?_
            exact ih4 (w4_1 + 1) u12_2 u12_3 Z13 h13 (by omega) (by omega) hx13 hG13 (fr_tr (M := [(14, (-1)), (16, (-1)), (17, (-1)), (18, (-1)), (19, (-1)), (20, 10), (22, (-1)), (24, (-1))]) (fr_tr (M := [(14, (-1)), (16, (-1)), (17, (-1)), (18, (-1)), (19, (-1)), (20, 10), (22, (-1)), (24, (-1))]) fr_rf (hf5) (M1 := []) rfl rfl) (hf13) rfl rfl)
          refine Jif_le (show mx_Sn _ _ 32 (mx_if_le 110 35) from sn_20 32) (by omega) (fun q14 => ?_) (fun q14 => ?_)
          · skip
            exact c110 u4_2 u4_3 Z5 h5 hx5 hG5 fr_rf
          · skip
            refine mx_J.step (sn_20 35) (fun _ _ => rfl) ?_
            refine JgetR (g := 5) (b := 24) hx5 (show mx_Sn _ _ 36 (mx_getf 2 5 39) from sn_20 36) a20 s20 rfl rfl (hG5.prr 20 5 rfl) ?_
            refine mx_J.step (sn_20 39) (fun _ _ => rfl) ?_
            have b16 : (-2147483648) ≤ Z5 24 w4_1 ∧ Z5 24 w4_1 ≤ 2147483647 := hG5.pr 24 w4_1
            refine JialdI (z := Z5 24 w4_1) hx5 (show mx_Sn _ _ 40 (mx_iald 41) from sn_20 40) a24 s24 (by omega) rfl ?_
            refine Jif_ne (show mx_Sn _ _ 41 (mx_if_ne 110 44) from sn_20 41) (by omega) (fun q17 => ?_) (fun q17 => ?_)
            · skip
              exact c110 u4_2 u4_3 Z5 h5 hx5 hG5 fr_rf
            · skip
              refine mx_J.step (sn_20 44) (fun _ _ => rfl) ?_
              refine mx_J.step (sn_20 45) (fun _ _ => rfl) ?_
              have b19 : (-2147483648) ≤ Z5 20 10 ∧ Z5 20 10 ≤ 2147483647 := hG5.pr 20 10
              refine JgetI (g := 10) (z := Z5 20 10) hx5 (show mx_Sn _ _ 46 (mx_getf 2 10 49) from sn_20 46) a20 s20 rfl rfl rfl ?_
              refine JcI (z := 1) (show mx_Sn _ _ 49 (mx_const (.int 1) 50) from sn_20 49) rfl ?_
              refine JiaddN (show mx_Sn _ _ 50 (mx_iadd 51) from sn_20 50) (fun y20 hy20 hq20 => ?_)
              refine JputI (g := 10) hx5 (show mx_Sn _ _ 51 (mx_putf 1 2 10 (.int) 54) from sn_20 51) a20 s20 rfl rfl rfl rfl (fun Z21 h21 hx21 hE21 => ?_)
              have hG21 := GI_up hG5 hE21 (show (-2147483648) ≤ y20 ∧ y20 ≤ 2147483647 by omega) trivial rfl
              refine mx_J.step (sn_20 54) (fun _ _ => rfl) ?_
              refine mx_J.step (ls2 := [some (.ref 20), some (xI w4_1), some (xI w4_1), u4_3]) (sn_20 55) (fun _ _ => rfl) ?_
              refine JcI (z := 0) (show mx_Sn _ _ 56 (mx_const (.int 0) 57) from sn_20 56) rfl ?_
              refine mx_J.step (ls2 := [some (.ref 20), some (xI w4_1), some (xI w4_1), some (xI 0)]) (sn_20 57) (fun _ _ => rfl) ?_
              have c58 : ∀ (m22 : Nat) (w22_2 : Int) (w22_3 : Int) (Z23 : xZ) (h23 : mx_H), 385 - w22_3 < (m22 : Int) → 0 ≤ w22_2 ∧ w22_2 ≤ 384 → 0 ≤ w22_3 ∧ w22_3 ≤ 385 → XH n s S Z23 h23 → GI n S Z23 → fr' [(14, (-1)), (16, (-1)), (17, (-1)), (18, (-1)), (19, (-1)), (22, (-1)), (24, (-1))] Z21 Z23 → mx_J (tB l D b0 ad Hb tau) mt_20 (d + 5) 58 [some (.ref 20), some (xI w4_1), some (xI w22_2), some (xI w22_3)] [] h23 Post := by
                intro m22
                induction m22 with
                | zero => intro w22_2 w22_3 Z23 h23 q22 f22_0 f22_1 hx23 hG23 hf23; exact absurd q22 (by omega)
                | succ m22 ih22 =>
                  intro w22_2 w22_3 Z23 h23 q22 f22_0 f22_1 hx23 hG23 hf23
                  refine mx_J.step (sn_20 58) (fun _ _ => rfl) ?_
                  refine mx_J.step (sn_20 59) (fun _ _ => rfl) ?_
                  refine JgetR (g := 0) (b := 7) hx23 (show mx_Sn _ _ 60 (mx_getf 2 0 63) from sn_20 60) a20 s20 rfl rfl (hG23.prr 20 0 rfl) ?_
                  refine JgetI (g := 5) (z := Z 7 5) hx23 (show mx_Sn _ _ 63 (mx_getf 0 5 66) from sn_20 63) a7 s7 rfl rfl ((hf23 7 5 rfl).trans ((up_nk hE21 rfl).trans ((hf5 7 5 rfl).trans ((up_nk hE3 rfl).trans (hf2 7 5 rfl))))) ?_
                  refine Jicmp_ge (show mx_Sn _ _ 66 (mx_icmp_ge 110 69) from sn_20 66) (by omega) (by omega) (fun q26 => ?_) (fun q26 => ?_)
                  · skip
                    exact c110 (some (xI w22_2)) (some (xI w22_3)) Z23 h23 hx23 hG23 (fr_tr (M := [(14, (-1)), (16, (-1)), (17, (-1)), (18, (-1)), (19, (-1)), (20, 10), (22, (-1)), (24, (-1))]) (fr_tr (M := [(14, (-1)), (16, (-1)), (17, (-1)), (18, (-1)), (19, (-1)), (20, 10), (22, (-1)), (24, (-1))]) fr_rf (fr_up hE21) (M1 := []) rfl rfl) (hf23) rfl rfl)
                  · skip
                    refine mx_J.step (sn_20 69) (fun _ _ => rfl) ?_
                    refine JgetR (g := 5) (b := 24) hx23 (show mx_Sn _ _ 70 (mx_getf 2 5 73) from sn_20 70) a20 s20 rfl rfl (hG23.prr 20 5 rfl) ?_
                    refine mx_J.step (sn_20 73) (fun _ _ => rfl) ?_
                    have b28 : (-2147483648) ≤ Z23 24 w22_2 ∧ Z23 24 w22_2 ≤ 2147483647 := hG23.pr 24 w22_2
                    refine JialdI (z := Z23 24 w22_2) hx23 (show mx_Sn _ _ 74 (mx_iald 75) from sn_20 74) a24 s24 (by omega) rfl ?_
                    refine Jif_ne (show mx_Sn _ _ 75 (mx_if_ne 110 78) from sn_20 75) (by omega) (fun q29 => ?_) (fun q29 => ?_)
                    · skip
                      exact c110 (some (xI w22_2)) (some (xI w22_3)) Z23 h23 hx23 hG23 (fr_tr (M := [(14, (-1)), (16, (-1)), (17, (-1)), (18, (-1)), (19, (-1)), (20, 10), (22, (-1)), (24, (-1))]) (fr_tr (M := [(14, (-1)), (16, (-1)), (17, (-1)), (18, (-1)), (19, (-1)), (20, 10), (22, (-1)), (24, (-1))]) fr_rf (fr_up hE21) (M1 := []) rfl rfl) (hf23) rfl rfl)
                    · skip
                      refine mx_J.step (sn_20 78) (fun _ _ => rfl) ?_
                      refine JgetR (g := 5) (b := 24) hx23 (show mx_Sn _ _ 79 (mx_getf 2 5 82) from sn_20 79) a20 s20 rfl rfl (hG23.prr 20 5 rfl) ?_
                      refine mx_J.step (sn_20 82) (fun _ _ => rfl) ?_
                      refine mx_J.step (sn_20 83) (fun _ _ => rfl) ?_
                      refine JgetI (g := 10) (z := y20) hx23 (show mx_Sn _ _ 84 (mx_getf 2 10 87) from sn_20 84) a20 s20 rfl rfl ((hf23 20 10 rfl).trans (up_at hE21)) ?_
                      refine JiastI hx23 (show mx_Sn _ _ 87 (mx_iast 1 88) from sn_20 87) a24 s24 rfl (by omega) (fun Z32 h32 hx32 hE32 => ?_)
                      have hG32 := GI_up hG23 hE32 (show (-2147483648) ≤ y20 ∧ y20 ≤ 2147483647 by omega) trivial rfl
                      refine mx_J.step (sn_20 88) (fun _ _ => rfl) ?_
                      refine JgetR (g := 3) (b := 22) hx32 (show mx_Sn _ _ 89 (mx_getf 2 3 92) from sn_20 89) a20 s20 rfl rfl (hG32.prr 20 3 rfl) ?_
                      refine mx_J.step (sn_20 92) (fun _ _ => rfl) ?_
                      refine JcI (z := 0) (show mx_Sn _ _ 93 (mx_const (.int 0) 94) from sn_20 93) rfl ?_
                      refine JiastI hx32 (show mx_Sn _ _ 94 (mx_iast 1 95) from sn_20 94) a22 s22 rfl (by omega) (fun Z34 h34 hx34 hE34 => ?_)
                      have hG34 := GI_up hG32 hE34 (show (-2147483648) ≤ 0 ∧ 0 ≤ 2147483647 by omega) trivial rfl
                      refine mx_J.step (sn_20 95) (fun _ _ => rfl) ?_
                      refine JgetR (g := 1) (b := 12) hx34 (show mx_Sn _ _ 96 (mx_getf 2 1 99) from sn_20 96) a20 s20 rfl rfl (hG34.prr 20 1 rfl) ?_
                      refine mx_J.step (sn_20 99) (fun _ _ => rfl) ?_
                      obtain ⟨z36, Z36, h36, hc36, hx36, hG36, hf36, b36⟩ := ct_27_12 (d := d + 0) (l := l) (D := D) (b0 := b0) (ad := ad) (Hb := Hb) (tau := tau) hx34 hG34 (show (-2147483648) ≤ w22_2 ∧ w22_2 ≤ 2147483647 by omega)
                      refine Jcv hx34 (show mx_Sn _ _ 100 (mx_callv 27 2 4 103) from sn_20 100) a12 s12 hc36 rfl rfl rfl ?_
                      refine mx_J.step (ls2 := [some (.ref 20), some (xI w4_1), some (xI z36), some (xI w22_3)]) (sn_20 103) (fun _ _ => rfl) ?_
                      refine Jiinc (z := w22_3) (cz := 1) (ls2 := [some (.ref 20), some (xI w4_1), some (xI z36), some (xI (w22_3 + 1))]) (show mx_Sn _ _ 104 (mx_iinc 3 1 107) from sn_20 104) rfl rfl rfl rfl ?_
                      refine mx_J.step (sn_20 107) (fun _ _ => rfl) ?_
                      exact ih22 z36 (w22_3 + 1) Z36 h36 (by omega) (by omega) (by omega) hx36 hG36 (fr_tr (M := [(14, (-1)), (16, (-1)), (17, (-1)), (18, (-1)), (19, (-1)), (22, (-1)), (24, (-1))]) (fr_tr (M := [(14, (-1)), (16, (-1)), (17, (-1)), (18, (-1)), (19, (-1)), (22, (-1)), (24, (-1))]) (fr_tr (M := [(14, (-1)), (16, (-1)), (17, (-1)), (18, (-1)), (19, (-1)), (22, (-1)), (24, (-1))]) (fr_tr (M := [(14, (-1)), (16, (-1)), (17, (-1)), (18, (-1)), (19, (-1)), (22, (-1)), (24, (-1))]) fr_rf (hf23) (M1 := []) rfl rfl) (fr_ua hE32) rfl rfl) (fr_ua hE34) rfl rfl) (hf36) rfl rfl)
              exact c58 (Int.toNat (385 - 0) + 1) w4_1 0 Z21 h21 (by omega) (by omega) (by omega) hx21 hG21 fr_rf
    exact c15 (Int.toNat (385 - 0) + 1) 0 none none Z3 h3 (by omega) (by omega) hx3 hG3 fr_rf
theorem ct_20_20 {l : Launch} {D : va_G} {b0 : Nat} {ad : Nat → Nat} {Hb : Heap} {tau : Nat → Int64} {d n s : Nat} {S : Nat → xS} {Z : xZ} {h : mx_H} (hx : XH n s S Z h) (hG : GI n S Z)   : ∃ (Z' : xZ) (h' : mx_H), mx_Ca (tB l D b0 ad Hb tau) (d + 6) 20 [.ref 20] h (none, h') ∧ XH n s S Z' h' ∧ GI n S Z' ∧ fr' [(14, (-1)), (16, (-1)), (17, (-1)), (18, (-1)), (19, (-1)), (20, 10), (22, (-1)), (24, (-1))] Z Z' := by
  obtain ⟨r, hca, Z', h', e, q⟩ := Jmt (B := tB l D b0 ad Hb tau) (M := mt_20) (mi := 20) (as := [.ref 20]) (d := d + 5) (ls := [some (.ref 20), none, none, none]) rfl rfl rfl rfl rfl rfl (cw_20_20 (l := l) (D := D) (b0 := b0) (ad := ad) (Hb := Hb) (tau := tau) (d := d) (Post := fun r => ∃ (Z' : xZ) (h' : mx_H), r = (none, h') ∧ XH n s S Z' h' ∧ GI n S Z' ∧ fr' [(14, (-1)), (16, (-1)), (17, (-1)), (18, (-1)), (19, (-1)), (20, 10), (22, (-1)), (24, (-1))] Z Z') hx hG  (fun Z' h' q1 q2 q3 => ⟨Z', h', rfl, q1, q2, q3⟩))
  subst e; exact ⟨Z', h', hca, q⟩
set_option maxRecDepth 100000 in
theorem cw_18_20 {l : Launch} {D : va_G} {b0 : Nat} {ad : Nat → Nat} {Hb : Heap} {tau : Nat → Int64} {d n s : Nat} {S : Nat → xS} {Z : xZ} {h : mx_H} {Post : mx_R → Prop} (hx : XH n s S Z h) (hG : GI n S Z)   (hP : ∀ (Z' : xZ) (h' : mx_H), XH n s S Z' h' → GI n S Z' → fr' [(14, (-1)), (16, (-1)), (17, (-1)), (18, (-1)), (19, (-1)), (20, 8), (20, 9), (20, 10), (20, 11), (21, (-1)), (22, (-1)), (23, (-1)), (24, (-1))] Z Z' → Post (none, h')) : mx_J (tB l D b0 ad Hb tau) mt_18 (d + 6) 0 [some (.ref 20), none, none, none, none] [] h Post := by
    have a7 : 7 < n := lt83 (GI_n hG) rfl
    have s7 : S 7 = .inl (0, [2, 2, 2, 2, 0, 0]) := GI_s hG 7 rfl
    have a12 : 12 < n := lt83 (GI_n hG) rfl
    have s12 : S 12 = .inl (4, [2, 2, 0, 2, 2, 2, 2, 2, 2]) := GI_s hG 12 rfl
    have a20 : 20 < n := lt83 (GI_n hG) rfl
    have s20 : S 20 = .inl (2, [2, 2, 2, 2, 2, 2, 0, 0, 0, 0, 0, 0]) := GI_s hG 20 rfl
    have a21 : 21 < n := lt83 (GI_n hG) rfl
    have s21 : S 21 = .inr (.int, 385, 0) := GI_s hG 21 rfl
    have a22 : 22 < n := lt83 (GI_n hG) rfl
    have s22 : S 22 = .inr (.int, 385, 0) := GI_s hG 22 rfl
    have a24 : 24 < n := lt83 (GI_n hG) rfl
    have s24 : S 24 = .inr (.int, 385, 0) := GI_s hG 24 rfl
    refine mx_J.step (sn_18 0) (fun _ _ => rfl) ?_
    obtain ⟨z1, Z1, h1, hc1, hx1, hG1, hf1, b1⟩ := ct_19_20 (d := d + 0) (l := l) (D := D) (b0 := b0) (ad := ad) (Hb := Hb) (tau := tau) hx hG 
    refine Jcv hx (show mx_Sn _ _ 1 (mx_callv 19 1 2 4) from sn_18 1) a20 s20 hc1 rfl rfl rfl ?_
    refine mx_J.step (ls2 := [some (.ref 20), some (xI z1), none, none, none]) (sn_18 4) (fun _ _ => rfl) ?_
    refine mx_J.step (sn_18 5) (fun _ _ => rfl) ?_
    refine mx_J.step (sn_18 6) (fun _ _ => rfl) ?_
    refine JgetR (g := 0) (b := 7) hx1 (show mx_Sn _ _ 7 (mx_getf 2 0 10) from sn_18 7) a20 s20 rfl rfl (hG1.prr 20 0 rfl) ?_
    have b4 : 0 ≤ Z 7 5 ∧ Z 7 5 ≤ 385 := hG.pr 7 5
    refine JgetI (g := 5) (z := Z 7 5) hx1 (show mx_Sn _ _ 10 (mx_getf 0 5 13) from sn_18 10) a7 s7 rfl rfl (hf1 7 5 rfl) ?_
    refine mx_J.step (sn_18 13) (fun _ _ => rfl) ?_
    refine Jisub (show mx_Sn _ _ 14 (mx_isub 15) from sn_18 14) ?_
    refine JputI (g := 9) hx1 (show mx_Sn _ _ 15 (mx_putf 1 2 9 (.int) 18) from sn_18 15) a20 s20 rfl rfl rfl rfl (fun Z5 h5 hx5 hE5 => ?_)
    have hG5 := GI_up hG1 hE5 (show (-2147483648) ≤ (Z 7 5) - z1 ∧ (Z 7 5) - z1 ≤ 2147483647 by omega) trivial rfl
    refine mx_J.step (sn_18 18) (fun _ _ => rfl) ?_
    obtain ⟨Z6, h6, hc6, hx6, hG6, hf6⟩ := ct_20_20 (d := d + 0) (l := l) (D := D) (b0 := b0) (ad := ad) (Hb := Hb) (tau := tau) hx5 hG5 
    refine Jcv0 hx5 (show mx_Sn _ _ 19 (mx_callv 20 1 2 22) from sn_18 19) a20 s20 hc6 rfl rfl rfl ?_
    refine mx_J.step (sn_18 22) (fun _ _ => rfl) ?_
    refine JcI (z := 0) (show mx_Sn _ _ 23 (mx_const (.int 0) 24) from sn_18 23) rfl ?_
    refine JputI (g := 11) hx6 (show mx_Sn _ _ 24 (mx_putf 1 2 11 (.int) 27) from sn_18 24) a20 s20 rfl rfl rfl rfl (fun Z7 h7 hx7 hE7 => ?_)
    have hG7 := GI_up hG6 hE7 (show (-2147483648) ≤ 0 ∧ 0 ≤ 2147483647 by omega) trivial rfl
    refine mx_J.step (sn_18 27) (fun _ _ => rfl) ?_
    refine JcI (z := 1) (show mx_Sn _ _ 28 (mx_const (.int 1) 29) from sn_18 28) rfl ?_
    refine Jisub (show mx_Sn _ _ 29 (mx_isub 30) from sn_18 29) ?_
    refine mx_J.step (ls2 := [some (.ref 20), some (xI z1), some (xI (z1 - 1)), none, none]) (sn_18 30) (fun _ _ => rfl) ?_
    have c31 : ∀ (m8 : Nat) (w8_2 : Int) (u8_3 : Option Value) (u8_4 : Option Value) (Z9 : xZ) (h9 : mx_H), w8_2 - (-1) < (m8 : Int) → (-1) ≤ w8_2 ∧ w8_2 ≤ 384 → XH n s S Z9 h9 → GI n S Z9 → fr' [(14, (-1)), (16, (-1)), (17, (-1)), (18, (-1)), (19, (-1)), (20, 11), (22, (-1)), (24, (-1))] Z7 Z9 → mx_J (tB l D b0 ad Hb tau) mt_18 (d + 6) 31 [some (.ref 20), some (xI z1), some (xI w8_2), u8_3, u8_4] [] h9 Post := by
      intro m8
      induction m8 with
      | zero => intro w8_2 u8_3 u8_4 Z9 h9 q8 f8_0 hx9 hG9 hf9; exact absurd q8 (by omega)
      | succ m8 ih8 =>
        intro w8_2 u8_3 u8_4 Z9 h9 q8 f8_0 hx9 hG9 hf9
        refine mx_J.step (sn_18 31) (fun _ _ => rfl) ?_
        refine Jif_lt (show mx_Sn _ _ 32 (mx_if_lt 103 35) from sn_18 32) (by omega) (fun q10 => ?_) (fun q10 => ?_)
        · skip
          exact mx_J.ret (sn_18 103) (fun _ _ => rfl) (hP Z9 h9 hx9 hG9 (fr_tr (M := [(14, (-1)), (16, (-1)), (17, (-1)), (18, (-1)), (19, (-1)), (20, 8), (20, 9), (20, 10), (20, 11), (21, (-1)), (22, (-1)), (23, (-1)), (24, (-1))]) (fr_tr (M := [(14, (-1)), (16, (-1)), (17, (-1)), (18, (-1)), (19, (-1)), (20, 8), (20, 9), (20, 10), (20, 11), (21, (-1)), (22, (-1)), (23, (-1)), (24, (-1))]) (fr_tr (M := [(14, (-1)), (16, (-1)), (17, (-1)), (18, (-1)), (19, (-1)), (20, 8), (20, 9), (20, 10), (20, 11), (21, (-1)), (22, (-1)), (23, (-1)), (24, (-1))]) (fr_tr (M := [(14, (-1)), (16, (-1)), (17, (-1)), (18, (-1)), (19, (-1)), (20, 8), (20, 9), (20, 10), (20, 11), (21, (-1)), (22, (-1)), (23, (-1)), (24, (-1))]) (fr_tr (M := [(14, (-1)), (16, (-1)), (17, (-1)), (18, (-1)), (19, (-1)), (20, 8), (20, 9), (20, 10), (20, 11), (21, (-1)), (22, (-1)), (23, (-1)), (24, (-1))]) fr_rf (hf1) (M1 := []) rfl rfl) (fr_up hE5) rfl rfl) (hf6) rfl rfl) (fr_up hE7) rfl rfl) (hf9) rfl rfl))
        · skip
          refine mx_J.step (sn_18 35) (fun _ _ => rfl) ?_
          refine JgetR (g := 2) (b := 21) hx9 (show mx_Sn _ _ 36 (mx_getf 2 2 39) from sn_18 36) a20 s20 rfl rfl (hG9.prr 20 2 rfl) ?_
          refine mx_J.step (sn_18 39) (fun _ _ => rfl) ?_
          have b12 : 0 ≤ Z1 21 w8_2 ∧ Z1 21 w8_2 ≤ 384 := hG1.pr 21 w8_2
          refine JialdI (z := Z1 21 w8_2) hx9 (show mx_Sn _ _ 40 (mx_iald 41) from sn_18 40) a21 s21 (by omega) ((hf9 21 w8_2 rfl).trans ((up_nk hE7 rfl).trans ((hf6 21 w8_2 rfl).trans (up_nk hE5 rfl)))) ?_
          refine mx_J.step (ls2 := [some (.ref 20), some (xI z1), some (xI w8_2), some (xI (Z1 21 w8_2)), u8_4]) (sn_18 41) (fun _ _ => rfl) ?_
          refine mx_J.step (sn_18 42) (fun _ _ => rfl) ?_
          refine JgetR (g := 1) (b := 12) hx9 (show mx_Sn _ _ 43 (mx_getf 2 1 46) from sn_18 43) a20 s20 rfl rfl (hG9.prr 20 1 rfl) ?_
          refine mx_J.step (sn_18 46) (fun _ _ => rfl) ?_
          obtain ⟨z14, Z14, h14, hc14, hx14, hG14, hf14, b14⟩ := ct_27_12 (d := d + 1) (l := l) (D := D) (b0 := b0) (ad := ad) (Hb := Hb) (tau := tau) hx9 hG9 (show (-2147483648) ≤ Z1 21 w8_2 ∧ Z1 21 w8_2 ≤ 2147483647 by omega)
          refine Jcv hx9 (show mx_Sn _ _ 47 (mx_callv 27 2 4 50) from sn_18 47) a12 s12 hc14 rfl rfl rfl ?_
          refine mx_J.step (ls2 := [some (.ref 20), some (xI z1), some (xI w8_2), some (xI (Z1 21 w8_2)), some (xI z14)]) (sn_18 50) (fun _ _ => rfl) ?_
          refine mx_J.step (sn_18 52) (fun _ _ => rfl) ?_
          refine JgetR (g := 5) (b := 24) hx14 (show mx_Sn _ _ 53 (mx_getf 2 5 56) from sn_18 53) a20 s20 rfl rfl (hG14.prr 20 5 rfl) ?_
          refine mx_J.step (sn_18 56) (fun _ _ => rfl) ?_
          refine mx_J.step (sn_18 57) (fun _ _ => rfl) ?_
          refine JgetR (g := 5) (b := 24) hx14 (show mx_Sn _ _ 58 (mx_getf 2 5 61) from sn_18 58) a20 s20 rfl rfl (hG14.prr 20 5 rfl) ?_
          refine mx_J.step (sn_18 61) (fun _ _ => rfl) ?_
          have b17 : (-2147483648) ≤ Z9 24 z14 ∧ Z9 24 z14 ≤ 2147483647 := hG9.pr 24 z14
          refine JialdI (z := Z9 24 z14) hx14 (show mx_Sn _ _ 63 (mx_iald 64) from sn_18 63) a24 s24 (by omega) (hf14 24 z14 rfl) ?_
          refine JiastI hx14 (show mx_Sn _ _ 64 (mx_iast 1 65) from sn_18 64) a24 s24 rfl (by omega) (fun Z18 h18 hx18 hE18 => ?_)
          have hG18 := GI_up hG14 hE18 (show (-2147483648) ≤ Z9 24 z14 ∧ Z9 24 z14 ≤ 2147483647 by omega) trivial rfl
          refine mx_J.step (sn_18 65) (fun _ _ => rfl) ?_
          refine JgetR (g := 3) (b := 22) hx18 (show mx_Sn _ _ 66 (mx_getf 2 3 69) from sn_18 66) a20 s20 rfl rfl (hG18.prr 20 3 rfl) ?_
          refine mx_J.step (sn_18 69) (fun _ _ => rfl) ?_
          refine mx_J.step (sn_18 70) (fun _ _ => rfl) ?_
          refine JgetR (g := 3) (b := 22) hx18 (show mx_Sn _ _ 71 (mx_getf 2 3 74) from sn_18 71) a20 s20 rfl rfl (hG18.prr 20 3 rfl) ?_
          refine mx_J.step (sn_18 74) (fun _ _ => rfl) ?_
          have b21 : (-2147483648) ≤ Z9 22 z14 ∧ Z9 22 z14 ≤ 2147483647 := hG9.pr 22 z14
          refine JialdI (z := Z9 22 z14) hx18 (show mx_Sn _ _ 76 (mx_iald 77) from sn_18 76) a22 s22 (by omega) ((up_nk hE18 rfl).trans (hf14 22 z14 rfl)) ?_
          refine JcI (z := 1) (show mx_Sn _ _ 77 (mx_const (.int 1) 78) from sn_18 77) rfl ?_
          refine JiaddN (show mx_Sn _ _ 78 (mx_iadd 79) from sn_18 78) (fun y22 hy22 hq22 => ?_)
          refine JiastI hx18 (show mx_Sn _ _ 79 (mx_iast 1 80) from sn_18 79) a22 s22 rfl (by omega) (fun Z23 h23 hx23 hE23 => ?_)
          have hG23 := GI_up hG18 hE23 (show (-2147483648) ≤ y22 ∧ y22 ≤ 2147483647 by omega) trivial rfl
          refine mx_J.step (sn_18 80) (fun _ _ => rfl) ?_
          refine mx_J.step (sn_18 81) (fun _ _ => rfl) ?_
          have b25 : (-2147483648) ≤ Z9 20 11 ∧ Z9 20 11 ≤ 2147483647 := hG9.pr 20 11
          refine JgetI (g := 11) (z := Z9 20 11) hx23 (show mx_Sn _ _ 82 (mx_getf 2 11 85) from sn_18 82) a20 s20 rfl rfl ((up_nk hE23 rfl).trans ((up_nk hE18 rfl).trans (hf14 20 11 rfl))) ?_
          refine mx_J.step (sn_18 85) (fun _ _ => rfl) ?_
          refine JgetR (g := 3) (b := 22) hx23 (show mx_Sn _ _ 86 (mx_getf 2 3 89) from sn_18 86) a20 s20 rfl rfl (hG23.prr 20 3 rfl) ?_
          refine mx_J.step (sn_18 89) (fun _ _ => rfl) ?_
          have b27 : (-2147483648) ≤ Z23 22 (Z1 21 w8_2) ∧ Z23 22 (Z1 21 w8_2) ≤ 2147483647 := hG23.pr 22 (Z1 21 w8_2)
          refine JialdI (z := Z23 22 (Z1 21 w8_2)) hx23 (show mx_Sn _ _ 90 (mx_iald 91) from sn_18 90) a22 s22 (by omega) rfl ?_
          refine Jmmax (show mx_Sn _ _ 91 (mx_mmax 94) from sn_18 91) (by omega) (by omega) ⟨_, rfl⟩ rfl (fun y28 hy28 => ?_)
          refine JputI (g := 11) hx23 (show mx_Sn _ _ 94 (mx_putf 1 2 11 (.int) 97) from sn_18 94) a20 s20 rfl rfl rfl rfl (fun Z29 h29 hx29 hE29 => ?_)
          have hG29 := GI_up hG23 hE29 (show (-2147483648) ≤ y28 ∧ y28 ≤ 2147483647 by omega) trivial rfl
          refine Jiinc (z := w8_2) (cz := (-1)) (ls2 := [some (.ref 20), some (xI z1), some (xI (w8_2 + (-1))), some (xI (Z1 21 w8_2)), some (xI z14)]) (show mx_Sn _ _ 97 (mx_iinc 2 (-1) 100) from sn_18 97) rfl rfl rfl rfl ?_
          refine mx_J.step (sn_18 100) (fun _ _ => rfl) ?_
          exact ih8 (w8_2 + (-1)) (some (xI (Z1 21 w8_2))) (some (xI z14)) Z29 h29 (by omega) (by omega) hx29 hG29 (fr_tr (M := [(14, (-1)), (16, (-1)), (17, (-1)), (18, (-1)), (19, (-1)), (20, 11), (22, (-1)), (24, (-1))]) (fr_tr (M := [(14, (-1)), (16, (-1)), (17, (-1)), (18, (-1)), (19, (-1)), (20, 11), (22, (-1)), (24, (-1))]) (fr_tr (M := [(14, (-1)), (16, (-1)), (17, (-1)), (18, (-1)), (19, (-1)), (20, 11), (22, (-1)), (24, (-1))]) (fr_tr (M := [(14, (-1)), (16, (-1)), (17, (-1)), (18, (-1)), (19, (-1)), (20, 11), (22, (-1)), (24, (-1))]) (fr_tr (M := [(14, (-1)), (16, (-1)), (17, (-1)), (18, (-1)), (19, (-1)), (20, 11), (22, (-1)), (24, (-1))]) fr_rf (hf9) (M1 := []) rfl rfl) (hf14) rfl rfl) (fr_ua hE18) rfl rfl) (fr_ua hE23) rfl rfl) (fr_up hE29) rfl rfl)
    exact c31 (Int.toNat ((z1 - 1) - (-1)) + 1) (z1 - 1) none none Z7 h7 (by omega) (by omega) hx7 hG7 fr_rf
theorem ct_18_20 {l : Launch} {D : va_G} {b0 : Nat} {ad : Nat → Nat} {Hb : Heap} {tau : Nat → Int64} {d n s : Nat} {S : Nat → xS} {Z : xZ} {h : mx_H} (hx : XH n s S Z h) (hG : GI n S Z)   : ∃ (Z' : xZ) (h' : mx_H), mx_Ca (tB l D b0 ad Hb tau) (d + 7) 18 [.ref 20] h (none, h') ∧ XH n s S Z' h' ∧ GI n S Z' ∧ fr' [(14, (-1)), (16, (-1)), (17, (-1)), (18, (-1)), (19, (-1)), (20, 8), (20, 9), (20, 10), (20, 11), (21, (-1)), (22, (-1)), (23, (-1)), (24, (-1))] Z Z' := by
  obtain ⟨r, hca, Z', h', e, q⟩ := Jmt (B := tB l D b0 ad Hb tau) (M := mt_18) (mi := 18) (as := [.ref 20]) (d := d + 6) (ls := [some (.ref 20), none, none, none, none]) rfl rfl rfl rfl rfl rfl (cw_18_20 (l := l) (D := D) (b0 := b0) (ad := ad) (Hb := Hb) (tau := tau) (d := d) (Post := fun r => ∃ (Z' : xZ) (h' : mx_H), r = (none, h') ∧ XH n s S Z' h' ∧ GI n S Z' ∧ fr' [(14, (-1)), (16, (-1)), (17, (-1)), (18, (-1)), (19, (-1)), (20, 8), (20, 9), (20, 10), (20, 11), (21, (-1)), (22, (-1)), (23, (-1)), (24, (-1))] Z Z') hx hG  (fun Z' h' q1 q2 q3 => ⟨Z', h', rfl, q1, q2, q3⟩))
  subst e; exact ⟨Z', h', hca, q⟩
set_option maxRecDepth 100000 in
theorem cw_21_20 {l : Launch} {D : va_G} {b0 : Nat} {ad : Nat → Nat} {Hb : Heap} {tau : Nat → Int64} {d n s : Nat} {S : Nat → xS} {Z : xZ} {h : mx_H} {Post : mx_R → Prop} (hx : XH n s S Z h) (hG : GI n S Z)  {x0 : Int} (p0 : 0 ≤ x0 ∧ x0 ≤ 384) (hP : ∀ z : Int, (-2147483648) ≤ z ∧ z ≤ 2147483647 → Post (some (xI z), h)) : mx_J (tB l D b0 ad Hb tau) mt_21 (d + 0) 0 [some (.ref 20), some (xI x0), none, none] [] h Post := by
    have a7 : 7 < n := lt83 (GI_n hG) rfl
    have s7 : S 7 = .inl (0, [2, 2, 2, 2, 0, 0]) := GI_s hG 7 rfl
    have a20 : 20 < n := lt83 (GI_n hG) rfl
    have s20 : S 20 = .inl (2, [2, 2, 2, 2, 2, 2, 0, 0, 0, 0, 0, 0]) := GI_s hG 20 rfl
    have a24 : 24 < n := lt83 (GI_n hG) rfl
    have s24 : S 24 = .inr (.int, 385, 0) := GI_s hG 24 rfl
    refine JcI (z := 0) (show mx_Sn _ _ 0 (mx_const (.int 0) 1) from sn_21 0) rfl ?_
    refine mx_J.step (ls2 := [some (.ref 20), some (xI x0), some (xI 0), none]) (sn_21 1) (fun _ _ => rfl) ?_
    refine JcI (z := 0) (show mx_Sn _ _ 2 (mx_const (.int 0) 3) from sn_21 2) rfl ?_
    refine mx_J.step (ls2 := [some (.ref 20), some (xI x0), some (xI 0), some (xI 0)]) (sn_21 3) (fun _ _ => rfl) ?_
    have c4 : ∀ (m1 : Nat) (w1_2 : Int) (w1_3 : Int), 385 - w1_3 < (m1 : Int) → (-2147483648) ≤ w1_2 ∧ w1_2 ≤ 2147483647 → 0 ≤ w1_3 ∧ w1_3 ≤ 385 → mx_J (tB l D b0 ad Hb tau) mt_21 (d + 0) 4 [some (.ref 20), some (xI x0), some (xI w1_2), some (xI w1_3)] [] h Post := by
      intro m1
      induction m1 with
      | zero => intro w1_2 w1_3 q1 f1_0 f1_1; exact absurd q1 (by omega)
      | succ m1 ih1 =>
        intro w1_2 w1_3 q1 f1_0 f1_1
        refine mx_J.step (sn_21 4) (fun _ _ => rfl) ?_
        refine mx_J.step (sn_21 5) (fun _ _ => rfl) ?_
        refine JgetR (g := 0) (b := 7) hx (show mx_Sn _ _ 6 (mx_getf 2 0 9) from sn_21 6) a20 s20 rfl rfl (hG.prr 20 0 rfl) ?_
        have b4 : 0 ≤ Z 7 5 ∧ Z 7 5 ≤ 385 := hG.pr 7 5
        refine JgetI (g := 5) (z := Z 7 5) hx (show mx_Sn _ _ 9 (mx_getf 0 5 12) from sn_21 9) a7 s7 rfl rfl rfl ?_
        refine Jicmp_ge (show mx_Sn _ _ 12 (mx_icmp_ge 39 15) from sn_21 12) (by omega) (by omega) (fun q5 => ?_) (fun q5 => ?_)
        · skip
          refine mx_J.step (sn_21 39) (fun _ _ => rfl) ?_
          exact mx_J.ret (sn_21 40) (fun _ _ => rfl) (hP w1_2 (by omega))
        · skip
          refine mx_J.step (sn_21 15) (fun _ _ => rfl) ?_
          refine JgetR (g := 5) (b := 24) hx (show mx_Sn _ _ 16 (mx_getf 2 5 19) from sn_21 16) a20 s20 rfl rfl (hG.prr 20 5 rfl) ?_
          refine mx_J.step (sn_21 19) (fun _ _ => rfl) ?_
          have b7 : (-2147483648) ≤ Z 24 w1_3 ∧ Z 24 w1_3 ≤ 2147483647 := hG.pr 24 w1_3
          refine JialdI (z := Z 24 w1_3) hx (show mx_Sn _ _ 20 (mx_iald 21) from sn_21 20) a24 s24 (by omega) rfl ?_
          refine mx_J.step (sn_21 21) (fun _ _ => rfl) ?_
          refine JgetR (g := 5) (b := 24) hx (show mx_Sn _ _ 22 (mx_getf 2 5 25) from sn_21 22) a20 s20 rfl rfl (hG.prr 20 5 rfl) ?_
          refine mx_J.step (sn_21 25) (fun _ _ => rfl) ?_
          have b9 : (-2147483648) ≤ Z 24 x0 ∧ Z 24 x0 ≤ 2147483647 := hG.pr 24 x0
          refine JialdI (z := Z 24 x0) hx (show mx_Sn _ _ 26 (mx_iald 27) from sn_21 26) a24 s24 (by omega) rfl ?_
          have c33 : ∀ (w10_2 : Int), (-2147483648) ≤ w10_2 ∧ w10_2 ≤ 2147483647 → mx_J (tB l D b0 ad Hb tau) mt_21 (d + 0) 33 [some (.ref 20), some (xI x0), some (xI w10_2), some (xI w1_3)] [] h Post := by
            intro w10_2 f10_0
            refine Jiinc (z := w1_3) (cz := 1) (ls2 := [some (.ref 20), some (xI x0), some (xI w10_2), some (xI (w1_3 + 1))]) (show mx_Sn _ _ 33 (mx_iinc 3 1 36) from sn_21 33) rfl rfl rfl rfl ?_
            refine mx_J.step (sn_21 36) (fun _ _ => rfl) ?_
            exact ih1 w10_2 (w1_3 + 1) (by omega) (by omega) (by omega)
          refine Jicmp_ne (show mx_Sn _ _ 27 (mx_icmp_ne 33 30) from sn_21 27) (by omega) (by omega) (fun q11 => ?_) (fun q11 => ?_)
          · skip
            exact c33 w1_2 (by omega)
          · skip
            refine JiincN (z := w1_2) (cz := 1) (show mx_Sn _ _ 30 (mx_iinc 2 1 33) from sn_21 30) rfl rfl rfl (fun y12 hy12 hq12 => ?_)
            show mx_J _ _ _ _ [some (.ref 20), some (xI x0), some (xI y12), some (xI w1_3)] _ _ _
            exact c33 y12 (by omega)
    exact c4 (Int.toNat (385 - 0) + 1) 0 0 (by omega) (by omega) (by omega)
theorem ct_21_20 {l : Launch} {D : va_G} {b0 : Nat} {ad : Nat → Nat} {Hb : Heap} {tau : Nat → Int64} {d n s : Nat} {S : Nat → xS} {Z : xZ} {h : mx_H} (hx : XH n s S Z h) (hG : GI n S Z)  {x0 : Int} (p0 : 0 ≤ x0 ∧ x0 ≤ 384) : ∃ z : Int, mx_Ca (tB l D b0 ad Hb tau) (d + 1) 21 [.ref 20, xI x0] h (some (xI z), h) ∧ ((-2147483648) ≤ z ∧ z ≤ 2147483647) := by
  obtain ⟨r, hca, z, e, hp⟩ := Jmt (B := tB l D b0 ad Hb tau) (M := mt_21) (mi := 21) (as := [.ref 20, xI x0]) (d := d + 0) (ls := [some (.ref 20), some (xI x0), none, none]) rfl rfl rfl rfl rfl rfl (cw_21_20 (l := l) (D := D) (b0 := b0) (ad := ad) (Hb := Hb) (tau := tau) (d := d) (Post := fun r => ∃ z : Int, r = (some (xI z), h) ∧ ((-2147483648) ≤ z ∧ z ≤ 2147483647)) hx hG p0 (fun z hz => ⟨z, rfl, hz⟩))
  subst e; exact ⟨z, hca, hp⟩
set_option maxRecDepth 100000 in
theorem cw_62_25 {l : Launch} {D : va_G} {b0 : Nat} {ad : Nat → Nat} {Hb : Heap} {tau : Nat → Int64} {d n s : Nat} {S : Nat → xS} {Z : xZ} {h : mx_H} {Post : mx_R → Prop} (hx : XH n s S Z h) (hG : GI n S Z)  {x0 : Int} (p0 : 0 ≤ x0 ∧ x0 ≤ 384) (hP : ∀ (Z' : xZ) (h' : mx_H), XH n s S Z' h' → GI n S Z' → fr' [(14, (-1)), (16, (-1)), (17, (-1)), (18, (-1)), (19, (-1)), (25, 8), (26, (-1)), (27, (-1)), (28, (-1)), (29, (-1))] Z Z' → Post (none, h')) : mx_J (tB l D b0 ad Hb tau) mt_62 (d + 4) 0 [some (.ref 25), some (xI x0), none, none, none] [] h Post := by
    have a7 : 7 < n := lt83 (GI_n hG) rfl
    have s7 : S 7 = .inl (0, [2, 2, 2, 2, 0, 0]) := GI_s hG 7 rfl
    have a12 : 12 < n := lt83 (GI_n hG) rfl
    have s12 : S 12 = .inl (4, [2, 2, 0, 2, 2, 2, 2, 2, 2]) := GI_s hG 12 rfl
    have a25 : 25 < n := lt83 (GI_n hG) rfl
    have s25 : S 25 = .inl (8, [2, 2, 2, 2, 2, 2, 2, 2, 0]) := GI_s hG 25 rfl
    have a26 : 26 < n := lt83 (GI_n hG) rfl
    have s26 : S 26 = .inr (.int, 385, 0) := GI_s hG 26 rfl
    have a27 : 27 < n := lt83 (GI_n hG) rfl
    have s27 : S 27 = .inr (.int, 385, 0) := GI_s hG 27 rfl
    have a28 : 28 < n := lt83 (GI_n hG) rfl
    have s28 : S 28 = .inr (.int, 385, 0) := GI_s hG 28 rfl
    have a29 : 29 < n := lt83 (GI_n hG) rfl
    have s29 : S 29 = .inr (.int, 385, 0) := GI_s hG 29 rfl
    refine mx_J.step (sn_62 0) (fun _ _ => rfl) ?_
    refine JgetR (g := 0) (b := 7) hx (show mx_Sn _ _ 1 (mx_getf 8 0 4) from sn_62 1) a25 s25 rfl rfl (hG.prr 25 0 rfl) ?_
    refine mx_J.step (sn_62 4) (fun _ _ => rfl) ?_
    refine JcI (z := 0) (show mx_Sn _ _ 5 (mx_const (.int 0) 6) from sn_62 5) rfl ?_
    have b3 : 0 ≤ Z 9 (x0 * 18 + 0) ∧ Z 9 (x0 * 18 + 0) ≤ 18 := hG.pr 9 (x0 * 18 + 0)
    have b4 : 0 ≤ Z 10 x0 ∧ Z 10 x0 ≤ 18 := hG.pr 10 x0
    have b5 : 0 ≤ Z 7 5 ∧ Z 7 5 ≤ 385 := hG.pr 7 5
    obtain ⟨z2, hc2, b2⟩ := ct_6_7 (d := d + 2) (l := l) (D := D) (b0 := b0) (ad := ad) (Hb := Hb) (tau := tau) hx hG (show (-2147483648) ≤ x0 ∧ x0 ≤ 2147483647 by omega) (show (-2147483648) ≤ 0 ∧ 0 ≤ 2147483647 by omega)
    refine Jcv hx (show mx_Sn _ _ 6 (mx_callv 6 3 0 9) from sn_62 6) a7 s7 hc2 rfl rfl rfl ?_
    refine mx_J.step (ls2 := [some (.ref 25), some (xI x0), some (xI z2), none, none]) (sn_62 9) (fun _ _ => rfl) ?_
    refine JcI (z := 0) (show mx_Sn _ _ 10 (mx_const (.int 0) 11) from sn_62 10) rfl ?_
    refine mx_J.step (ls2 := [some (.ref 25), some (xI x0), some (xI z2), some (xI 0), none]) (sn_62 11) (fun _ _ => rfl) ?_
    have c12 : ∀ (m6 : Nat) (w6_3 : Int) (u6_4 : Option Value) (Z7 : xZ) (h7 : mx_H), 19 - w6_3 < (m6 : Int) → 0 ≤ w6_3 ∧ w6_3 ≤ 19 → XH n s S Z7 h7 → GI n S Z7 → fr' [(14, (-1)), (16, (-1)), (17, (-1)), (18, (-1)), (19, (-1)), (25, 8), (26, (-1)), (27, (-1)), (28, (-1)), (29, (-1))] Z Z7 → mx_J (tB l D b0 ad Hb tau) mt_62 (d + 4) 12 [some (.ref 25), some (xI x0), some (xI z2), some (xI w6_3), u6_4] [] h7 Post := by
      intro m6
      induction m6 with
      | zero => intro w6_3 u6_4 Z7 h7 q6 f6_0 hx7 hG7 hf7; exact absurd q6 (by omega)
      | succ m6 ih6 =>
        intro w6_3 u6_4 Z7 h7 q6 f6_0 hx7 hG7 hf7
        refine mx_J.step (sn_62 12) (fun _ _ => rfl) ?_
        refine mx_J.step (sn_62 13) (fun _ _ => rfl) ?_
        refine Jicmp_gt (show mx_Sn _ _ 14 (mx_icmp_gt 111 17) from sn_62 14) (by omega) (by omega) (fun q8 => ?_) (fun q8 => ?_)
        · skip
          exact mx_J.ret (sn_62 111) (fun _ _ => rfl) (hP Z7 h7 hx7 hG7 (fr_tr (M := [(14, (-1)), (16, (-1)), (17, (-1)), (18, (-1)), (19, (-1)), (25, 8), (26, (-1)), (27, (-1)), (28, (-1)), (29, (-1))]) fr_rf (hf7) (M1 := []) rfl rfl))
        · skip
          refine mx_J.step (sn_62 17) (fun _ _ => rfl) ?_
          refine JgetR (g := 1) (b := 12) hx7 (show mx_Sn _ _ 18 (mx_getf 8 1 21) from sn_62 18) a25 s25 rfl rfl (hG7.prr 25 1 rfl) ?_
          refine mx_J.step (sn_62 21) (fun _ _ => rfl) ?_
          refine mx_J.step (sn_62 22) (fun _ _ => rfl) ?_
          obtain ⟨z10, Z10, h10, hc10, hx10, hG10, hf10, b10⟩ := ct_26_12 (d := d + 0) (l := l) (D := D) (b0 := b0) (ad := ad) (Hb := Hb) (tau := tau) hx7 hG7 (show (-2147483648) ≤ x0 ∧ x0 ≤ 2147483647 by omega) (show (-2147483648) ≤ w6_3 ∧ w6_3 ≤ 2147483647 by omega)
          refine Jcv hx7 (show mx_Sn _ _ 23 (mx_callv 26 3 4 26) from sn_62 23) a12 s12 hc10 rfl rfl rfl ?_
          refine mx_J.step (ls2 := [some (.ref 25), some (xI x0), some (xI z2), some (xI w6_3), some (xI z10)]) (sn_62 26) (fun _ _ => rfl) ?_
          refine mx_J.step (sn_62 28) (fun _ _ => rfl) ?_
          have c105 : ∀  (Z12 : xZ) (h12 : mx_H), XH n s S Z12 h12 → GI n S Z12 → fr' [(25, 8), (26, (-1)), (27, (-1)), (28, (-1)), (29, (-1))] Z10 Z12 → mx_J (tB l D b0 ad Hb tau) mt_62 (d + 4) 105 [some (.ref 25), some (xI x0), some (xI z2), some (xI w6_3), some (xI z10)] [] h12 Post := by
            intro Z12 h12 hx12 hG12 hf12
            refine Jiinc (z := w6_3) (cz := 1) (ls2 := [some (.ref 25), some (xI x0), some (xI z2), some (xI (w6_3 + 1)), some (xI z10)]) (show mx_Sn _ _ 105 (mx_iinc 3 1 108) from sn_62 105) rfl rfl rfl rfl ?_
            refine mx_J.step (sn_62 108) (fun _ _ => rfl) ?_
            exact ih6 (w6_3 + 1) (some (xI z10)) Z12 h12 (by omega) (by omega) hx12 hG12 (fr_tr (M := [(14, (-1)), (16, (-1)), (17, (-1)), (18, (-1)), (19, (-1)), (25, 8), (26, (-1)), (27, (-1)), (28, (-1)), (29, (-1))]) (fr_tr (M := [(14, (-1)), (16, (-1)), (17, (-1)), (18, (-1)), (19, (-1)), (25, 8), (26, (-1)), (27, (-1)), (28, (-1)), (29, (-1))]) (fr_tr (M := [(14, (-1)), (16, (-1)), (17, (-1)), (18, (-1)), (19, (-1)), (25, 8), (26, (-1)), (27, (-1)), (28, (-1)), (29, (-1))]) fr_rf (hf7) (M1 := []) rfl rfl) (hf10) rfl rfl) (hf12) rfl rfl)
          refine Jif_lt (show mx_Sn _ _ 30 (mx_if_lt 105 33) from sn_62 30) (by omega) (fun q13 => ?_) (fun q13 => ?_)
          · skip
            exact c105 Z10 h10 hx10 hG10 fr_rf
          · skip
            refine mx_J.step (sn_62 33) (fun _ _ => rfl) ?_
            refine JgetR (g := 5) (b := 29) hx10 (show mx_Sn _ _ 34 (mx_getf 8 5 37) from sn_62 34) a25 s25 rfl rfl (hG10.prr 25 5 rfl) ?_
            refine mx_J.step (sn_62 37) (fun _ _ => rfl) ?_
            have b15 : (-2147483648) ≤ Z7 29 z10 ∧ Z7 29 z10 ≤ 2147483647 := hG7.pr 29 z10
            refine JialdI (z := Z7 29 z10) hx10 (show mx_Sn _ _ 39 (mx_iald 40) from sn_62 39) a29 s29 (by omega) (hf10 29 z10 rfl) ?_
            refine Jif_ge (show mx_Sn _ _ 40 (mx_if_ge 105 43) from sn_62 40) (by omega) (fun q16 => ?_) (fun q16 => ?_)
            · skip
              exact c105 Z10 h10 hx10 hG10 fr_rf
            · skip
              refine mx_J.step (sn_62 43) (fun _ _ => rfl) ?_
              have b18 : 0 ≤ Z7 25 8 ∧ Z7 25 8 ≤ 385 := hG7.pr 25 8
              refine JgetI (g := 8) (z := Z7 25 8) hx10 (show mx_Sn _ _ 44 (mx_getf 8 8 47) from sn_62 44) a25 s25 rfl rfl (hf10 25 8 rfl) ?_
              refine JcI (z := 385) (show mx_Sn _ _ 47 (mx_const (.int 385) 50) from sn_62 47) rfl ?_
              refine Jicmp_ge (show mx_Sn _ _ 50 (mx_icmp_ge 105 53) from sn_62 50) (by omega) (by omega) (fun q19 => ?_) (fun q19 => ?_)
              · skip
                exact c105 Z10 h10 hx10 hG10 fr_rf
              · skip
                refine mx_J.step (sn_62 53) (fun _ _ => rfl) ?_
                refine JgetR (g := 5) (b := 29) hx10 (show mx_Sn _ _ 54 (mx_getf 8 5 57) from sn_62 54) a25 s25 rfl rfl (hG10.prr 25 5 rfl) ?_
                refine mx_J.step (sn_62 57) (fun _ _ => rfl) ?_
                refine mx_J.step (sn_62 59) (fun _ _ => rfl) ?_
                refine JgetR (g := 5) (b := 29) hx10 (show mx_Sn _ _ 60 (mx_getf 8 5 63) from sn_62 60) a25 s25 rfl rfl (hG10.prr 25 5 rfl) ?_
                refine mx_J.step (sn_62 63) (fun _ _ => rfl) ?_
                have b22 : (-2147483648) ≤ Z7 29 x0 ∧ Z7 29 x0 ≤ 2147483647 := hG7.pr 29 x0
                refine JialdI (z := Z7 29 x0) hx10 (show mx_Sn _ _ 64 (mx_iald 65) from sn_62 64) a29 s29 (by omega) (hf10 29 x0 rfl) ?_
                refine JcI (z := 1) (show mx_Sn _ _ 65 (mx_const (.int 1) 66) from sn_62 65) rfl ?_
                refine JiaddN (show mx_Sn _ _ 66 (mx_iadd 67) from sn_62 66) (fun y23 hy23 hq23 => ?_)
                refine JiastI hx10 (show mx_Sn _ _ 67 (mx_iast 1 68) from sn_62 67) a29 s29 rfl (by omega) (fun Z24 h24 hx24 hE24 => ?_)
                have hG24 := GI_up hG10 hE24 (show (-2147483648) ≤ y23 ∧ y23 ≤ 2147483647 by omega) trivial rfl
                refine mx_J.step (sn_62 68) (fun _ _ => rfl) ?_
                refine JgetR (g := 3) (b := 27) hx24 (show mx_Sn _ _ 69 (mx_getf 8 3 72) from sn_62 69) a25 s25 rfl rfl (hG24.prr 25 3 rfl) ?_
                refine mx_J.step (sn_62 72) (fun _ _ => rfl) ?_
                refine mx_J.step (sn_62 74) (fun _ _ => rfl) ?_
                refine JiastI hx24 (show mx_Sn _ _ 75 (mx_iast 1 76) from sn_62 75) a27 s27 rfl (by omega) (fun Z26 h26 hx26 hE26 => ?_)
                have hG26 := GI_up hG24 hE26 (show 0 ≤ x0 ∧ x0 ≤ 384 by omega) trivial rfl
                refine mx_J.step (sn_62 76) (fun _ _ => rfl) ?_
                refine JgetR (g := 4) (b := 28) hx26 (show mx_Sn _ _ 77 (mx_getf 8 4 80) from sn_62 77) a25 s25 rfl rfl (hG26.prr 25 4 rfl) ?_
                refine mx_J.step (sn_62 80) (fun _ _ => rfl) ?_
                refine mx_J.step (sn_62 82) (fun _ _ => rfl) ?_
                refine JiastI hx26 (show mx_Sn _ _ 83 (mx_iast 1 84) from sn_62 83) a28 s28 rfl (by omega) (fun Z28 h28 hx28 hE28 => ?_)
                have hG28 := GI_up hG26 hE28 (show 0 ≤ w6_3 ∧ w6_3 ≤ 18 by omega) trivial rfl
                refine mx_J.step (sn_62 84) (fun _ _ => rfl) ?_
                refine JgetR (g := 2) (b := 26) hx28 (show mx_Sn _ _ 85 (mx_getf 8 2 88) from sn_62 85) a25 s25 rfl rfl (hG28.prr 25 2 rfl) ?_
                refine mx_J.step (sn_62 88) (fun _ _ => rfl) ?_
                refine JgetI (g := 8) (z := Z7 25 8) hx28 (show mx_Sn _ _ 89 (mx_getf 8 8 92) from sn_62 89) a25 s25 rfl rfl ((up_nk hE28 rfl).trans ((up_nk hE26 rfl).trans ((up_nk hE24 rfl).trans (hf10 25 8 rfl)))) ?_
                refine mx_J.step (sn_62 92) (fun _ _ => rfl) ?_
                refine JiastI hx28 (show mx_Sn _ _ 94 (mx_iast 1 95) from sn_62 94) a26 s26 rfl (by omega) (fun Z31 h31 hx31 hE31 => ?_)
                have hG31 := GI_up hG28 hE31 (show 0 ≤ z10 ∧ z10 ≤ 384 by omega) trivial rfl
                refine mx_J.step (sn_62 95) (fun _ _ => rfl) ?_
                refine mx_J.step (sn_62 96) (fun _ _ => rfl) ?_
                refine JgetI (g := 8) (z := Z7 25 8) hx31 (show mx_Sn _ _ 97 (mx_getf 8 8 100) from sn_62 97) a25 s25 rfl rfl ((up_nk hE31 rfl).trans ((up_nk hE28 rfl).trans ((up_nk hE26 rfl).trans ((up_nk hE24 rfl).trans (hf10 25 8 rfl))))) ?_
                refine JcI (z := 1) (show mx_Sn _ _ 100 (mx_const (.int 1) 101) from sn_62 100) rfl ?_
                refine Jiadd (show mx_Sn _ _ 101 (mx_iadd 102) from sn_62 101) ?_
                refine JputI (g := 8) hx31 (show mx_Sn _ _ 102 (mx_putf 1 8 8 (.int) 105) from sn_62 102) a25 s25 rfl rfl rfl rfl (fun Z33 h33 hx33 hE33 => ?_)
                have hG33 := GI_up hG31 hE33 (show 0 ≤ (Z7 25 8) + 1 ∧ (Z7 25 8) + 1 ≤ 385 by omega) trivial rfl
                exact c105 Z33 h33 hx33 hG33 (fr_tr (M := [(25, 8), (26, (-1)), (27, (-1)), (28, (-1)), (29, (-1))]) (fr_tr (M := [(25, 8), (26, (-1)), (27, (-1)), (28, (-1)), (29, (-1))]) (fr_tr (M := [(25, 8), (26, (-1)), (27, (-1)), (28, (-1)), (29, (-1))]) (fr_tr (M := [(25, 8), (26, (-1)), (27, (-1)), (28, (-1)), (29, (-1))]) (fr_tr (M := [(25, 8), (26, (-1)), (27, (-1)), (28, (-1)), (29, (-1))]) fr_rf (fr_ua hE24) (M1 := []) rfl rfl) (fr_ua hE26) rfl rfl) (fr_ua hE28) rfl rfl) (fr_ua hE31) rfl rfl) (fr_up hE33) rfl rfl)
    exact c12 (Int.toNat (19 - 0) + 1) 0 none Z h (by omega) (by omega) hx hG fr_rf
theorem ct_62_25 {l : Launch} {D : va_G} {b0 : Nat} {ad : Nat → Nat} {Hb : Heap} {tau : Nat → Int64} {d n s : Nat} {S : Nat → xS} {Z : xZ} {h : mx_H} (hx : XH n s S Z h) (hG : GI n S Z)  {x0 : Int} (p0 : 0 ≤ x0 ∧ x0 ≤ 384) : ∃ (Z' : xZ) (h' : mx_H), mx_Ca (tB l D b0 ad Hb tau) (d + 5) 62 [.ref 25, xI x0] h (none, h') ∧ XH n s S Z' h' ∧ GI n S Z' ∧ fr' [(14, (-1)), (16, (-1)), (17, (-1)), (18, (-1)), (19, (-1)), (25, 8), (26, (-1)), (27, (-1)), (28, (-1)), (29, (-1))] Z Z' := by
  obtain ⟨r, hca, Z', h', e, q⟩ := Jmt (B := tB l D b0 ad Hb tau) (M := mt_62) (mi := 62) (as := [.ref 25, xI x0]) (d := d + 4) (ls := [some (.ref 25), some (xI x0), none, none, none]) rfl rfl rfl rfl rfl rfl (cw_62_25 (l := l) (D := D) (b0 := b0) (ad := ad) (Hb := Hb) (tau := tau) (d := d) (Post := fun r => ∃ (Z' : xZ) (h' : mx_H), r = (none, h') ∧ XH n s S Z' h' ∧ GI n S Z' ∧ fr' [(14, (-1)), (16, (-1)), (17, (-1)), (18, (-1)), (19, (-1)), (25, 8), (26, (-1)), (27, (-1)), (28, (-1)), (29, (-1))] Z Z') hx hG p0 (fun Z' h' q1 q2 q3 => ⟨Z', h', rfl, q1, q2, q3⟩))
  subst e; exact ⟨Z', h', hca, q⟩
set_option maxRecDepth 100000 in
theorem cw_61_25 {l : Launch} {D : va_G} {b0 : Nat} {ad : Nat → Nat} {Hb : Heap} {tau : Nat → Int64} {d n s : Nat} {S : Nat → xS} {Z : xZ} {h : mx_H} {Post : mx_R → Prop} (hx : XH n s S Z h) (hG : GI n S Z)  {x0 x1 : Int} (p0 : 0 ≤ x0 ∧ x0 ≤ 384) (p1 : (-1) ≤ x1 ∧ x1 ≤ 384) (hP : ∀ (z : Int) (Z' : xZ) (h' : mx_H), XH n s S Z' h' → GI n S Z' → fr' [(14, (-1)), (16, (-1)), (17, (-1)), (18, (-1)), (19, (-1)), (25, 8), (26, (-1)), (27, (-1)), (28, (-1)), (29, (-1))] Z Z' → (-2147483648) ≤ z ∧ z ≤ 2147483647 → Post (some (xI z), h')) : mx_J (tB l D b0 ad Hb tau) mt_61 (d + 5) 0 [some (.ref 25), some (xI x0), some (xI x1), none] [] h Post := by
    have a25 : 25 < n := lt83 (GI_n hG) rfl
    have s25 : S 25 = .inl (8, [2, 2, 2, 2, 2, 2, 2, 2, 0]) := GI_s hG 25 rfl
    have a26 : 26 < n := lt83 (GI_n hG) rfl
    have s26 : S 26 = .inr (.int, 385, 0) := GI_s hG 26 rfl
    have a29 : 29 < n := lt83 (GI_n hG) rfl
    have s29 : S 29 = .inr (.int, 385, 0) := GI_s hG 29 rfl
    refine mx_J.step (sn_61 0) (fun _ _ => rfl) ?_
    refine JgetR (g := 5) (b := 29) hx (show mx_Sn _ _ 1 (mx_getf 8 5 4) from sn_61 1) a25 s25 rfl rfl (hG.prr 25 5 rfl) ?_
    refine JcI (z := (-1)) (show mx_Sn _ _ 4 (mx_const (.int (-1)) 5) from sn_61 4) rfl ?_
    obtain ⟨Z2, h2, hc2, hx2, hG2, hf2⟩ := ct_284_29_m1 (d := d + 4) (l := l) (D := D) (b0 := b0) (ad := ad) (Hb := Hb) (tau := tau) hx hG 
    refine Jcs0 (show mx_Sn _ _ 5 (mx_calls 284 2 8) from sn_61 5) hc2 rfl rfl rfl ?_
    refine mx_J.step (sn_61 8) (fun _ _ => rfl) ?_
    refine JgetR (g := 5) (b := 29) hx2 (show mx_Sn _ _ 9 (mx_getf 8 5 12) from sn_61 9) a25 s25 rfl rfl (hG2.prr 25 5 rfl) ?_
    refine mx_J.step (sn_61 12) (fun _ _ => rfl) ?_
    refine JcI (z := 0) (show mx_Sn _ _ 13 (mx_const (.int 0) 14) from sn_61 13) rfl ?_
    refine JiastI hx2 (show mx_Sn _ _ 14 (mx_iast 1 15) from sn_61 14) a29 s29 rfl (by omega) (fun Z4 h4 hx4 hE4 => ?_)
    have hG4 := GI_up hG2 hE4 (show (-2147483648) ≤ 0 ∧ 0 ≤ 2147483647 by omega) trivial rfl
    refine mx_J.step (sn_61 15) (fun _ _ => rfl) ?_
    refine JgetR (g := 2) (b := 26) hx4 (show mx_Sn _ _ 16 (mx_getf 8 2 19) from sn_61 16) a25 s25 rfl rfl (hG4.prr 25 2 rfl) ?_
    refine JcI (z := 0) (show mx_Sn _ _ 19 (mx_const (.int 0) 20) from sn_61 19) rfl ?_
    refine mx_J.step (sn_61 20) (fun _ _ => rfl) ?_
    refine JiastI hx4 (show mx_Sn _ _ 21 (mx_iast 1 22) from sn_61 21) a26 s26 rfl (by omega) (fun Z6 h6 hx6 hE6 => ?_)
    have hG6 := GI_up hG4 hE6 (show 0 ≤ x0 ∧ x0 ≤ 384 by omega) trivial rfl
    refine mx_J.step (sn_61 22) (fun _ _ => rfl) ?_
    refine JcI (z := 1) (show mx_Sn _ _ 23 (mx_const (.int 1) 24) from sn_61 23) rfl ?_
    refine JputI (g := 8) hx6 (show mx_Sn _ _ 24 (mx_putf 1 8 8 (.int) 27) from sn_61 24) a25 s25 rfl rfl rfl rfl (fun Z7 h7 hx7 hE7 => ?_)
    have hG7 := GI_up hG6 hE7 (show 0 ≤ 1 ∧ 1 ≤ 385 by omega) trivial rfl
    refine JcI (z := 0) (show mx_Sn _ _ 27 (mx_const (.int 0) 28) from sn_61 27) rfl ?_
    refine mx_J.step (ls2 := [some (.ref 25), some (xI x0), some (xI x1), some (xI 0)]) (sn_61 28) (fun _ _ => rfl) ?_
    have c29 : ∀ (m8 : Nat) (w8_3 : Int) (Z9 : xZ) (h9 : mx_H), 385 - w8_3 < (m8 : Int) → 0 ≤ w8_3 ∧ w8_3 ≤ 385 → XH n s S Z9 h9 → GI n S Z9 → fr' [(14, (-1)), (16, (-1)), (17, (-1)), (18, (-1)), (19, (-1)), (25, 8), (26, (-1)), (27, (-1)), (28, (-1)), (29, (-1))] Z7 Z9 → mx_J (tB l D b0 ad Hb tau) mt_61 (d + 5) 29 [some (.ref 25), some (xI x0), some (xI x1), some (xI w8_3)] [] h9 Post := by
      intro m8
      induction m8 with
      | zero => intro w8_3 Z9 h9 q8 f8_0 hx9 hG9 hf9; exact absurd q8 (by omega)
      | succ m8 ih8 =>
        intro w8_3 Z9 h9 q8 f8_0 hx9 hG9 hf9
        refine mx_J.step (sn_61 29) (fun _ _ => rfl) ?_
        refine mx_J.step (sn_61 30) (fun _ _ => rfl) ?_
        have b11 : 0 ≤ Z9 25 8 ∧ Z9 25 8 ≤ 385 := hG9.pr 25 8
        refine JgetI (g := 8) (z := Z9 25 8) hx9 (show mx_Sn _ _ 31 (mx_getf 8 8 34) from sn_61 31) a25 s25 rfl rfl rfl ?_
        have c77 : mx_J (tB l D b0 ad Hb tau) mt_61 (d + 5) 77 [some (.ref 25), some (xI x0), some (xI x1), some (xI w8_3)] [] h9 Post := by
          refine JcI (z := (-1)) (show mx_Sn _ _ 77 (mx_const (.int (-1)) 78) from sn_61 77) rfl ?_
          exact mx_J.ret (sn_61 78) (fun _ _ => rfl) (hP (-1) Z9 h9 hx9 hG9 (fr_tr (M := [(14, (-1)), (16, (-1)), (17, (-1)), (18, (-1)), (19, (-1)), (25, 8), (26, (-1)), (27, (-1)), (28, (-1)), (29, (-1))]) (fr_tr (M := [(14, (-1)), (16, (-1)), (17, (-1)), (18, (-1)), (19, (-1)), (25, 8), (26, (-1)), (27, (-1)), (28, (-1)), (29, (-1))]) (fr_tr (M := [(14, (-1)), (16, (-1)), (17, (-1)), (18, (-1)), (19, (-1)), (25, 8), (26, (-1)), (27, (-1)), (28, (-1)), (29, (-1))]) (fr_tr (M := [(14, (-1)), (16, (-1)), (17, (-1)), (18, (-1)), (19, (-1)), (25, 8), (26, (-1)), (27, (-1)), (28, (-1)), (29, (-1))]) (fr_tr (M := [(14, (-1)), (16, (-1)), (17, (-1)), (18, (-1)), (19, (-1)), (25, 8), (26, (-1)), (27, (-1)), (28, (-1)), (29, (-1))]) fr_rf (hf2) (M1 := []) rfl rfl) (fr_ua hE4) rfl rfl) (fr_ua hE6) rfl rfl) (fr_up hE7) rfl rfl) (hf9) rfl rfl) (by omega))
        refine Jicmp_ge (show mx_Sn _ _ 34 (mx_icmp_ge 77 37) from sn_61 34) (by omega) (by omega) (fun q13 => ?_) (fun q13 => ?_)
        · skip
          exact c77 
        · skip
          refine mx_J.step (sn_61 37) (fun _ _ => rfl) ?_
          refine JcI (z := 385) (show mx_Sn _ _ 38 (mx_const (.int 385) 41) from sn_61 38) rfl ?_
          refine Jicmp_ge (show mx_Sn _ _ 41 (mx_icmp_ge 77 44) from sn_61 41) (by omega) (by omega) (fun q14 => ?_) (fun q14 => ?_)
          · skip
            exact c77 
          · skip
            refine mx_J.step (sn_61 44) (fun _ _ => rfl) ?_
            refine JgetR (g := 2) (b := 26) hx9 (show mx_Sn _ _ 45 (mx_getf 8 2 48) from sn_61 45) a25 s25 rfl rfl (hG9.prr 25 2 rfl) ?_
            refine mx_J.step (sn_61 48) (fun _ _ => rfl) ?_
            have b16 : 0 ≤ Z9 26 w8_3 ∧ Z9 26 w8_3 ≤ 384 := hG9.pr 26 w8_3
            refine JialdI (z := Z9 26 w8_3) hx9 (show mx_Sn _ _ 49 (mx_iald 50) from sn_61 49) a26 s26 (by omega) rfl ?_
            refine mx_J.step (sn_61 50) (fun _ _ => rfl) ?_
            refine Jicmp_ne (show mx_Sn _ _ 51 (mx_icmp_ne 61 54) from sn_61 51) (by omega) (by omega) (fun q17 => ?_) (fun q17 => ?_)
            · skip
              refine mx_J.step (sn_61 61) (fun _ _ => rfl) ?_
              refine mx_J.step (sn_61 62) (fun _ _ => rfl) ?_
              refine JgetR (g := 2) (b := 26) hx9 (show mx_Sn _ _ 63 (mx_getf 8 2 66) from sn_61 63) a25 s25 rfl rfl (hG9.prr 25 2 rfl) ?_
              refine mx_J.step (sn_61 66) (fun _ _ => rfl) ?_
              refine JialdI (z := Z9 26 w8_3) hx9 (show mx_Sn _ _ 67 (mx_iald 68) from sn_61 67) a26 s26 (by omega) rfl ?_
              obtain ⟨Z19, h19, hc19, hx19, hG19, hf19⟩ := ct_62_25 (d := d + 0) (l := l) (D := D) (b0 := b0) (ad := ad) (Hb := Hb) (tau := tau) hx9 hG9 (show 0 ≤ Z9 26 w8_3 ∧ Z9 26 w8_3 ≤ 384 by omega)
              refine Jcv0 hx9 (show mx_Sn _ _ 68 (mx_callv 62 2 8 71) from sn_61 68) a25 s25 hc19 rfl rfl rfl ?_
              refine Jiinc (z := w8_3) (cz := 1) (ls2 := [some (.ref 25), some (xI x0), some (xI x1), some (xI (w8_3 + 1))]) (show mx_Sn _ _ 71 (mx_iinc 3 1 74) from sn_61 71) rfl rfl rfl rfl ?_
              refine mx_J.step (sn_61 74) (fun _ _ => rfl) ?_
              exact ih8 (w8_3 + 1) Z19 h19 (by omega) (by omega) hx19 hG19 (fr_tr (M := [(14, (-1)), (16, (-1)), (17, (-1)), (18, (-1)), (19, (-1)), (25, 8), (26, (-1)), (27, (-1)), (28, (-1)), (29, (-1))]) (fr_tr (M := [(14, (-1)), (16, (-1)), (17, (-1)), (18, (-1)), (19, (-1)), (25, 8), (26, (-1)), (27, (-1)), (28, (-1)), (29, (-1))]) fr_rf (hf9) (M1 := []) rfl rfl) (hf19) rfl rfl)
            · skip
              refine mx_J.step (sn_61 54) (fun _ _ => rfl) ?_
              refine JgetR (g := 5) (b := 29) hx9 (show mx_Sn _ _ 55 (mx_getf 8 5 58) from sn_61 55) a25 s25 rfl rfl (hG9.prr 25 5 rfl) ?_
              refine mx_J.step (sn_61 58) (fun _ _ => rfl) ?_
              have b21 : (-2147483648) ≤ Z9 29 x1 ∧ Z9 29 x1 ≤ 2147483647 := hG9.pr 29 x1
              refine JialdI (z := Z9 29 x1) hx9 (show mx_Sn _ _ 59 (mx_iald 60) from sn_61 59) a29 s29 (by omega) rfl ?_
              exact mx_J.ret (sn_61 60) (fun _ _ => rfl) (hP (Z9 29 x1) Z9 h9 hx9 hG9 (fr_tr (M := [(14, (-1)), (16, (-1)), (17, (-1)), (18, (-1)), (19, (-1)), (25, 8), (26, (-1)), (27, (-1)), (28, (-1)), (29, (-1))]) (fr_tr (M := [(14, (-1)), (16, (-1)), (17, (-1)), (18, (-1)), (19, (-1)), (25, 8), (26, (-1)), (27, (-1)), (28, (-1)), (29, (-1))]) (fr_tr (M := [(14, (-1)), (16, (-1)), (17, (-1)), (18, (-1)), (19, (-1)), (25, 8), (26, (-1)), (27, (-1)), (28, (-1)), (29, (-1))]) (fr_tr (M := [(14, (-1)), (16, (-1)), (17, (-1)), (18, (-1)), (19, (-1)), (25, 8), (26, (-1)), (27, (-1)), (28, (-1)), (29, (-1))]) (fr_tr (M := [(14, (-1)), (16, (-1)), (17, (-1)), (18, (-1)), (19, (-1)), (25, 8), (26, (-1)), (27, (-1)), (28, (-1)), (29, (-1))]) fr_rf (hf2) (M1 := []) rfl rfl) (fr_ua hE4) rfl rfl) (fr_ua hE6) rfl rfl) (fr_up hE7) rfl rfl) (hf9) rfl rfl) (by omega))
    exact c29 (Int.toNat (385 - 0) + 1) 0 Z7 h7 (by omega) (by omega) hx7 hG7 fr_rf
theorem ct_61_25 {l : Launch} {D : va_G} {b0 : Nat} {ad : Nat → Nat} {Hb : Heap} {tau : Nat → Int64} {d n s : Nat} {S : Nat → xS} {Z : xZ} {h : mx_H} (hx : XH n s S Z h) (hG : GI n S Z)  {x0 x1 : Int} (p0 : 0 ≤ x0 ∧ x0 ≤ 384) (p1 : (-1) ≤ x1 ∧ x1 ≤ 384) : ∃ (z : Int) (Z' : xZ) (h' : mx_H), mx_Ca (tB l D b0 ad Hb tau) (d + 6) 61 [.ref 25, xI x0, xI x1] h (some (xI z), h') ∧ XH n s S Z' h' ∧ GI n S Z' ∧ fr' [(14, (-1)), (16, (-1)), (17, (-1)), (18, (-1)), (19, (-1)), (25, 8), (26, (-1)), (27, (-1)), (28, (-1)), (29, (-1))] Z Z' ∧ ((-2147483648) ≤ z ∧ z ≤ 2147483647) := by
  obtain ⟨r, hca, z, Z', h', e, q⟩ := Jmt (B := tB l D b0 ad Hb tau) (M := mt_61) (mi := 61) (as := [.ref 25, xI x0, xI x1]) (d := d + 5) (ls := [some (.ref 25), some (xI x0), some (xI x1), none]) rfl rfl rfl rfl rfl rfl (cw_61_25 (l := l) (D := D) (b0 := b0) (ad := ad) (Hb := Hb) (tau := tau) (d := d) (Post := fun r => ∃ (z : Int) (Z' : xZ) (h' : mx_H), r = (some (xI z), h') ∧ XH n s S Z' h' ∧ GI n S Z' ∧ fr' [(14, (-1)), (16, (-1)), (17, (-1)), (18, (-1)), (19, (-1)), (25, 8), (26, (-1)), (27, (-1)), (28, (-1)), (29, (-1))] Z Z' ∧ ((-2147483648) ≤ z ∧ z ≤ 2147483647)) hx hG p0 p1 (fun z Z' h' q1 q2 q3 q4 => ⟨z, Z', h', rfl, q1, q2, q3, q4⟩))
  subst e; exact ⟨z, Z', h', hca, q⟩
set_option maxRecDepth 100000 in
theorem cw_63_25 {l : Launch} {D : va_G} {b0 : Nat} {ad : Nat → Nat} {Hb : Heap} {tau : Nat → Int64} {d n s : Nat} {S : Nat → xS} {Z : xZ} {h : mx_H} {Post : mx_R → Prop} (hx : XH n s S Z h) (hG : GI n S Z)  {x0 x1 : Int} (p0 : 0 ≤ x0 ∧ x0 ≤ 384) (p1 : (-2147483648) ≤ x1 ∧ x1 ≤ 2147483647) (hP : ∀ z : Int, 0 ≤ z ∧ z ≤ 18 → Post (some (xI z), h)) : mx_J (tB l D b0 ad Hb tau) mt_63 (d + 0) 0 [some (.ref 25), some (xI x0), some (xI x1), none, none] [] h Post := by
    have a25 : 25 < n := lt83 (GI_n hG) rfl
    have s25 : S 25 = .inl (8, [2, 2, 2, 2, 2, 2, 2, 2, 0]) := GI_s hG 25 rfl
    have a27 : 27 < n := lt83 (GI_n hG) rfl
    have s27 : S 27 = .inr (.int, 385, 0) := GI_s hG 27 rfl
    have a28 : 28 < n := lt83 (GI_n hG) rfl
    have s28 : S 28 = .inr (.int, 385, 0) := GI_s hG 28 rfl
    refine mx_J.step (sn_63 0) (fun _ _ => rfl) ?_
    refine mx_J.step (ls2 := [some (.ref 25), some (xI x0), some (xI x1), some (xI x0), none]) (sn_63 1) (fun _ _ => rfl) ?_
    refine JcI (z := 0) (show mx_Sn _ _ 2 (mx_const (.int 0) 3) from sn_63 2) rfl ?_
    refine mx_J.step (ls2 := [some (.ref 25), some (xI x0), some (xI x1), some (xI x0), some (xI 0)]) (sn_63 3) (fun _ _ => rfl) ?_
    have c5 : ∀ (m1 : Nat) (w1_3 : Int) (w1_4 : Int), (((x1 - w1_4).toNat : Nat) : Int) < (m1 : Int) → 0 ≤ w1_3 ∧ w1_3 ≤ 384 → 0 ≤ w1_4 ∧ w1_4 ≤ 2147483647 → mx_J (tB l D b0 ad Hb tau) mt_63 (d + 0) 5 [some (.ref 25), some (xI x0), some (xI x1), some (xI w1_3), some (xI w1_4)] [] h Post := by
      intro m1
      induction m1 with
      | zero => intro w1_3 w1_4 q1 f1_0 f1_1; exact absurd q1 (by omega)
      | succ m1 ih1 =>
        intro w1_3 w1_4 q1 f1_0 f1_1
        refine mx_J.step (sn_63 5) (fun _ _ => rfl) ?_
        refine mx_J.step (sn_63 7) (fun _ _ => rfl) ?_
        refine Jicmp_ge (show mx_Sn _ _ 8 (mx_icmp_ge 24 11) from sn_63 8) (by omega) (by omega) (fun q2 => ?_) (fun q2 => ?_)
        · skip
          refine mx_J.step (sn_63 24) (fun _ _ => rfl) ?_
          refine JgetR (g := 4) (b := 28) hx (show mx_Sn _ _ 25 (mx_getf 8 4 28) from sn_63 25) a25 s25 rfl rfl (hG.prr 25 4 rfl) ?_
          refine mx_J.step (sn_63 28) (fun _ _ => rfl) ?_
          have b4 : 0 ≤ Z 28 w1_3 ∧ Z 28 w1_3 ≤ 18 := hG.pr 28 w1_3
          refine JialdI (z := Z 28 w1_3) hx (show mx_Sn _ _ 29 (mx_iald 30) from sn_63 29) a28 s28 (by omega) rfl ?_
          exact mx_J.ret (sn_63 30) (fun _ _ => rfl) (hP (Z 28 w1_3) (by omega))
        · skip
          refine mx_J.step (sn_63 11) (fun _ _ => rfl) ?_
          refine JgetR (g := 3) (b := 27) hx (show mx_Sn _ _ 12 (mx_getf 8 3 15) from sn_63 12) a25 s25 rfl rfl (hG.prr 25 3 rfl) ?_
          refine mx_J.step (sn_63 15) (fun _ _ => rfl) ?_
          have b6 : 0 ≤ Z 27 w1_3 ∧ Z 27 w1_3 ≤ 384 := hG.pr 27 w1_3
          refine JialdI (z := Z 27 w1_3) hx (show mx_Sn _ _ 16 (mx_iald 17) from sn_63 16) a27 s27 (by omega) rfl ?_
          refine mx_J.step (ls2 := [some (.ref 25), some (xI x0), some (xI x1), some (xI (Z 27 w1_3)), some (xI w1_4)]) (sn_63 17) (fun _ _ => rfl) ?_
          refine Jiinc (z := w1_4) (cz := 1) (ls2 := [some (.ref 25), some (xI x0), some (xI x1), some (xI (Z 27 w1_3)), some (xI (w1_4 + 1))]) (show mx_Sn _ _ 18 (mx_iinc 4 1 21) from sn_63 18) rfl rfl rfl rfl ?_
          refine mx_J.step (sn_63 21) (fun _ _ => rfl) ?_
          exact ih1 (Z 27 w1_3) (w1_4 + 1) (by omega) (by omega) (by omega)
    exact c5 (Int.toNat ((((x1 - 0).toNat : Nat) : Int)) + 1) x0 0 (by omega) (by omega) (by omega)
theorem ct_63_25 {l : Launch} {D : va_G} {b0 : Nat} {ad : Nat → Nat} {Hb : Heap} {tau : Nat → Int64} {d n s : Nat} {S : Nat → xS} {Z : xZ} {h : mx_H} (hx : XH n s S Z h) (hG : GI n S Z)  {x0 x1 : Int} (p0 : 0 ≤ x0 ∧ x0 ≤ 384) (p1 : (-2147483648) ≤ x1 ∧ x1 ≤ 2147483647) : ∃ z : Int, mx_Ca (tB l D b0 ad Hb tau) (d + 1) 63 [.ref 25, xI x0, xI x1] h (some (xI z), h) ∧ (0 ≤ z ∧ z ≤ 18) := by
  obtain ⟨r, hca, z, e, hp⟩ := Jmt (B := tB l D b0 ad Hb tau) (M := mt_63) (mi := 63) (as := [.ref 25, xI x0, xI x1]) (d := d + 0) (ls := [some (.ref 25), some (xI x0), some (xI x1), none, none]) rfl rfl rfl rfl rfl rfl (cw_63_25 (l := l) (D := D) (b0 := b0) (ad := ad) (Hb := Hb) (tau := tau) (d := d) (Post := fun r => ∃ z : Int, r = (some (xI z), h) ∧ (0 ≤ z ∧ z ≤ 18)) hx hG p0 p1 (fun z hz => ⟨z, rfl, hz⟩))
  subst e; exact ⟨z, hca, hp⟩
set_option maxRecDepth 100000 in
theorem cw_65_25 {l : Launch} {D : va_G} {b0 : Nat} {ad : Nat → Nat} {Hb : Heap} {tau : Nat → Int64} {d n s : Nat} {S : Nat → xS} {Z : xZ} {h : mx_H} {Post : mx_R → Prop} (hx : XH n s S Z h) (hG : GI n S Z)  {x0 x1 x2 : Int} (p0 : (-2147483648) ≤ x0 ∧ x0 ≤ 2147483647) (p1 : 1 ≤ x1 ∧ x1 ≤ 18) (p2 : 0 ≤ x2 ∧ x2 ≤ 385) (hP : ∀ (z : Int) (Z' : xZ) (h' : mx_H), XH n s S Z' h' → GI n S Z' → fr' [(14, (-1)), (16, (-1)), (17, (-1)), (18, (-1)), (19, (-1))] Z Z' → 0 ≤ z ∧ z ≤ 1 → Post (some (xI z), h')) : mx_J (tB l D b0 ad Hb tau) mt_65 (d + 4) 0 [some (.ref 25), some (xI x0), some (xI x1), some (xI x2), none, none, none] [] h Post := by
    have a7 : 7 < n := lt83 (GI_n hG) rfl
    have s7 : S 7 = .inl (0, [2, 2, 2, 2, 0, 0]) := GI_s hG 7 rfl
    have a12 : 12 < n := lt83 (GI_n hG) rfl
    have s12 : S 12 = .inl (4, [2, 2, 0, 2, 2, 2, 2, 2, 2]) := GI_s hG 12 rfl
    have a25 : 25 < n := lt83 (GI_n hG) rfl
    have s25 : S 25 = .inl (8, [2, 2, 2, 2, 2, 2, 2, 2, 0]) := GI_s hG 25 rfl
    have a29 : 29 < n := lt83 (GI_n hG) rfl
    have s29 : S 29 = .inr (.int, 385, 0) := GI_s hG 29 rfl
    refine mx_J.step (sn_65 0) (fun _ _ => rfl) ?_
    refine JgetR (g := 0) (b := 7) hx (show mx_Sn _ _ 1 (mx_getf 8 0 4) from sn_65 1) a25 s25 rfl rfl (hG.prr 25 0 rfl) ?_
    refine mx_J.step (sn_65 4) (fun _ _ => rfl) ?_
    refine JcI (z := 0) (show mx_Sn _ _ 5 (mx_const (.int 0) 6) from sn_65 5) rfl ?_
    have b3 : 0 ≤ Z 9 (x0 * 18 + 0) ∧ Z 9 (x0 * 18 + 0) ≤ 18 := hG.pr 9 (x0 * 18 + 0)
    have b4 : 0 ≤ Z 10 x0 ∧ Z 10 x0 ≤ 18 := hG.pr 10 x0
    have b5 : 0 ≤ Z 7 5 ∧ Z 7 5 ≤ 385 := hG.pr 7 5
    obtain ⟨z2, hc2, b2⟩ := ct_6_7 (d := d + 2) (l := l) (D := D) (b0 := b0) (ad := ad) (Hb := Hb) (tau := tau) hx hG (show (-2147483648) ≤ x0 ∧ x0 ≤ 2147483647 by omega) (show (-2147483648) ≤ 0 ∧ 0 ≤ 2147483647 by omega)
    refine Jcv hx (show mx_Sn _ _ 6 (mx_callv 6 3 0 9) from sn_65 6) a7 s7 hc2 rfl rfl rfl ?_
    refine mx_J.step (ls2 := [some (.ref 25), some (xI x0), some (xI x1), some (xI x2), some (xI z2), none, none]) (sn_65 9) (fun _ _ => rfl) ?_
    refine JcI (z := 0) (show mx_Sn _ _ 11 (mx_const (.int 0) 12) from sn_65 11) rfl ?_
    refine mx_J.step (ls2 := [some (.ref 25), some (xI x0), some (xI x1), some (xI x2), some (xI z2), some (xI 0), none]) (sn_65 12) (fun _ _ => rfl) ?_
    have c14 : ∀ (m6 : Nat) (w6_5 : Int) (u6_6 : Option Value) (Z7 : xZ) (h7 : mx_H), 19 - w6_5 < (m6 : Int) → 0 ≤ w6_5 ∧ w6_5 ≤ 19 → XH n s S Z7 h7 → GI n S Z7 → fr' [(14, (-1)), (16, (-1)), (17, (-1)), (18, (-1)), (19, (-1))] Z Z7 → mx_J (tB l D b0 ad Hb tau) mt_65 (d + 4) 14 [some (.ref 25), some (xI x0), some (xI x1), some (xI x2), some (xI z2), some (xI w6_5), u6_6] [] h7 Post := by
      intro m6
      induction m6 with
      | zero => intro w6_5 u6_6 Z7 h7 q6 f6_0 hx7 hG7 hf7; exact absurd q6 (by omega)
      | succ m6 ih6 =>
        intro w6_5 u6_6 Z7 h7 q6 f6_0 hx7 hG7 hf7
        refine mx_J.step (sn_65 14) (fun _ _ => rfl) ?_
        refine mx_J.step (sn_65 16) (fun _ _ => rfl) ?_
        refine Jicmp_gt (show mx_Sn _ _ 18 (mx_icmp_gt 74 21) from sn_65 18) (by omega) (by omega) (fun q8 => ?_) (fun q8 => ?_)
        · skip
          refine JcI (z := 1) (show mx_Sn _ _ 74 (mx_const (.int 1) 75) from sn_65 74) rfl ?_
          exact mx_J.ret (show mx_Sn _ _ 75 (mx_zret) from sn_65 75) (fun _ _ => zr_ok (by omega)) (hP 1 Z7 h7 hx7 hG7 (fr_tr (M := [(14, (-1)), (16, (-1)), (17, (-1)), (18, (-1)), (19, (-1))]) fr_rf (hf7) (M1 := []) rfl rfl) (by omega))
        · skip
          refine mx_J.step (sn_65 21) (fun _ _ => rfl) ?_
          refine JgetR (g := 1) (b := 12) hx7 (show mx_Sn _ _ 22 (mx_getf 8 1 25) from sn_65 22) a25 s25 rfl rfl (hG7.prr 25 1 rfl) ?_
          refine mx_J.step (sn_65 25) (fun _ _ => rfl) ?_
          refine mx_J.step (sn_65 26) (fun _ _ => rfl) ?_
          obtain ⟨z10, Z10, h10, hc10, hx10, hG10, hf10, b10⟩ := ct_26_12 (d := d + 0) (l := l) (D := D) (b0 := b0) (ad := ad) (Hb := Hb) (tau := tau) hx7 hG7 (show (-2147483648) ≤ x0 ∧ x0 ≤ 2147483647 by omega) (show (-2147483648) ≤ w6_5 ∧ w6_5 ≤ 2147483647 by omega)
          refine Jcv hx7 (show mx_Sn _ _ 28 (mx_callv 26 3 4 31) from sn_65 28) a12 s12 hc10 rfl rfl rfl ?_
          refine mx_J.step (ls2 := [some (.ref 25), some (xI x0), some (xI x1), some (xI x2), some (xI z2), some (xI w6_5), some (xI z10)]) (sn_65 31) (fun _ _ => rfl) ?_
          refine mx_J.step (sn_65 33) (fun _ _ => rfl) ?_
          have c68 : mx_J (tB l D b0 ad Hb tau) mt_65 (d + 4) 68 [some (.ref 25), some (xI x0), some (xI x1), some (xI x2), some (xI z2), some (xI w6_5), some (xI z10)] [] h10 Post := by
            refine Jiinc (z := w6_5) (cz := 1) (ls2 := [some (.ref 25), some (xI x0), some (xI x1), some (xI x2), some (xI z2), some (xI (w6_5 + 1)), some (xI z10)]) (show mx_Sn _ _ 68 (mx_iinc 5 1 71) from sn_65 68) rfl rfl rfl rfl ?_
            refine mx_J.step (sn_65 71) (fun _ _ => rfl) ?_
            exact ih6 (w6_5 + 1) (some (xI z10)) Z10 h10 (by omega) (by omega) hx10 hG10 (fr_tr (M := [(14, (-1)), (16, (-1)), (17, (-1)), (18, (-1)), (19, (-1))]) (fr_tr (M := [(14, (-1)), (16, (-1)), (17, (-1)), (18, (-1)), (19, (-1))]) fr_rf (hf7) (M1 := []) rfl rfl) (hf10) rfl rfl)
          refine Jif_lt (show mx_Sn _ _ 35 (mx_if_lt 68 38) from sn_65 35) (by omega) (fun q12 => ?_) (fun q12 => ?_)
          · skip
            exact c68 
          · skip
            refine mx_J.step (sn_65 38) (fun _ _ => rfl) ?_
            refine JgetR (g := 0) (b := 7) hx10 (show mx_Sn _ _ 39 (mx_getf 8 0 42) from sn_65 39) a25 s25 rfl rfl (hG10.prr 25 0 rfl) ?_
            refine mx_J.step (sn_65 42) (fun _ _ => rfl) ?_
            refine JcI (z := 0) (show mx_Sn _ _ 44 (mx_const (.int 0) 45) from sn_65 44) rfl ?_
            have eq15 : Z10 9 (z10 * 18 + 0) = Z 9 (z10 * 18 + 0) := ((hf10 9 (z10 * 18 + 0) rfl).trans (hf7 9 (z10 * 18 + 0) rfl))
            have b16 : 0 ≤ Z 9 (z10 * 18 + 0) ∧ Z 9 (z10 * 18 + 0) ≤ 18 := hG.pr 9 (z10 * 18 + 0)
            have eq17 : Z10 10 z10 = Z 10 z10 := ((hf10 10 z10 rfl).trans (hf7 10 z10 rfl))
            have b18 : 0 ≤ Z 10 z10 ∧ Z 10 z10 ≤ 18 := hG.pr 10 z10
            have eq19 : Z10 7 5 = Z 7 5 := ((hf10 7 5 rfl).trans (hf7 7 5 rfl))
            obtain ⟨z14, hc14, b14⟩ := ct_6_7 (d := d + 2) (l := l) (D := D) (b0 := b0) (ad := ad) (Hb := Hb) (tau := tau) hx10 hG10 (show (-2147483648) ≤ z10 ∧ z10 ≤ 2147483647 by omega) (show (-2147483648) ≤ 0 ∧ 0 ≤ 2147483647 by omega)
            try rw [eq15] at b14
            try rw [eq17] at b14
            try rw [eq19] at b14
            refine Jcv hx10 (show mx_Sn _ _ 45 (mx_callv 6 3 0 48) from sn_65 45) a7 s7 hc14 rfl rfl rfl ?_
            refine mx_J.step (sn_65 48) (fun _ _ => rfl) ?_
            refine Jicmp_gt (show mx_Sn _ _ 49 (mx_icmp_gt 68 52) from sn_65 49) (by omega) (by omega) (fun q20 => ?_) (fun q20 => ?_)
            · skip
              exact c68 
            · skip
              refine mx_J.step (sn_65 52) (fun _ _ => rfl) ?_
              refine JgetR (g := 5) (b := 29) hx10 (show mx_Sn _ _ 53 (mx_getf 8 5 56) from sn_65 53) a25 s25 rfl rfl (hG10.prr 25 5 rfl) ?_
              refine mx_J.step (sn_65 56) (fun _ _ => rfl) ?_
              have b22 : (-2147483648) ≤ Z 29 z10 ∧ Z 29 z10 ≤ 2147483647 := hG.pr 29 z10
              refine JialdI (z := Z 29 z10) hx10 (show mx_Sn _ _ 58 (mx_iald 59) from sn_65 58) a29 s29 (by omega) ((hf10 29 z10 rfl).trans (hf7 29 z10 rfl)) ?_
              refine mx_J.step (sn_65 59) (fun _ _ => rfl) ?_
              obtain ⟨z23, hc23, b23⟩ := ct_66_ (d := d + 3) (l := l) (D := D) (b0 := b0) (ad := ad) (Hb := Hb) (tau := tau) hx10 hG10 (show (-2147483648) ≤ Z 29 z10 ∧ Z 29 z10 ≤ 2147483647 by omega) (show (-2147483648) ≤ x2 ∧ x2 ≤ 2147483647 by omega)
              refine Jcs (show mx_Sn _ _ 60 (mx_calls 66 2 63) from sn_65 60) hc23 rfl rfl rfl ?_
              refine Jif_ne (show mx_Sn _ _ 63 (mx_if_ne 68 66) from sn_65 63) (by omega) (fun q24 => ?_) (fun q24 => ?_)
              · skip
                exact c68 
              · skip
                refine JcI (z := 0) (show mx_Sn _ _ 66 (mx_const (.int 0) 67) from sn_65 66) rfl ?_
                exact mx_J.ret (show mx_Sn _ _ 67 (mx_zret) from sn_65 67) (fun _ _ => zr_ok (by omega)) (hP 0 Z10 h10 hx10 hG10 (fr_tr (M := [(14, (-1)), (16, (-1)), (17, (-1)), (18, (-1)), (19, (-1))]) (fr_tr (M := [(14, (-1)), (16, (-1)), (17, (-1)), (18, (-1)), (19, (-1))]) fr_rf (hf7) (M1 := []) rfl rfl) (hf10) rfl rfl) (by omega))
    exact c14 (Int.toNat (19 - 0) + 1) 0 none Z h (by omega) (by omega) hx hG fr_rf
theorem ct_65_25 {l : Launch} {D : va_G} {b0 : Nat} {ad : Nat → Nat} {Hb : Heap} {tau : Nat → Int64} {d n s : Nat} {S : Nat → xS} {Z : xZ} {h : mx_H} (hx : XH n s S Z h) (hG : GI n S Z)  {x0 x1 x2 : Int} (p0 : (-2147483648) ≤ x0 ∧ x0 ≤ 2147483647) (p1 : 1 ≤ x1 ∧ x1 ≤ 18) (p2 : 0 ≤ x2 ∧ x2 ≤ 385) : ∃ (z : Int) (Z' : xZ) (h' : mx_H), mx_Ca (tB l D b0 ad Hb tau) (d + 5) 65 [.ref 25, xI x0, xI x1, xI x2] h (some (xI z), h') ∧ XH n s S Z' h' ∧ GI n S Z' ∧ fr' [(14, (-1)), (16, (-1)), (17, (-1)), (18, (-1)), (19, (-1))] Z Z' ∧ (0 ≤ z ∧ z ≤ 1) := by
  obtain ⟨r, hca, z, Z', h', e, q⟩ := Jmt (B := tB l D b0 ad Hb tau) (M := mt_65) (mi := 65) (as := [.ref 25, xI x0, xI x1, xI x2]) (d := d + 4) (ls := [some (.ref 25), some (xI x0), some (xI x1), some (xI x2), none, none, none]) rfl rfl rfl rfl rfl rfl (cw_65_25 (l := l) (D := D) (b0 := b0) (ad := ad) (Hb := Hb) (tau := tau) (d := d) (Post := fun r => ∃ (z : Int) (Z' : xZ) (h' : mx_H), r = (some (xI z), h') ∧ XH n s S Z' h' ∧ GI n S Z' ∧ fr' [(14, (-1)), (16, (-1)), (17, (-1)), (18, (-1)), (19, (-1))] Z Z' ∧ (0 ≤ z ∧ z ≤ 1)) hx hG p0 p1 p2 (fun z Z' h' q1 q2 q3 q4 => ⟨z, Z', h', rfl, q1, q2, q3, q4⟩))
  subst e; exact ⟨z, Z', h', hca, q⟩
set_option maxRecDepth 100000 in
theorem cw_64_25 {l : Launch} {D : va_G} {b0 : Nat} {ad : Nat → Nat} {Hb : Heap} {tau : Nat → Int64} {d n s : Nat} {S : Nat → xS} {Z : xZ} {h : mx_H} {Post : mx_R → Prop} (hx : XH n s S Z h) (hG : GI n S Z)  {x0 x1 : Int} (p0 : 0 ≤ x0 ∧ x0 ≤ 384) (p1 : 1 ≤ x1 ∧ x1 ≤ 18) (hP : ∀ (z : Int) (Z' : xZ) (h' : mx_H), XH n s S Z' h' → GI n S Z' → fr' [(14, (-1)), (16, (-1)), (17, (-1)), (18, (-1)), (19, (-1)), (29, (-1))] Z Z' → (-2147483648) ≤ z ∧ z ≤ 2147483647 → Post (some (xI z), h')) : mx_J (tB l D b0 ad Hb tau) mt_64 (d + 5) 0 [some (.ref 25), some (xI x0), some (xI x1), none, none, none] [] h Post := by
    have a7 : 7 < n := lt83 (GI_n hG) rfl
    have s7 : S 7 = .inl (0, [2, 2, 2, 2, 0, 0]) := GI_s hG 7 rfl
    have a25 : 25 < n := lt83 (GI_n hG) rfl
    have s25 : S 25 = .inl (8, [2, 2, 2, 2, 2, 2, 2, 2, 0]) := GI_s hG 25 rfl
    have a29 : 29 < n := lt83 (GI_n hG) rfl
    have s29 : S 29 = .inr (.int, 385, 0) := GI_s hG 29 rfl
    refine mx_J.step (sn_64 0) (fun _ _ => rfl) ?_
    refine JgetR (g := 5) (b := 29) hx (show mx_Sn _ _ 1 (mx_getf 8 5 4) from sn_64 1) a25 s25 rfl rfl (hG.prr 25 5 rfl) ?_
    refine JcI (z := (-1)) (show mx_Sn _ _ 4 (mx_const (.int (-1)) 5) from sn_64 4) rfl ?_
    obtain ⟨Z2, h2, hc2, hx2, hG2, hf2⟩ := ct_284_29_m1 (d := d + 4) (l := l) (D := D) (b0 := b0) (ad := ad) (Hb := Hb) (tau := tau) hx hG 
    refine Jcs0 (show mx_Sn _ _ 5 (mx_calls 284 2 8) from sn_64 5) hc2 rfl rfl rfl ?_
    refine JcI (z := 1) (show mx_Sn _ _ 8 (mx_const (.int 1) 9) from sn_64 8) rfl ?_
    refine mx_J.step (ls2 := [some (.ref 25), some (xI x0), some (xI x1), some (xI 1), none, none]) (sn_64 9) (fun _ _ => rfl) ?_
    refine JcI (z := 0) (show mx_Sn _ _ 10 (mx_const (.int 0) 11) from sn_64 10) rfl ?_
    refine mx_J.step (ls2 := [some (.ref 25), some (xI x0), some (xI x1), some (xI 1), some (xI 0), none]) (sn_64 11) (fun _ _ => rfl) ?_
    have c13 : ∀ (m3 : Nat) (w3_3 : Int) (w3_4 : Int) (u3_5 : Option Value) (Z4 : xZ) (h4 : mx_H), 386 - w3_4 < (m3 : Int) → 0 ≤ w3_3 ∧ w3_3 ≤ 1 → 0 ≤ w3_4 ∧ w3_4 ≤ 386 → XH n s S Z4 h4 → GI n S Z4 → fr' [(14, (-1)), (16, (-1)), (17, (-1)), (18, (-1)), (19, (-1)), (29, (-1))] Z2 Z4 → mx_J (tB l D b0 ad Hb tau) mt_64 (d + 5) 13 [some (.ref 25), some (xI x0), some (xI x1), some (xI w3_3), some (xI w3_4), u3_5] [] h4 Post := by
      intro m3
      induction m3 with
      | zero => intro w3_3 w3_4 u3_5 Z4 h4 q3 f3_0 f3_1 hx4 hG4 hf4; exact absurd q3 (by omega)
      | succ m3 ih3 =>
        intro w3_3 w3_4 u3_5 Z4 h4 q3 f3_0 f3_1 hx4 hG4 hf4
        refine mx_J.step (sn_64 13) (fun _ _ => rfl) ?_
        refine JcI (z := 385) (show mx_Sn _ _ 15 (mx_const (.int 385) 18) from sn_64 15) rfl ?_
        have c103 : mx_J (tB l D b0 ad Hb tau) mt_64 (d + 5) 103 [some (.ref 25), some (xI x0), some (xI x1), some (xI w3_3), some (xI w3_4), u3_5] [] h4 Post := by
          refine JcI (z := (-1)) (show mx_Sn _ _ 103 (mx_const (.int (-1)) 104) from sn_64 103) rfl ?_
          exact mx_J.ret (sn_64 104) (fun _ _ => rfl) (hP (-1) Z4 h4 hx4 hG4 (fr_tr (M := [(14, (-1)), (16, (-1)), (17, (-1)), (18, (-1)), (19, (-1)), (29, (-1))]) (fr_tr (M := [(14, (-1)), (16, (-1)), (17, (-1)), (18, (-1)), (19, (-1)), (29, (-1))]) fr_rf (hf2) (M1 := []) rfl rfl) (hf4) rfl rfl) (by omega))
        refine Jicmp_gt (show mx_Sn _ _ 18 (mx_icmp_gt 103 21) from sn_64 18) (by omega) (by omega) (fun q6 => ?_) (fun q6 => ?_)
        · skip
          exact c103 
        · skip
          refine mx_J.step (sn_64 21) (fun _ _ => rfl) ?_
          refine Jif_eq (show mx_Sn _ _ 22 (mx_if_eq 103 25) from sn_64 22) (by omega) (fun q7 => ?_) (fun q7 => ?_)
          · skip
            exact c103 
          · skip
            refine JcI (z := 0) (show mx_Sn _ _ 25 (mx_const (.int 0) 26) from sn_64 25) rfl ?_
            refine mx_J.step (ls2 := [some (.ref 25), some (xI x0), some (xI x1), some (xI 0), some (xI w3_4), u3_5]) (sn_64 26) (fun _ _ => rfl) ?_
            refine JcI (z := 0) (show mx_Sn _ _ 27 (mx_const (.int 0) 28) from sn_64 27) rfl ?_
            refine mx_J.step (ls2 := [some (.ref 25), some (xI x0), some (xI x1), some (xI 0), some (xI w3_4), some (xI 0)]) (sn_64 28) (fun _ _ => rfl) ?_
            have c30 : ∀ (m8 : Nat) (w8_3 : Int) (w8_5 : Int) (Z9 : xZ) (h9 : mx_H), 385 - w8_5 < (m8 : Int) → 0 ≤ w8_3 ∧ w8_3 ≤ 1 → 0 ≤ w8_5 ∧ w8_5 ≤ 385 → XH n s S Z9 h9 → GI n S Z9 → fr' [(14, (-1)), (16, (-1)), (17, (-1)), (18, (-1)), (19, (-1)), (29, (-1))] Z4 Z9 → mx_J (tB l D b0 ad Hb tau) mt_64 (d + 5) 30 [some (.ref 25), some (xI x0), some (xI x1), some (xI w8_3), some (xI w3_4), some (xI w8_5)] [] h9 Post := by
              intro m8
              induction m8 with
              | zero => intro w8_3 w8_5 Z9 h9 q8 f8_0 f8_1 hx9 hG9 hf9; exact absurd q8 (by omega)
              | succ m8 ih8 =>
                intro w8_3 w8_5 Z9 h9 q8 f8_0 f8_1 hx9 hG9 hf9
                refine mx_J.step (sn_64 30) (fun _ _ => rfl) ?_
                refine mx_J.step (sn_64 32) (fun _ _ => rfl) ?_
                refine JgetR (g := 0) (b := 7) hx9 (show mx_Sn _ _ 33 (mx_getf 8 0 36) from sn_64 33) a25 s25 rfl rfl (hG9.prr 25 0 rfl) ?_
                have b12 : 0 ≤ Z 7 5 ∧ Z 7 5 ≤ 385 := hG.pr 7 5
                refine JgetI (g := 5) (z := Z 7 5) hx9 (show mx_Sn _ _ 36 (mx_getf 0 5 39) from sn_64 36) a7 s7 rfl rfl ((hf9 7 5 rfl).trans ((hf4 7 5 rfl).trans (hf2 7 5 rfl))) ?_
                refine Jicmp_ge (show mx_Sn _ _ 39 (mx_icmp_ge 81 42) from sn_64 39) (by omega) (by omega) (fun q13 => ?_) (fun q13 => ?_)
                · skip
                  refine mx_J.step (sn_64 81) (fun _ _ => rfl) ?_
                  refine JgetR (g := 5) (b := 29) hx9 (show mx_Sn _ _ 82 (mx_getf 8 5 85) from sn_64 82) a25 s25 rfl rfl (hG9.prr 25 5 rfl) ?_
                  refine mx_J.step (sn_64 85) (fun _ _ => rfl) ?_
                  have b15 : (-2147483648) ≤ Z9 29 x0 ∧ Z9 29 x0 ≤ 2147483647 := hG9.pr 29 x0
                  refine JialdI (z := Z9 29 x0) hx9 (show mx_Sn _ _ 86 (mx_iald 87) from sn_64 86) a29 s29 (by omega) rfl ?_
                  refine Jif_lt (show mx_Sn _ _ 87 (mx_if_lt 97 90) from sn_64 87) (by omega) (fun q16 => ?_) (fun q16 => ?_)
                  · skip
                    refine Jiinc (z := w3_4) (cz := 1) (ls2 := [some (.ref 25), some (xI x0), some (xI x1), some (xI w8_3), some (xI (w3_4 + 1)), some (xI w8_5)]) (show mx_Sn _ _ 97 (mx_iinc 4 1 100) from sn_64 97) rfl rfl rfl rfl ?_
                    refine mx_J.step (sn_64 100) (fun _ _ => rfl) ?_
                    exact ih3 w8_3 (w3_4 + 1) (some (xI w8_5)) Z9 h9 (by omega) (by omega) (by omega) hx9 hG9 (fr_tr (M := [(14, (-1)), (16, (-1)), (17, (-1)), (18, (-1)), (19, (-1)), (29, (-1))]) (fr_tr (M := [(14, (-1)), (16, (-1)), (17, (-1)), (18, (-1)), (19, (-1)), (29, (-1))]) fr_rf (hf4) (M1 := []) rfl rfl) (hf9) rfl rfl)
                  · skip
                    refine mx_J.step (sn_64 90) (fun _ _ => rfl) ?_
                    refine JgetR (g := 5) (b := 29) hx9 (show mx_Sn _ _ 91 (mx_getf 8 5 94) from sn_64 91) a25 s25 rfl rfl (hG9.prr 25 5 rfl) ?_
                    refine mx_J.step (sn_64 94) (fun _ _ => rfl) ?_
                    refine JialdI (z := Z9 29 x0) hx9 (show mx_Sn _ _ 95 (mx_iald 96) from sn_64 95) a29 s29 (by omega) rfl ?_
                    exact mx_J.ret (sn_64 96) (fun _ _ => rfl) (hP (Z9 29 x0) Z9 h9 hx9 hG9 (fr_tr (M := [(14, (-1)), (16, (-1)), (17, (-1)), (18, (-1)), (19, (-1)), (29, (-1))]) (fr_tr (M := [(14, (-1)), (16, (-1)), (17, (-1)), (18, (-1)), (19, (-1)), (29, (-1))]) (fr_tr (M := [(14, (-1)), (16, (-1)), (17, (-1)), (18, (-1)), (19, (-1)), (29, (-1))]) fr_rf (hf2) (M1 := []) rfl rfl) (hf4) rfl rfl) (hf9) rfl rfl) (by omega))
                · skip
                  refine mx_J.step (sn_64 42) (fun _ _ => rfl) ?_
                  refine JgetR (g := 5) (b := 29) hx9 (show mx_Sn _ _ 43 (mx_getf 8 5 46) from sn_64 43) a25 s25 rfl rfl (hG9.prr 25 5 rfl) ?_
                  refine mx_J.step (sn_64 46) (fun _ _ => rfl) ?_
                  have b19 : (-2147483648) ≤ Z9 29 w8_5 ∧ Z9 29 w8_5 ≤ 2147483647 := hG9.pr 29 w8_5
                  refine JialdI (z := Z9 29 w8_5) hx9 (show mx_Sn _ _ 48 (mx_iald 49) from sn_64 48) a29 s29 (by omega) rfl ?_
                  have c75 : ∀ (w20_3 : Int) (Z21 : xZ) (h21 : mx_H), 0 ≤ w20_3 ∧ w20_3 ≤ 1 → XH n s S Z21 h21 → GI n S Z21 → fr' [(14, (-1)), (16, (-1)), (17, (-1)), (18, (-1)), (19, (-1)), (29, (-1))] Z9 Z21 → mx_J (tB l D b0 ad Hb tau) mt_64 (d + 5) 75 [some (.ref 25), some (xI x0), some (xI x1), some (xI w20_3), some (xI w3_4), some (xI w8_5)] [] h21 Post := by
                    intro w20_3 Z21 h21 f20_0 hx21 hG21 hf21
                    refine Jiinc (z := w8_5) (cz := 1) (ls2 := [some (.ref 25), some (xI x0), some (xI x1), some (xI w20_3), some (xI w3_4), some (xI (w8_5 + 1))]) (show mx_Sn _ _ 75 (mx_iinc 5 1 78) from sn_64 75) rfl rfl rfl rfl ?_
                    refine mx_J.step (sn_64 78) (fun _ _ => rfl) ?_
                    exact ih8 w20_3 (w8_5 + 1) Z21 h21 (by omega) (by omega) (by omega) hx21 hG21 (fr_tr (M := [(14, (-1)), (16, (-1)), (17, (-1)), (18, (-1)), (19, (-1)), (29, (-1))]) (fr_tr (M := [(14, (-1)), (16, (-1)), (17, (-1)), (18, (-1)), (19, (-1)), (29, (-1))]) fr_rf (hf9) (M1 := []) rfl rfl) (hf21) rfl rfl)
                  refine Jif_ge (show mx_Sn _ _ 49 (mx_if_ge 75 52) from sn_64 49) (by omega) (fun q22 => ?_) (fun q22 => ?_)
                  · skip
                    exact c75 w8_3 Z9 h9 (by omega) hx9 hG9 fr_rf
                  · skip
                    refine mx_J.step (sn_64 52) (fun _ _ => rfl) ?_
                    refine mx_J.step (sn_64 53) (fun _ _ => rfl) ?_
                    refine mx_J.step (sn_64 55) (fun _ _ => rfl) ?_
                    refine mx_J.step (sn_64 56) (fun _ _ => rfl) ?_
                    obtain ⟨z23, Z23, h23, hc23, hx23, hG23, hf23, b23⟩ := ct_65_25 (d := d + 0) (l := l) (D := D) (b0 := b0) (ad := ad) (Hb := Hb) (tau := tau) hx9 hG9 (show (-2147483648) ≤ w8_5 ∧ w8_5 ≤ 2147483647 by omega) (show 1 ≤ x1 ∧ x1 ≤ 18 by omega) (show 0 ≤ w3_4 ∧ w3_4 ≤ 385 by omega)
                    refine Jcv hx9 (show mx_Sn _ _ 58 (mx_callv 65 4 8 61) from sn_64 58) a25 s25 hc23 rfl rfl rfl ?_
                    refine Jif_eq (show mx_Sn _ _ 61 (mx_if_eq 75 64) from sn_64 61) (by omega) (fun q24 => ?_) (fun q24 => ?_)
                    · skip
                      exact c75 w8_3 Z23 h23 (by omega) hx23 hG23 (fr_tr (M := [(14, (-1)), (16, (-1)), (17, (-1)), (18, (-1)), (19, (-1)), (29, (-1))]) fr_rf (hf23) (M1 := []) rfl rfl)
                    · skip
                      refine mx_J.step (sn_64 64) (fun _ _ => rfl) ?_
                      refine JgetR (g := 5) (b := 29) hx23 (show mx_Sn _ _ 65 (mx_getf 8 5 68) from sn_64 65) a25 s25 rfl rfl (hG23.prr 25 5 rfl) ?_
                      refine mx_J.step (sn_64 68) (fun _ _ => rfl) ?_
                      refine mx_J.step (sn_64 70) (fun _ _ => rfl) ?_
                      refine JiastI hx23 (show mx_Sn _ _ 72 (mx_iast 1 73) from sn_64 72) a29 s29 rfl (by omega) (fun Z26 h26 hx26 hE26 => ?_)
                      have hG26 := GI_up hG23 hE26 (show (-2147483648) ≤ w3_4 ∧ w3_4 ≤ 2147483647 by omega) trivial rfl
                      refine JcI (z := 1) (show mx_Sn _ _ 73 (mx_const (.int 1) 74) from sn_64 73) rfl ?_
                      refine mx_J.step (ls2 := [some (.ref 25), some (xI x0), some (xI x1), some (xI 1), some (xI w3_4), some (xI w8_5)]) (sn_64 74) (fun _ _ => rfl) ?_
                      exact c75 1 Z26 h26 (by omega) hx26 hG26 (fr_tr (M := [(14, (-1)), (16, (-1)), (17, (-1)), (18, (-1)), (19, (-1)), (29, (-1))]) (fr_tr (M := [(14, (-1)), (16, (-1)), (17, (-1)), (18, (-1)), (19, (-1)), (29, (-1))]) fr_rf (hf23) (M1 := []) rfl rfl) (fr_ua hE26) rfl rfl)
            exact c30 (Int.toNat (385 - 0) + 1) 0 0 Z4 h4 (by omega) (by omega) (by omega) hx4 hG4 fr_rf
    exact c13 (Int.toNat (386 - 0) + 1) 1 0 none Z2 h2 (by omega) (by omega) (by omega) hx2 hG2 fr_rf
theorem ct_64_25 {l : Launch} {D : va_G} {b0 : Nat} {ad : Nat → Nat} {Hb : Heap} {tau : Nat → Int64} {d n s : Nat} {S : Nat → xS} {Z : xZ} {h : mx_H} (hx : XH n s S Z h) (hG : GI n S Z)  {x0 x1 : Int} (p0 : 0 ≤ x0 ∧ x0 ≤ 384) (p1 : 1 ≤ x1 ∧ x1 ≤ 18) : ∃ (z : Int) (Z' : xZ) (h' : mx_H), mx_Ca (tB l D b0 ad Hb tau) (d + 6) 64 [.ref 25, xI x0, xI x1] h (some (xI z), h') ∧ XH n s S Z' h' ∧ GI n S Z' ∧ fr' [(14, (-1)), (16, (-1)), (17, (-1)), (18, (-1)), (19, (-1)), (29, (-1))] Z Z' ∧ ((-2147483648) ≤ z ∧ z ≤ 2147483647) := by
  obtain ⟨r, hca, z, Z', h', e, q⟩ := Jmt (B := tB l D b0 ad Hb tau) (M := mt_64) (mi := 64) (as := [.ref 25, xI x0, xI x1]) (d := d + 5) (ls := [some (.ref 25), some (xI x0), some (xI x1), none, none, none]) rfl rfl rfl rfl rfl rfl (cw_64_25 (l := l) (D := D) (b0 := b0) (ad := ad) (Hb := Hb) (tau := tau) (d := d) (Post := fun r => ∃ (z : Int) (Z' : xZ) (h' : mx_H), r = (some (xI z), h') ∧ XH n s S Z' h' ∧ GI n S Z' ∧ fr' [(14, (-1)), (16, (-1)), (17, (-1)), (18, (-1)), (19, (-1)), (29, (-1))] Z Z' ∧ ((-2147483648) ≤ z ∧ z ≤ 2147483647)) hx hG p0 p1 (fun z Z' h' q1 q2 q3 q4 => ⟨z, Z', h', rfl, q1, q2, q3, q4⟩))
  subst e; exact ⟨z, Z', h', hca, q⟩
set_option maxRecDepth 100000 in
theorem cw_68_25 {l : Launch} {D : va_G} {b0 : Nat} {ad : Nat → Nat} {Hb : Heap} {tau : Nat → Int64} {d n s : Nat} {S : Nat → xS} {Z : xZ} {h : mx_H} {Post : mx_R → Prop} (hx : XH n s S Z h) (hG : GI n S Z)  {x0 x1 : Int} (p0 : (-2147483648) ≤ x0 ∧ x0 ≤ 2147483647) (p1 : (-2147483648) ≤ x1 ∧ x1 ≤ 2147483647) (hP : ∀ (z : Int) (Z' : xZ) (h' : mx_H), XH n s S Z' h' → GI n S Z' → fr' [(14, (-1)), (16, (-1)), (17, (-1)), (18, (-1)), (19, (-1))] Z Z' → (-1) ≤ z ∧ z ≤ 18 → Post (some (xI z), h')) : mx_J (tB l D b0 ad Hb tau) mt_68 (d + 4) 0 [some (.ref 25), some (xI x0), some (xI x1), none, none, none] [] h Post := by
    have a7 : 7 < n := lt83 (GI_n hG) rfl
    have s7 : S 7 = .inl (0, [2, 2, 2, 2, 0, 0]) := GI_s hG 7 rfl
    have a12 : 12 < n := lt83 (GI_n hG) rfl
    have s12 : S 12 = .inl (4, [2, 2, 0, 2, 2, 2, 2, 2, 2]) := GI_s hG 12 rfl
    have a25 : 25 < n := lt83 (GI_n hG) rfl
    have s25 : S 25 = .inl (8, [2, 2, 2, 2, 2, 2, 2, 2, 0]) := GI_s hG 25 rfl
    have a31 : 31 < n := lt83 (GI_n hG) rfl
    have s31 : S 31 = .inr (.int, 385, 0) := GI_s hG 31 rfl
    refine mx_J.step (sn_68 0) (fun _ _ => rfl) ?_
    refine JgetR (g := 0) (b := 7) hx (show mx_Sn _ _ 1 (mx_getf 8 0 4) from sn_68 1) a25 s25 rfl rfl (hG.prr 25 0 rfl) ?_
    refine mx_J.step (sn_68 4) (fun _ _ => rfl) ?_
    refine JcI (z := 0) (show mx_Sn _ _ 5 (mx_const (.int 0) 6) from sn_68 5) rfl ?_
    have b3 : 0 ≤ Z 9 (x0 * 18 + 0) ∧ Z 9 (x0 * 18 + 0) ≤ 18 := hG.pr 9 (x0 * 18 + 0)
    have b4 : 0 ≤ Z 10 x0 ∧ Z 10 x0 ≤ 18 := hG.pr 10 x0
    have b5 : 0 ≤ Z 7 5 ∧ Z 7 5 ≤ 385 := hG.pr 7 5
    obtain ⟨z2, hc2, b2⟩ := ct_6_7 (d := d + 2) (l := l) (D := D) (b0 := b0) (ad := ad) (Hb := Hb) (tau := tau) hx hG (show (-2147483648) ≤ x0 ∧ x0 ≤ 2147483647 by omega) (show (-2147483648) ≤ 0 ∧ 0 ≤ 2147483647 by omega)
    refine Jcv hx (show mx_Sn _ _ 6 (mx_callv 6 3 0 9) from sn_68 6) a7 s7 hc2 rfl rfl rfl ?_
    refine mx_J.step (ls2 := [some (.ref 25), some (xI x0), some (xI x1), some (xI z2), none, none]) (sn_68 9) (fun _ _ => rfl) ?_
    refine JcI (z := 0) (show mx_Sn _ _ 10 (mx_const (.int 0) 11) from sn_68 10) rfl ?_
    refine mx_J.step (ls2 := [some (.ref 25), some (xI x0), some (xI x1), some (xI z2), some (xI 0), none]) (sn_68 11) (fun _ _ => rfl) ?_
    have c13 : ∀ (m6 : Nat) (w6_4 : Int) (u6_5 : Option Value) (Z7 : xZ) (h7 : mx_H), 19 - w6_4 < (m6 : Int) → 0 ≤ w6_4 ∧ w6_4 ≤ 19 → XH n s S Z7 h7 → GI n S Z7 → fr' [(14, (-1)), (16, (-1)), (17, (-1)), (18, (-1)), (19, (-1))] Z Z7 → mx_J (tB l D b0 ad Hb tau) mt_68 (d + 4) 13 [some (.ref 25), some (xI x0), some (xI x1), some (xI z2), some (xI w6_4), u6_5] [] h7 Post := by
      intro m6
      induction m6 with
      | zero => intro w6_4 u6_5 Z7 h7 q6 f6_0 hx7 hG7 hf7; exact absurd q6 (by omega)
      | succ m6 ih6 =>
        intro w6_4 u6_5 Z7 h7 q6 f6_0 hx7 hG7 hf7
        refine mx_J.step (sn_68 13) (fun _ _ => rfl) ?_
        refine mx_J.step (sn_68 15) (fun _ _ => rfl) ?_
        refine Jicmp_gt (show mx_Sn _ _ 16 (mx_icmp_gt 59 19) from sn_68 16) (by omega) (by omega) (fun q8 => ?_) (fun q8 => ?_)
        · skip
          refine JcI (z := (-1)) (show mx_Sn _ _ 59 (mx_const (.int (-1)) 60) from sn_68 59) rfl ?_
          exact mx_J.ret (sn_68 60) (fun _ _ => rfl) (hP (-1) Z7 h7 hx7 hG7 (fr_tr (M := [(14, (-1)), (16, (-1)), (17, (-1)), (18, (-1)), (19, (-1))]) fr_rf (hf7) (M1 := []) rfl rfl) (by omega))
        · skip
          refine mx_J.step (sn_68 19) (fun _ _ => rfl) ?_
          refine JgetR (g := 1) (b := 12) hx7 (show mx_Sn _ _ 20 (mx_getf 8 1 23) from sn_68 20) a25 s25 rfl rfl (hG7.prr 25 1 rfl) ?_
          refine mx_J.step (sn_68 23) (fun _ _ => rfl) ?_
          refine mx_J.step (sn_68 24) (fun _ _ => rfl) ?_
          obtain ⟨z10, Z10, h10, hc10, hx10, hG10, hf10, b10⟩ := ct_26_12 (d := d + 0) (l := l) (D := D) (b0 := b0) (ad := ad) (Hb := Hb) (tau := tau) hx7 hG7 (show (-2147483648) ≤ x0 ∧ x0 ≤ 2147483647 by omega) (show (-2147483648) ≤ w6_4 ∧ w6_4 ≤ 2147483647 by omega)
          refine Jcv hx7 (show mx_Sn _ _ 26 (mx_callv 26 3 4 29) from sn_68 26) a12 s12 hc10 rfl rfl rfl ?_
          refine mx_J.step (ls2 := [some (.ref 25), some (xI x0), some (xI x1), some (xI z2), some (xI w6_4), some (xI z10)]) (sn_68 29) (fun _ _ => rfl) ?_
          refine mx_J.step (sn_68 31) (fun _ _ => rfl) ?_
          have c53 : mx_J (tB l D b0 ad Hb tau) mt_68 (d + 4) 53 [some (.ref 25), some (xI x0), some (xI x1), some (xI z2), some (xI w6_4), some (xI z10)] [] h10 Post := by
            refine Jiinc (z := w6_4) (cz := 1) (ls2 := [some (.ref 25), some (xI x0), some (xI x1), some (xI z2), some (xI (w6_4 + 1)), some (xI z10)]) (show mx_Sn _ _ 53 (mx_iinc 4 1 56) from sn_68 53) rfl rfl rfl rfl ?_
            refine mx_J.step (sn_68 56) (fun _ _ => rfl) ?_
            exact ih6 (w6_4 + 1) (some (xI z10)) Z10 h10 (by omega) (by omega) hx10 hG10 (fr_tr (M := [(14, (-1)), (16, (-1)), (17, (-1)), (18, (-1)), (19, (-1))]) (fr_tr (M := [(14, (-1)), (16, (-1)), (17, (-1)), (18, (-1)), (19, (-1))]) fr_rf (hf7) (M1 := []) rfl rfl) (hf10) rfl rfl)
          refine Jif_lt (show mx_Sn _ _ 33 (mx_if_lt 53 36) from sn_68 33) (by omega) (fun q12 => ?_) (fun q12 => ?_)
          · skip
            exact c53 
          · skip
            refine mx_J.step (sn_68 36) (fun _ _ => rfl) ?_
            refine JgetR (g := 7) (b := 31) hx10 (show mx_Sn _ _ 37 (mx_getf 8 7 40) from sn_68 37) a25 s25 rfl rfl (hG10.prr 25 7 rfl) ?_
            refine mx_J.step (sn_68 40) (fun _ _ => rfl) ?_
            have b14 : (-2147483648) ≤ Z 31 z10 ∧ Z 31 z10 ≤ 2147483647 := hG.pr 31 z10
            refine JialdI (z := Z 31 z10) hx10 (show mx_Sn _ _ 42 (mx_iald 43) from sn_68 42) a31 s31 (by omega) ((hf10 31 z10 rfl).trans (hf7 31 z10 rfl)) ?_
            refine mx_J.step (sn_68 43) (fun _ _ => rfl) ?_
            obtain ⟨z15, hc15, b15⟩ := ct_66_ (d := d + 3) (l := l) (D := D) (b0 := b0) (ad := ad) (Hb := Hb) (tau := tau) hx10 hG10 (show (-2147483648) ≤ Z 31 z10 ∧ Z 31 z10 ≤ 2147483647 by omega) (show (-2147483648) ≤ x1 ∧ x1 ≤ 2147483647 by omega)
            refine Jcs (show mx_Sn _ _ 44 (mx_calls 66 2 47) from sn_68 44) hc15 rfl rfl rfl ?_
            refine Jif_eq (show mx_Sn _ _ 47 (mx_if_eq 53 50) from sn_68 47) (by omega) (fun q16 => ?_) (fun q16 => ?_)
            · skip
              exact c53 
            · skip
              refine mx_J.step (sn_68 50) (fun _ _ => rfl) ?_
              exact mx_J.ret (sn_68 52) (fun _ _ => rfl) (hP w6_4 Z10 h10 hx10 hG10 (fr_tr (M := [(14, (-1)), (16, (-1)), (17, (-1)), (18, (-1)), (19, (-1))]) (fr_tr (M := [(14, (-1)), (16, (-1)), (17, (-1)), (18, (-1)), (19, (-1))]) fr_rf (hf7) (M1 := []) rfl rfl) (hf10) rfl rfl) (by omega))
    exact c13 (Int.toNat (19 - 0) + 1) 0 none Z h (by omega) (by omega) hx hG fr_rf
theorem ct_68_25 {l : Launch} {D : va_G} {b0 : Nat} {ad : Nat → Nat} {Hb : Heap} {tau : Nat → Int64} {d n s : Nat} {S : Nat → xS} {Z : xZ} {h : mx_H} (hx : XH n s S Z h) (hG : GI n S Z)  {x0 x1 : Int} (p0 : (-2147483648) ≤ x0 ∧ x0 ≤ 2147483647) (p1 : (-2147483648) ≤ x1 ∧ x1 ≤ 2147483647) : ∃ (z : Int) (Z' : xZ) (h' : mx_H), mx_Ca (tB l D b0 ad Hb tau) (d + 5) 68 [.ref 25, xI x0, xI x1] h (some (xI z), h') ∧ XH n s S Z' h' ∧ GI n S Z' ∧ fr' [(14, (-1)), (16, (-1)), (17, (-1)), (18, (-1)), (19, (-1))] Z Z' ∧ ((-1) ≤ z ∧ z ≤ 18) := by
  obtain ⟨r, hca, z, Z', h', e, q⟩ := Jmt (B := tB l D b0 ad Hb tau) (M := mt_68) (mi := 68) (as := [.ref 25, xI x0, xI x1]) (d := d + 4) (ls := [some (.ref 25), some (xI x0), some (xI x1), none, none, none]) rfl rfl rfl rfl rfl rfl (cw_68_25 (l := l) (D := D) (b0 := b0) (ad := ad) (Hb := Hb) (tau := tau) (d := d) (Post := fun r => ∃ (z : Int) (Z' : xZ) (h' : mx_H), r = (some (xI z), h') ∧ XH n s S Z' h' ∧ GI n S Z' ∧ fr' [(14, (-1)), (16, (-1)), (17, (-1)), (18, (-1)), (19, (-1))] Z Z' ∧ ((-1) ≤ z ∧ z ≤ 18)) hx hG p0 p1 (fun z Z' h' q1 q2 q3 q4 => ⟨z, Z', h', rfl, q1, q2, q3, q4⟩))
  subst e; exact ⟨z, Z', h', hca, q⟩
set_option maxRecDepth 100000 in
theorem cw_69_25 {l : Launch} {D : va_G} {b0 : Nat} {ad : Nat → Nat} {Hb : Heap} {tau : Nat → Int64} {d n s : Nat} {S : Nat → xS} {Z : xZ} {h : mx_H} {Post : mx_R → Prop} (hx : XH n s S Z h) (hG : GI n S Z)  {x0 x1 : Int} (p0 : (-2147483648) ≤ x0 ∧ x0 ≤ 2147483647) (p1 : 0 ≤ x1 ∧ x1 ≤ 770) (hP : ∀ (z : Int) (Z' : xZ) (h' : mx_H), XH n s S Z' h' → GI n S Z' → fr' [(14, (-1)), (16, (-1)), (17, (-1)), (18, (-1)), (19, (-1))] Z Z' → 0 ≤ z ∧ z ≤ 1 → Post (some (xI z), h')) : mx_J (tB l D b0 ad Hb tau) mt_69 (d + 4) 0 [some (.ref 25), some (xI x0), some (xI x1), none, none, none] [] h Post := by
    have a7 : 7 < n := lt83 (GI_n hG) rfl
    have s7 : S 7 = .inl (0, [2, 2, 2, 2, 0, 0]) := GI_s hG 7 rfl
    have a12 : 12 < n := lt83 (GI_n hG) rfl
    have s12 : S 12 = .inl (4, [2, 2, 0, 2, 2, 2, 2, 2, 2]) := GI_s hG 12 rfl
    have a25 : 25 < n := lt83 (GI_n hG) rfl
    have s25 : S 25 = .inl (8, [2, 2, 2, 2, 2, 2, 2, 2, 0]) := GI_s hG 25 rfl
    have a30 : 30 < n := lt83 (GI_n hG) rfl
    have s30 : S 30 = .inr (.int, 385, 0) := GI_s hG 30 rfl
    refine mx_J.step (sn_69 0) (fun _ _ => rfl) ?_
    refine JgetR (g := 0) (b := 7) hx (show mx_Sn _ _ 1 (mx_getf 8 0 4) from sn_69 1) a25 s25 rfl rfl (hG.prr 25 0 rfl) ?_
    refine mx_J.step (sn_69 4) (fun _ _ => rfl) ?_
    refine JcI (z := 0) (show mx_Sn _ _ 5 (mx_const (.int 0) 6) from sn_69 5) rfl ?_
    have b3 : 0 ≤ Z 9 (x0 * 18 + 0) ∧ Z 9 (x0 * 18 + 0) ≤ 18 := hG.pr 9 (x0 * 18 + 0)
    have b4 : 0 ≤ Z 10 x0 ∧ Z 10 x0 ≤ 18 := hG.pr 10 x0
    have b5 : 0 ≤ Z 7 5 ∧ Z 7 5 ≤ 385 := hG.pr 7 5
    obtain ⟨z2, hc2, b2⟩ := ct_6_7 (d := d + 2) (l := l) (D := D) (b0 := b0) (ad := ad) (Hb := Hb) (tau := tau) hx hG (show (-2147483648) ≤ x0 ∧ x0 ≤ 2147483647 by omega) (show (-2147483648) ≤ 0 ∧ 0 ≤ 2147483647 by omega)
    refine Jcv hx (show mx_Sn _ _ 6 (mx_callv 6 3 0 9) from sn_69 6) a7 s7 hc2 rfl rfl rfl ?_
    refine mx_J.step (ls2 := [some (.ref 25), some (xI x0), some (xI x1), some (xI z2), none, none]) (sn_69 9) (fun _ _ => rfl) ?_
    refine JcI (z := 0) (show mx_Sn _ _ 10 (mx_const (.int 0) 11) from sn_69 10) rfl ?_
    refine mx_J.step (ls2 := [some (.ref 25), some (xI x0), some (xI x1), some (xI z2), some (xI 0), none]) (sn_69 11) (fun _ _ => rfl) ?_
    have c13 : ∀ (m6 : Nat) (w6_4 : Int) (u6_5 : Option Value) (Z7 : xZ) (h7 : mx_H), 19 - w6_4 < (m6 : Int) → 0 ≤ w6_4 ∧ w6_4 ≤ 19 → XH n s S Z7 h7 → GI n S Z7 → fr' [(14, (-1)), (16, (-1)), (17, (-1)), (18, (-1)), (19, (-1))] Z Z7 → mx_J (tB l D b0 ad Hb tau) mt_69 (d + 4) 13 [some (.ref 25), some (xI x0), some (xI x1), some (xI z2), some (xI w6_4), u6_5] [] h7 Post := by
      intro m6
      induction m6 with
      | zero => intro w6_4 u6_5 Z7 h7 q6 f6_0 hx7 hG7 hf7; exact absurd q6 (by omega)
      | succ m6 ih6 =>
        intro w6_4 u6_5 Z7 h7 q6 f6_0 hx7 hG7 hf7
        refine mx_J.step (sn_69 13) (fun _ _ => rfl) ?_
        refine mx_J.step (sn_69 15) (fun _ _ => rfl) ?_
        refine Jicmp_gt (show mx_Sn _ _ 16 (mx_icmp_gt 58 19) from sn_69 16) (by omega) (by omega) (fun q8 => ?_) (fun q8 => ?_)
        · skip
          refine JcI (z := 1) (show mx_Sn _ _ 58 (mx_const (.int 1) 59) from sn_69 58) rfl ?_
          exact mx_J.ret (show mx_Sn _ _ 59 (mx_zret) from sn_69 59) (fun _ _ => zr_ok (by omega)) (hP 1 Z7 h7 hx7 hG7 (fr_tr (M := [(14, (-1)), (16, (-1)), (17, (-1)), (18, (-1)), (19, (-1))]) fr_rf (hf7) (M1 := []) rfl rfl) (by omega))
        · skip
          refine mx_J.step (sn_69 19) (fun _ _ => rfl) ?_
          refine JgetR (g := 1) (b := 12) hx7 (show mx_Sn _ _ 20 (mx_getf 8 1 23) from sn_69 20) a25 s25 rfl rfl (hG7.prr 25 1 rfl) ?_
          refine mx_J.step (sn_69 23) (fun _ _ => rfl) ?_
          refine mx_J.step (sn_69 24) (fun _ _ => rfl) ?_
          obtain ⟨z10, Z10, h10, hc10, hx10, hG10, hf10, b10⟩ := ct_26_12 (d := d + 0) (l := l) (D := D) (b0 := b0) (ad := ad) (Hb := Hb) (tau := tau) hx7 hG7 (show (-2147483648) ≤ x0 ∧ x0 ≤ 2147483647 by omega) (show (-2147483648) ≤ w6_4 ∧ w6_4 ≤ 2147483647 by omega)
          refine Jcv hx7 (show mx_Sn _ _ 26 (mx_callv 26 3 4 29) from sn_69 26) a12 s12 hc10 rfl rfl rfl ?_
          refine mx_J.step (ls2 := [some (.ref 25), some (xI x0), some (xI x1), some (xI z2), some (xI w6_4), some (xI z10)]) (sn_69 29) (fun _ _ => rfl) ?_
          refine mx_J.step (sn_69 31) (fun _ _ => rfl) ?_
          have c52 : mx_J (tB l D b0 ad Hb tau) mt_69 (d + 4) 52 [some (.ref 25), some (xI x0), some (xI x1), some (xI z2), some (xI w6_4), some (xI z10)] [] h10 Post := by
            refine Jiinc (z := w6_4) (cz := 1) (ls2 := [some (.ref 25), some (xI x0), some (xI x1), some (xI z2), some (xI (w6_4 + 1)), some (xI z10)]) (show mx_Sn _ _ 52 (mx_iinc 4 1 55) from sn_69 52) rfl rfl rfl rfl ?_
            refine mx_J.step (sn_69 55) (fun _ _ => rfl) ?_
            exact ih6 (w6_4 + 1) (some (xI z10)) Z10 h10 (by omega) (by omega) hx10 hG10 (fr_tr (M := [(14, (-1)), (16, (-1)), (17, (-1)), (18, (-1)), (19, (-1))]) (fr_tr (M := [(14, (-1)), (16, (-1)), (17, (-1)), (18, (-1)), (19, (-1))]) fr_rf (hf7) (M1 := []) rfl rfl) (hf10) rfl rfl)
          refine Jif_lt (show mx_Sn _ _ 33 (mx_if_lt 52 36) from sn_69 33) (by omega) (fun q12 => ?_) (fun q12 => ?_)
          · skip
            exact c52 
          · skip
            refine mx_J.step (sn_69 36) (fun _ _ => rfl) ?_
            refine JgetR (g := 6) (b := 30) hx10 (show mx_Sn _ _ 37 (mx_getf 8 6 40) from sn_69 37) a25 s25 rfl rfl (hG10.prr 25 6 rfl) ?_
            refine mx_J.step (sn_69 40) (fun _ _ => rfl) ?_
            have b14 : (-2147483648) ≤ Z 30 z10 ∧ Z 30 z10 ≤ 2147483647 := hG.pr 30 z10
            refine JialdI (z := Z 30 z10) hx10 (show mx_Sn _ _ 42 (mx_iald 43) from sn_69 42) a30 s30 (by omega) ((hf10 30 z10 rfl).trans (hf7 30 z10 rfl)) ?_
            refine mx_J.step (sn_69 43) (fun _ _ => rfl) ?_
            obtain ⟨z15, hc15, b15⟩ := ct_66_ (d := d + 3) (l := l) (D := D) (b0 := b0) (ad := ad) (Hb := Hb) (tau := tau) hx10 hG10 (show (-2147483648) ≤ Z 30 z10 ∧ Z 30 z10 ≤ 2147483647 by omega) (show (-2147483648) ≤ x1 ∧ x1 ≤ 2147483647 by omega)
            refine Jcs (show mx_Sn _ _ 44 (mx_calls 66 2 47) from sn_69 44) hc15 rfl rfl rfl ?_
            refine Jif_ne (show mx_Sn _ _ 47 (mx_if_ne 52 50) from sn_69 47) (by omega) (fun q16 => ?_) (fun q16 => ?_)
            · skip
              exact c52 
            · skip
              refine JcI (z := 0) (show mx_Sn _ _ 50 (mx_const (.int 0) 51) from sn_69 50) rfl ?_
              exact mx_J.ret (show mx_Sn _ _ 51 (mx_zret) from sn_69 51) (fun _ _ => zr_ok (by omega)) (hP 0 Z10 h10 hx10 hG10 (fr_tr (M := [(14, (-1)), (16, (-1)), (17, (-1)), (18, (-1)), (19, (-1))]) (fr_tr (M := [(14, (-1)), (16, (-1)), (17, (-1)), (18, (-1)), (19, (-1))]) fr_rf (hf7) (M1 := []) rfl rfl) (hf10) rfl rfl) (by omega))
    exact c13 (Int.toNat (19 - 0) + 1) 0 none Z h (by omega) (by omega) hx hG fr_rf
theorem ct_69_25 {l : Launch} {D : va_G} {b0 : Nat} {ad : Nat → Nat} {Hb : Heap} {tau : Nat → Int64} {d n s : Nat} {S : Nat → xS} {Z : xZ} {h : mx_H} (hx : XH n s S Z h) (hG : GI n S Z)  {x0 x1 : Int} (p0 : (-2147483648) ≤ x0 ∧ x0 ≤ 2147483647) (p1 : 0 ≤ x1 ∧ x1 ≤ 770) : ∃ (z : Int) (Z' : xZ) (h' : mx_H), mx_Ca (tB l D b0 ad Hb tau) (d + 5) 69 [.ref 25, xI x0, xI x1] h (some (xI z), h') ∧ XH n s S Z' h' ∧ GI n S Z' ∧ fr' [(14, (-1)), (16, (-1)), (17, (-1)), (18, (-1)), (19, (-1))] Z Z' ∧ (0 ≤ z ∧ z ≤ 1) := by
  obtain ⟨r, hca, z, Z', h', e, q⟩ := Jmt (B := tB l D b0 ad Hb tau) (M := mt_69) (mi := 69) (as := [.ref 25, xI x0, xI x1]) (d := d + 4) (ls := [some (.ref 25), some (xI x0), some (xI x1), none, none, none]) rfl rfl rfl rfl rfl rfl (cw_69_25 (l := l) (D := D) (b0 := b0) (ad := ad) (Hb := Hb) (tau := tau) (d := d) (Post := fun r => ∃ (z : Int) (Z' : xZ) (h' : mx_H), r = (some (xI z), h') ∧ XH n s S Z' h' ∧ GI n S Z' ∧ fr' [(14, (-1)), (16, (-1)), (17, (-1)), (18, (-1)), (19, (-1))] Z Z' ∧ (0 ≤ z ∧ z ≤ 1)) hx hG p0 p1 (fun z Z' h' q1 q2 q3 q4 => ⟨z, Z', h', rfl, q1, q2, q3, q4⟩))
  subst e; exact ⟨z, Z', h', hca, q⟩
set_option maxRecDepth 100000 in
theorem cw_67_25 {l : Launch} {D : va_G} {b0 : Nat} {ad : Nat → Nat} {Hb : Heap} {tau : Nat → Int64} {d n s : Nat} {S : Nat → xS} {Z : xZ} {h : mx_H} {Post : mx_R → Prop} (hx : XH n s S Z h) (hG : GI n S Z)  {x0 x1 : Int} (p0 : 0 ≤ x0 ∧ x0 ≤ 384) (p1 : 1 ≤ x1 ∧ x1 ≤ 18) (hP : ∀ (z : Int) (Z' : xZ) (h' : mx_H), XH n s S Z' h' → GI n S Z' → fr' [(14, (-1)), (16, (-1)), (17, (-1)), (18, (-1)), (19, (-1)), (30, (-1)), (31, (-1))] Z Z' → (-2147483648) ≤ z ∧ z ≤ 2147483647 → Post (some (xI z), h')) : mx_J (tB l D b0 ad Hb tau) mt_67 (d + 5) 0 [some (.ref 25), some (xI x0), some (xI x1), none, none, none] [] h Post := by
    have a7 : 7 < n := lt83 (GI_n hG) rfl
    have s7 : S 7 = .inl (0, [2, 2, 2, 2, 0, 0]) := GI_s hG 7 rfl
    have a25 : 25 < n := lt83 (GI_n hG) rfl
    have s25 : S 25 = .inl (8, [2, 2, 2, 2, 2, 2, 2, 2, 0]) := GI_s hG 25 rfl
    have a30 : 30 < n := lt83 (GI_n hG) rfl
    have s30 : S 30 = .inr (.int, 385, 0) := GI_s hG 30 rfl
    have a31 : 31 < n := lt83 (GI_n hG) rfl
    have s31 : S 31 = .inr (.int, 385, 0) := GI_s hG 31 rfl
    refine JcI (z := 0) (show mx_Sn _ _ 0 (mx_const (.int 0) 1) from sn_67 0) rfl ?_
    refine mx_J.step (ls2 := [some (.ref 25), some (xI x0), some (xI x1), some (xI 0), none, none]) (sn_67 1) (fun _ _ => rfl) ?_
    have c2 : ∀ (m1 : Nat) (w1_3 : Int) (Z2 : xZ) (h2 : mx_H), 385 - w1_3 < (m1 : Int) → 0 ≤ w1_3 ∧ w1_3 ≤ 385 → XH n s S Z2 h2 → GI n S Z2 → fr' [(30, (-1)), (31, (-1))] Z Z2 → mx_J (tB l D b0 ad Hb tau) mt_67 (d + 5) 2 [some (.ref 25), some (xI x0), some (xI x1), some (xI w1_3), none, none] [] h2 Post := by
      intro m1
      induction m1 with
      | zero => intro w1_3 Z2 h2 q1 f1_0 hx2 hG2 hf2; exact absurd q1 (by omega)
      | succ m1 ih1 =>
        intro w1_3 Z2 h2 q1 f1_0 hx2 hG2 hf2
        refine mx_J.step (sn_67 2) (fun _ _ => rfl) ?_
        refine mx_J.step (sn_67 3) (fun _ _ => rfl) ?_
        refine JgetR (g := 0) (b := 7) hx2 (show mx_Sn _ _ 4 (mx_getf 8 0 7) from sn_67 4) a25 s25 rfl rfl (hG2.prr 25 0 rfl) ?_
        have b5 : 0 ≤ Z 7 5 ∧ Z 7 5 ≤ 385 := hG.pr 7 5
        refine JgetI (g := 5) (z := Z 7 5) hx2 (show mx_Sn _ _ 7 (mx_getf 0 5 10) from sn_67 7) a7 s7 rfl rfl (hf2 7 5 rfl) ?_
        refine Jicmp_ge (show mx_Sn _ _ 10 (mx_icmp_ge 54 13) from sn_67 10) (by omega) (by omega) (fun q6 => ?_) (fun q6 => ?_)
        · skip
          refine JcI (z := 1) (show mx_Sn _ _ 54 (mx_const (.int 1) 55) from sn_67 54) rfl ?_
          refine mx_J.step (ls2 := [some (.ref 25), some (xI x0), some (xI x1), some (xI 1), none, none]) (sn_67 55) (fun _ _ => rfl) ?_
          refine JcI (z := 1) (show mx_Sn _ _ 56 (mx_const (.int 1) 57) from sn_67 56) rfl ?_
          refine mx_J.step (ls2 := [some (.ref 25), some (xI x0), some (xI x1), some (xI 1), some (xI 1), none]) (sn_67 57) (fun _ _ => rfl) ?_
          have c59 : ∀ (m7 : Nat) (w7_3 : Int) (w7_4 : Int) (u7_5 : Option Value) (Z8 : xZ) (h8 : mx_H), 771 - w7_4 < (m7 : Int) → 0 ≤ w7_3 ∧ w7_3 ≤ 1 → 1 ≤ w7_4 ∧ w7_4 ≤ 771 → XH n s S Z8 h8 → GI n S Z8 → fr' [(14, (-1)), (16, (-1)), (17, (-1)), (18, (-1)), (19, (-1)), (30, (-1)), (31, (-1))] Z2 Z8 → mx_J (tB l D b0 ad Hb tau) mt_67 (d + 5) 59 [some (.ref 25), some (xI x0), some (xI x1), some (xI w7_3), some (xI w7_4), u7_5] [] h8 Post := by
            intro m7
            induction m7 with
            | zero => intro w7_3 w7_4 u7_5 Z8 h8 q7 f7_0 f7_1 hx8 hG8 hf8; exact absurd q7 (by omega)
            | succ m7 ih7 =>
              intro w7_3 w7_4 u7_5 Z8 h8 q7 f7_0 f7_1 hx8 hG8 hf8
              refine mx_J.step (sn_67 59) (fun _ _ => rfl) ?_
              refine JcI (z := 770) (show mx_Sn _ _ 61 (mx_const (.int 770) 64) from sn_67 61) rfl ?_
              have c173 : mx_J (tB l D b0 ad Hb tau) mt_67 (d + 5) 173 [some (.ref 25), some (xI x0), some (xI x1), some (xI w7_3), some (xI w7_4), u7_5] [] h8 Post := by
                refine mx_J.step (sn_67 173) (fun _ _ => rfl) ?_
                refine JgetR (g := 6) (b := 30) hx8 (show mx_Sn _ _ 174 (mx_getf 8 6 177) from sn_67 174) a25 s25 rfl rfl (hG8.prr 25 6 rfl) ?_
                refine mx_J.step (sn_67 177) (fun _ _ => rfl) ?_
                have b11 : (-2147483648) ≤ Z8 30 x0 ∧ Z8 30 x0 ≤ 2147483647 := hG8.pr 30 x0
                refine JialdI (z := Z8 30 x0) hx8 (show mx_Sn _ _ 178 (mx_iald 179) from sn_67 178) a30 s30 (by omega) rfl ?_
                exact mx_J.ret (sn_67 179) (fun _ _ => rfl) (hP (Z8 30 x0) Z8 h8 hx8 hG8 (fr_tr (M := [(14, (-1)), (16, (-1)), (17, (-1)), (18, (-1)), (19, (-1)), (30, (-1)), (31, (-1))]) (fr_tr (M := [(14, (-1)), (16, (-1)), (17, (-1)), (18, (-1)), (19, (-1)), (30, (-1)), (31, (-1))]) fr_rf (hf2) (M1 := []) rfl rfl) (hf8) rfl rfl) (by omega))
              refine Jicmp_gt (show mx_Sn _ _ 64 (mx_icmp_gt 173 67) from sn_67 64) (by omega) (by omega) (fun q12 => ?_) (fun q12 => ?_)
              · skip
                exact c173 
              · skip
                refine mx_J.step (sn_67 67) (fun _ _ => rfl) ?_
                refine Jif_eq (show mx_Sn _ _ 68 (mx_if_eq 173 71) from sn_67 68) (by omega) (fun q13 => ?_) (fun q13 => ?_)
                · skip
                  exact c173 
                · skip
                  refine mx_J.step (sn_67 71) (fun _ _ => rfl) ?_
                  refine JgetR (g := 6) (b := 30) hx8 (show mx_Sn _ _ 72 (mx_getf 8 6 75) from sn_67 72) a25 s25 rfl rfl (hG8.prr 25 6 rfl) ?_
                  refine mx_J.step (sn_67 75) (fun _ _ => rfl) ?_
                  have b15 : (-2147483648) ≤ Z8 30 x0 ∧ Z8 30 x0 ≤ 2147483647 := hG8.pr 30 x0
                  refine JialdI (z := Z8 30 x0) hx8 (show mx_Sn _ _ 76 (mx_iald 77) from sn_67 76) a30 s30 (by omega) rfl ?_
                  refine Jif_ge (show mx_Sn _ _ 77 (mx_if_ge 173 80) from sn_67 77) (by omega) (fun q16 => ?_) (fun q16 => ?_)
                  · skip
                    exact c173 
                  · skip
                    refine JcI (z := 0) (show mx_Sn _ _ 80 (mx_const (.int 0) 81) from sn_67 80) rfl ?_
                    refine mx_J.step (ls2 := [some (.ref 25), some (xI x0), some (xI x1), some (xI 0), some (xI w7_4), u7_5]) (sn_67 81) (fun _ _ => rfl) ?_
                    refine JcI (z := 0) (show mx_Sn _ _ 82 (mx_const (.int 0) 83) from sn_67 82) rfl ?_
                    refine mx_J.step (ls2 := [some (.ref 25), some (xI x0), some (xI x1), some (xI 0), some (xI w7_4), some (xI 0)]) (sn_67 83) (fun _ _ => rfl) ?_
                    have c85 : ∀ (m17 : Nat) (w17_3 : Int) (w17_5 : Int) (Z18 : xZ) (h18 : mx_H), 385 - w17_5 < (m17 : Int) → 0 ≤ w17_3 ∧ w17_3 ≤ 1 → 0 ≤ w17_5 ∧ w17_5 ≤ 385 → XH n s S Z18 h18 → GI n S Z18 → fr' [(14, (-1)), (16, (-1)), (17, (-1)), (18, (-1)), (19, (-1)), (30, (-1)), (31, (-1))] Z8 Z18 → mx_J (tB l D b0 ad Hb tau) mt_67 (d + 5) 85 [some (.ref 25), some (xI x0), some (xI x1), some (xI w17_3), some (xI w7_4), some (xI w17_5)] [] h18 Post := by
                      intro m17
                      induction m17 with
                      | zero => intro w17_3 w17_5 Z18 h18 q17 f17_0 f17_1 hx18 hG18 hf18; exact absurd q17 (by omega)
                      | succ m17 ih17 =>
                        intro w17_3 w17_5 Z18 h18 q17 f17_0 f17_1 hx18 hG18 hf18
                        refine mx_J.step (sn_67 85) (fun _ _ => rfl) ?_
                        refine mx_J.step (sn_67 87) (fun _ _ => rfl) ?_
                        refine JgetR (g := 0) (b := 7) hx18 (show mx_Sn _ _ 88 (mx_getf 8 0 91) from sn_67 88) a25 s25 rfl rfl (hG18.prr 25 0 rfl) ?_
                        refine JgetI (g := 5) (z := Z 7 5) hx18 (show mx_Sn _ _ 91 (mx_getf 0 5 94) from sn_67 91) a7 s7 rfl rfl ((hf18 7 5 rfl).trans ((hf8 7 5 rfl).trans (hf2 7 5 rfl))) ?_
                        refine Jicmp_ge (show mx_Sn _ _ 94 (mx_icmp_ge 167 97) from sn_67 94) (by omega) (by omega) (fun q21 => ?_) (fun q21 => ?_)
                        · skip
                          refine Jiinc (z := w7_4) (cz := 1) (ls2 := [some (.ref 25), some (xI x0), some (xI x1), some (xI w17_3), some (xI (w7_4 + 1)), some (xI w17_5)]) (show mx_Sn _ _ 167 (mx_iinc 4 1 170) from sn_67 167) rfl rfl rfl rfl ?_
                          refine mx_J.step (sn_67 170) (fun _ _ => rfl) ?_
                          exact ih7 w17_3 (w7_4 + 1) (some (xI w17_5)) Z18 h18 (by omega) (by omega) (by omega) hx18 hG18 (fr_tr (M := [(14, (-1)), (16, (-1)), (17, (-1)), (18, (-1)), (19, (-1)), (30, (-1)), (31, (-1))]) (fr_tr (M := [(14, (-1)), (16, (-1)), (17, (-1)), (18, (-1)), (19, (-1)), (30, (-1)), (31, (-1))]) fr_rf (hf8) (M1 := []) rfl rfl) (hf18) rfl rfl)
                        · skip
                          refine mx_J.step (sn_67 97) (fun _ _ => rfl) ?_
                          refine JgetR (g := 6) (b := 30) hx18 (show mx_Sn _ _ 98 (mx_getf 8 6 101) from sn_67 98) a25 s25 rfl rfl (hG18.prr 25 6 rfl) ?_
                          refine mx_J.step (sn_67 101) (fun _ _ => rfl) ?_
                          have b23 : (-2147483648) ≤ Z18 30 w17_5 ∧ Z18 30 w17_5 ≤ 2147483647 := hG18.pr 30 w17_5
                          refine JialdI (z := Z18 30 w17_5) hx18 (show mx_Sn _ _ 103 (mx_iald 104) from sn_67 103) a30 s30 (by omega) rfl ?_
                          have c129 : ∀ (w24_3 : Int) (Z25 : xZ) (h25 : mx_H), 0 ≤ w24_3 ∧ w24_3 ≤ 1 → XH n s S Z25 h25 → GI n S Z25 → fr' [(14, (-1)), (16, (-1)), (17, (-1)), (18, (-1)), (19, (-1)), (30, (-1))] Z18 Z25 → mx_J (tB l D b0 ad Hb tau) mt_67 (d + 5) 129 [some (.ref 25), some (xI x0), some (xI x1), some (xI w24_3), some (xI w7_4), some (xI w17_5)] [] h25 Post := by
                            intro w24_3 Z25 h25 f24_0 hx25 hG25 hf25
                            refine mx_J.step (sn_67 129) (fun _ _ => rfl) ?_
                            refine JgetR (g := 7) (b := 31) hx25 (show mx_Sn _ _ 130 (mx_getf 8 7 133) from sn_67 130) a25 s25 rfl rfl (hG25.prr 25 7 rfl) ?_
                            refine mx_J.step (sn_67 133) (fun _ _ => rfl) ?_
                            have b27 : (-2147483648) ≤ Z18 31 w17_5 ∧ Z18 31 w17_5 ≤ 2147483647 := hG18.pr 31 w17_5
                            refine JialdI (z := Z18 31 w17_5) hx25 (show mx_Sn _ _ 135 (mx_iald 136) from sn_67 135) a31 s31 (by omega) (hf25 31 w17_5 rfl) ?_
                            have c161 : ∀ (w28_3 : Int) (Z29 : xZ) (h29 : mx_H), 0 ≤ w28_3 ∧ w28_3 ≤ 1 → XH n s S Z29 h29 → GI n S Z29 → fr' [(14, (-1)), (16, (-1)), (17, (-1)), (18, (-1)), (19, (-1)), (31, (-1))] Z25 Z29 → mx_J (tB l D b0 ad Hb tau) mt_67 (d + 5) 161 [some (.ref 25), some (xI x0), some (xI x1), some (xI w28_3), some (xI w7_4), some (xI w17_5)] [] h29 Post := by
                              intro w28_3 Z29 h29 f28_0 hx29 hG29 hf29
                              refine Jiinc (z := w17_5) (cz := 1) (ls2 := [some (.ref 25), some (xI x0), some (xI x1), some (xI w28_3), some (xI w7_4), some (xI (w17_5 + 1))]) (show mx_Sn _ _ 161 (mx_iinc 5 1 164) from sn_67 161) rfl rfl rfl rfl ?_
                              refine mx_J.step (sn_67 164) (fun _ _ => rfl) ?_
                              exact ih17 w28_3 (w17_5 + 1) Z29 h29 (by omega) (by omega) (by omega) hx29 hG29 (fr_tr (M := [(14, (-1)), (16, (-1)), (17, (-1)), (18, (-1)), (19, (-1)), (30, (-1)), (31, (-1))]) (fr_tr (M := [(14, (-1)), (16, (-1)), (17, (-1)), (18, (-1)), (19, (-1)), (30, (-1)), (31, (-1))]) (fr_tr (M := [(14, (-1)), (16, (-1)), (17, (-1)), (18, (-1)), (19, (-1)), (30, (-1)), (31, (-1))]) fr_rf (hf18) (M1 := []) rfl rfl) (hf25) rfl rfl) (hf29) rfl rfl)
                            refine Jif_ge (show mx_Sn _ _ 136 (mx_if_ge 161 139) from sn_67 136) (by omega) (fun q30 => ?_) (fun q30 => ?_)
                            · skip
                              exact c161 w24_3 Z25 h25 (by omega) hx25 hG25 fr_rf
                            · skip
                              refine mx_J.step (sn_67 139) (fun _ _ => rfl) ?_
                              refine mx_J.step (sn_67 140) (fun _ _ => rfl) ?_
                              refine mx_J.step (sn_67 142) (fun _ _ => rfl) ?_
                              obtain ⟨z31, Z31, h31, hc31, hx31, hG31, hf31, b31⟩ := ct_69_25 (d := d + 0) (l := l) (D := D) (b0 := b0) (ad := ad) (Hb := Hb) (tau := tau) hx25 hG25 (show (-2147483648) ≤ w17_5 ∧ w17_5 ≤ 2147483647 by omega) (show 0 ≤ w7_4 ∧ w7_4 ≤ 770 by omega)
                              refine Jcv hx25 (show mx_Sn _ _ 144 (mx_callv 69 3 8 147) from sn_67 144) a25 s25 hc31 rfl rfl rfl ?_
                              refine Jif_eq (show mx_Sn _ _ 147 (mx_if_eq 161 150) from sn_67 147) (by omega) (fun q32 => ?_) (fun q32 => ?_)
                              · skip
                                exact c161 w24_3 Z31 h31 (by omega) hx31 hG31 (fr_tr (M := [(14, (-1)), (16, (-1)), (17, (-1)), (18, (-1)), (19, (-1)), (31, (-1))]) fr_rf (hf31) (M1 := []) rfl rfl)
                              · skip
                                refine mx_J.step (sn_67 150) (fun _ _ => rfl) ?_
                                refine JgetR (g := 7) (b := 31) hx31 (show mx_Sn _ _ 151 (mx_getf 8 7 154) from sn_67 151) a25 s25 rfl rfl (hG31.prr 25 7 rfl) ?_
                                refine mx_J.step (sn_67 154) (fun _ _ => rfl) ?_
                                refine mx_J.step (sn_67 156) (fun _ _ => rfl) ?_
                                refine JiastI hx31 (show mx_Sn _ _ 158 (mx_iast 1 159) from sn_67 158) a31 s31 rfl (by omega) (fun Z34 h34 hx34 hE34 => ?_)
                                have hG34 := GI_up hG31 hE34 (show (-2147483648) ≤ w7_4 ∧ w7_4 ≤ 2147483647 by omega) trivial rfl
                                refine JcI (z := 1) (show mx_Sn _ _ 159 (mx_const (.int 1) 160) from sn_67 159) rfl ?_
                                refine mx_J.step (ls2 := [some (.ref 25), some (xI x0), some (xI x1), some (xI 1), some (xI w7_4), some (xI w17_5)]) (sn_67 160) (fun _ _ => rfl) ?_
                                exact c161 1 Z34 h34 (by omega) hx34 hG34 (fr_tr (M := [(14, (-1)), (16, (-1)), (17, (-1)), (18, (-1)), (19, (-1)), (31, (-1))]) (fr_tr (M := [(14, (-1)), (16, (-1)), (17, (-1)), (18, (-1)), (19, (-1)), (31, (-1))]) fr_rf (hf31) (M1 := []) rfl rfl) (fr_ua hE34) rfl rfl)
                          refine Jif_ge (show mx_Sn _ _ 104 (mx_if_ge 129 107) from sn_67 104) (by omega) (fun q35 => ?_) (fun q35 => ?_)
                          · skip
                            exact c129 w17_3 Z18 h18 (by omega) hx18 hG18 fr_rf
                          · skip
                            refine mx_J.step (sn_67 107) (fun _ _ => rfl) ?_
                            refine mx_J.step (sn_67 108) (fun _ _ => rfl) ?_
                            refine mx_J.step (sn_67 110) (fun _ _ => rfl) ?_
                            obtain ⟨z36, Z36, h36, hc36, hx36, hG36, hf36, b36⟩ := ct_68_25 (d := d + 0) (l := l) (D := D) (b0 := b0) (ad := ad) (Hb := Hb) (tau := tau) hx18 hG18 (show (-2147483648) ≤ w17_5 ∧ w17_5 ≤ 2147483647 by omega) (show (-2147483648) ≤ w7_4 ∧ w7_4 ≤ 2147483647 by omega)
                            refine Jcv hx18 (show mx_Sn _ _ 112 (mx_callv 68 3 8 115) from sn_67 112) a25 s25 hc36 rfl rfl rfl ?_
                            refine Jif_lt (show mx_Sn _ _ 115 (mx_if_lt 129 118) from sn_67 115) (by omega) (fun q37 => ?_) (fun q37 => ?_)
                            · skip
                              exact c129 w17_3 Z36 h36 (by omega) hx36 hG36 (fr_tr (M := [(14, (-1)), (16, (-1)), (17, (-1)), (18, (-1)), (19, (-1)), (30, (-1))]) fr_rf (hf36) (M1 := []) rfl rfl)
                            · skip
                              refine mx_J.step (sn_67 118) (fun _ _ => rfl) ?_
                              refine JgetR (g := 6) (b := 30) hx36 (show mx_Sn _ _ 119 (mx_getf 8 6 122) from sn_67 119) a25 s25 rfl rfl (hG36.prr 25 6 rfl) ?_
                              refine mx_J.step (sn_67 122) (fun _ _ => rfl) ?_
                              refine mx_J.step (sn_67 124) (fun _ _ => rfl) ?_
                              refine JiastI hx36 (show mx_Sn _ _ 126 (mx_iast 1 127) from sn_67 126) a30 s30 rfl (by omega) (fun Z39 h39 hx39 hE39 => ?_)
                              have hG39 := GI_up hG36 hE39 (show (-2147483648) ≤ w7_4 ∧ w7_4 ≤ 2147483647 by omega) trivial rfl
                              refine JcI (z := 1) (show mx_Sn _ _ 127 (mx_const (.int 1) 128) from sn_67 127) rfl ?_
                              refine mx_J.step (ls2 := [some (.ref 25), some (xI x0), some (xI x1), some (xI 1), some (xI w7_4), some (xI w17_5)]) (sn_67 128) (fun _ _ => rfl) ?_
                              exact c129 1 Z39 h39 (by omega) hx39 hG39 (fr_tr (M := [(14, (-1)), (16, (-1)), (17, (-1)), (18, (-1)), (19, (-1)), (30, (-1))]) (fr_tr (M := [(14, (-1)), (16, (-1)), (17, (-1)), (18, (-1)), (19, (-1)), (30, (-1))]) fr_rf (hf36) (M1 := []) rfl rfl) (fr_ua hE39) rfl rfl)
                    exact c85 (Int.toNat (385 - 0) + 1) 0 0 Z8 h8 (by omega) (by omega) (by omega) hx8 hG8 fr_rf
          exact c59 (Int.toNat (771 - 1) + 1) 1 1 none Z2 h2 (by omega) (by omega) (by omega) hx2 hG2 fr_rf
        · skip
          refine mx_J.step (sn_67 13) (fun _ _ => rfl) ?_
          refine JgetR (g := 6) (b := 30) hx2 (show mx_Sn _ _ 14 (mx_getf 8 6 17) from sn_67 14) a25 s25 rfl rfl (hG2.prr 25 6 rfl) ?_
          refine mx_J.step (sn_67 17) (fun _ _ => rfl) ?_
          refine mx_J.step (sn_67 18) (fun _ _ => rfl) ?_
          refine JgetR (g := 0) (b := 7) hx2 (show mx_Sn _ _ 19 (mx_getf 8 0 22) from sn_67 19) a25 s25 rfl rfl (hG2.prr 25 0 rfl) ?_
          refine mx_J.step (sn_67 22) (fun _ _ => rfl) ?_
          have eq43 : Z2 7 5 = Z 7 5 := (hf2 7 5 rfl)
          have eq44 : Z2 10 w1_3 = Z 10 w1_3 := (hf2 10 w1_3 rfl)
          have b45 : 0 ≤ Z 10 w1_3 ∧ Z 10 w1_3 ≤ 18 := hG.pr 10 w1_3
          obtain ⟨z42, hc42, b42⟩ := ct_5_7 (d := d + 4) (l := l) (D := D) (b0 := b0) (ad := ad) (Hb := Hb) (tau := tau) hx2 hG2 (show (-2147483648) ≤ w1_3 ∧ w1_3 ≤ 2147483647 by omega)
          try rw [eq43] at b42
          try rw [eq44] at b42
          refine Jcv hx2 (show mx_Sn _ _ 23 (mx_callv 5 2 0 26) from sn_67 23) a7 s7 hc42 rfl rfl rfl ?_
          refine mx_J.step (sn_67 26) (fun _ _ => rfl) ?_
          have c35 : ∀ (k46_2 : Int), (-1) ≤ k46_2 ∧ k46_2 ≤ 0 → mx_J (tB l D b0 ad Hb tau) mt_67 (d + 5) 35 [some (.ref 25), some (xI x0), some (xI x1), some (xI w1_3), none, none] [xI k46_2, xI w1_3, .ref 30] h2 Post := by
            intro k46_2 f46_0
            refine JiastI hx2 (show mx_Sn _ _ 35 (mx_iast 1 36) from sn_67 35) a30 s30 rfl (by omega) (fun Z47 h47 hx47 hE47 => ?_)
            have hG47 := GI_up hG2 hE47 (show (-2147483648) ≤ k46_2 ∧ k46_2 ≤ 2147483647 by omega) trivial rfl
            refine mx_J.step (sn_67 36) (fun _ _ => rfl) ?_
            refine JgetR (g := 7) (b := 31) hx47 (show mx_Sn _ _ 37 (mx_getf 8 7 40) from sn_67 37) a25 s25 rfl rfl (hG47.prr 25 7 rfl) ?_
            refine mx_J.step (sn_67 40) (fun _ _ => rfl) ?_
            refine mx_J.step (sn_67 41) (fun _ _ => rfl) ?_
            refine JgetR (g := 6) (b := 30) hx47 (show mx_Sn _ _ 42 (mx_getf 8 6 45) from sn_67 42) a25 s25 rfl rfl (hG47.prr 25 6 rfl) ?_
            refine mx_J.step (sn_67 45) (fun _ _ => rfl) ?_
            have b50 : (-2147483648) ≤ Z47 30 w1_3 ∧ Z47 30 w1_3 ≤ 2147483647 := hG47.pr 30 w1_3
            refine JialdI (z := Z47 30 w1_3) hx47 (show mx_Sn _ _ 46 (mx_iald 47) from sn_67 46) a30 s30 (by omega) rfl ?_
            refine JiastI hx47 (show mx_Sn _ _ 47 (mx_iast 1 48) from sn_67 47) a31 s31 rfl (by omega) (fun Z51 h51 hx51 hE51 => ?_)
            have hG51 := GI_up hG47 hE51 (show (-2147483648) ≤ Z47 30 w1_3 ∧ Z47 30 w1_3 ≤ 2147483647 by omega) trivial rfl
            refine Jiinc (z := w1_3) (cz := 1) (ls2 := [some (.ref 25), some (xI x0), some (xI x1), some (xI (w1_3 + 1)), none, none]) (show mx_Sn _ _ 48 (mx_iinc 3 1 51) from sn_67 48) rfl rfl rfl rfl ?_
            refine mx_J.step (sn_67 51) (fun _ _ => rfl) ?_
            exact ih1 (w1_3 + 1) Z51 h51 (by omega) (by omega) hx51 hG51 (fr_tr (M := [(30, (-1)), (31, (-1))]) (fr_tr (M := [(30, (-1)), (31, (-1))]) (fr_tr (M := [(30, (-1)), (31, (-1))]) fr_rf (hf2) (M1 := []) rfl rfl) (fr_ua hE47) rfl rfl) (fr_ua hE51) rfl rfl)
          refine Jicmp_gt (show mx_Sn _ _ 27 (mx_icmp_gt 34 30) from sn_67 27) (by omega) (by omega) (fun q52 => ?_) (fun q52 => ?_)
          · skip
            refine JcI (z := (-1)) (show mx_Sn _ _ 34 (mx_const (.int (-1)) 35) from sn_67 34) rfl ?_
            exact c35 (-1) (by omega)
          · skip
            refine JcI (z := 0) (show mx_Sn _ _ 30 (mx_const (.int 0) 31) from sn_67 30) rfl ?_
            refine mx_J.step (sn_67 31) (fun _ _ => rfl) ?_
            exact c35 0 (by omega)
    exact c2 (Int.toNat (385 - 0) + 1) 0 Z h (by omega) (by omega) hx hG fr_rf
theorem ct_67_25 {l : Launch} {D : va_G} {b0 : Nat} {ad : Nat → Nat} {Hb : Heap} {tau : Nat → Int64} {d n s : Nat} {S : Nat → xS} {Z : xZ} {h : mx_H} (hx : XH n s S Z h) (hG : GI n S Z)  {x0 x1 : Int} (p0 : 0 ≤ x0 ∧ x0 ≤ 384) (p1 : 1 ≤ x1 ∧ x1 ≤ 18) : ∃ (z : Int) (Z' : xZ) (h' : mx_H), mx_Ca (tB l D b0 ad Hb tau) (d + 6) 67 [.ref 25, xI x0, xI x1] h (some (xI z), h') ∧ XH n s S Z' h' ∧ GI n S Z' ∧ fr' [(14, (-1)), (16, (-1)), (17, (-1)), (18, (-1)), (19, (-1)), (30, (-1)), (31, (-1))] Z Z' ∧ ((-2147483648) ≤ z ∧ z ≤ 2147483647) := by
  obtain ⟨r, hca, z, Z', h', e, q⟩ := Jmt (B := tB l D b0 ad Hb tau) (M := mt_67) (mi := 67) (as := [.ref 25, xI x0, xI x1]) (d := d + 5) (ls := [some (.ref 25), some (xI x0), some (xI x1), none, none, none]) rfl rfl rfl rfl rfl rfl (cw_67_25 (l := l) (D := D) (b0 := b0) (ad := ad) (Hb := Hb) (tau := tau) (d := d) (Post := fun r => ∃ (z : Int) (Z' : xZ) (h' : mx_H), r = (some (xI z), h') ∧ XH n s S Z' h' ∧ GI n S Z' ∧ fr' [(14, (-1)), (16, (-1)), (17, (-1)), (18, (-1)), (19, (-1)), (30, (-1)), (31, (-1))] Z Z' ∧ ((-2147483648) ≤ z ∧ z ≤ 2147483647)) hx hG p0 p1 (fun z Z' h' q1 q2 q3 q4 => ⟨z, Z', h', rfl, q1, q2, q3, q4⟩))
  subst e; exact ⟨z, Z', h', hca, q⟩
set_option maxRecDepth 100000 in
theorem cw_72_32 {l : Launch} {D : va_G} {b0 : Nat} {ad : Nat → Nat} {Hb : Heap} {tau : Nat → Int64} {d n s : Nat} {S : Nat → xS} {Z : xZ} {h : mx_H} {Post : mx_R → Prop} (hx : XH n s S Z h) (hG : GI n S Z)  {x0 : Int} (p0 : (-2147483648) ≤ x0 ∧ x0 ≤ 2147483647) (hP : ∀ (z : Int) (Z' : xZ) (h' : mx_H), XH n s S Z' h' → GI n S Z' → fr' [(33, (-1))] Z Z' → 0 ≤ z ∧ z ≤ 1 ∧ (z = 0 ∨ (0 ≤ x0 ∧ x0 ≤ 9)) → Post (some (xI z), h')) : mx_J (tB l D b0 ad Hb tau) mt_72 (d + 0) 0 [some (.ref 32), some (xI x0), none] [] h Post := by
    have a7 : 7 < n := lt83 (GI_n hG) rfl
    have s7 : S 7 = .inl (0, [2, 2, 2, 2, 0, 0]) := GI_s hG 7 rfl
    have a32 : 32 < n := lt83 (GI_n hG) rfl
    have s32 : S 32 = .inl (9, [2, 2, 2]) := GI_s hG 32 rfl
    have a33 : 33 < n := lt83 (GI_n hG) rfl
    have s33 : S 33 = .inr (.long, 3850, 1) := GI_s hG 33 rfl
    refine mx_J.step (sn_72 0) (fun _ _ => rfl) ?_
    have c10 : mx_J (tB l D b0 ad Hb tau) mt_72 (d + 0) 10 [some (.ref 32), some (xI x0), none] [] h Post := by
      refine JcI (z := 0) (show mx_Sn _ _ 10 (mx_const (.int 0) 11) from sn_72 10) rfl ?_
      exact mx_J.ret (show mx_Sn _ _ 11 (mx_zret) from sn_72 11) (fun _ _ => zr_ok (by omega)) (hP 0 Z h hx hG fr_rf (by omega))
    refine Jif_lt (show mx_Sn _ _ 1 (mx_if_lt 10 4) from sn_72 1) (by omega) (fun q2 => ?_) (fun q2 => ?_)
    · skip
      exact c10 
    · skip
      refine mx_J.step (sn_72 4) (fun _ _ => rfl) ?_
      refine JcI (z := 10) (show mx_Sn _ _ 5 (mx_const (.int 10) 7) from sn_72 5) rfl ?_
      refine Jicmp_lt (show mx_Sn _ _ 7 (mx_icmp_lt 12 10) from sn_72 7) (by omega) (by omega) (fun q3 => ?_) (fun q3 => ?_)
      · skip
        refine JcI (z := 0) (show mx_Sn _ _ 12 (mx_const (.int 0) 13) from sn_72 12) rfl ?_
        refine mx_J.step (ls2 := [some (.ref 32), some (xI x0), some (xI 0)]) (sn_72 13) (fun _ _ => rfl) ?_
        have c14 : ∀ (m4 : Nat) (w4_2 : Int) (Z5 : xZ) (h5 : mx_H), 385 - w4_2 < (m4 : Int) → 0 ≤ w4_2 ∧ w4_2 ≤ 385 → XH n s S Z5 h5 → GI n S Z5 → fr' [(33, (-1))] Z Z5 → mx_J (tB l D b0 ad Hb tau) mt_72 (d + 0) 14 [some (.ref 32), some (xI x0), some (xI w4_2)] [] h5 Post := by
          intro m4
          induction m4 with
          | zero => intro w4_2 Z5 h5 q4 f4_0 hx5 hG5 hf5; exact absurd q4 (by omega)
          | succ m4 ih4 =>
            intro w4_2 Z5 h5 q4 f4_0 hx5 hG5 hf5
            refine mx_J.step (sn_72 14) (fun _ _ => rfl) ?_
            refine mx_J.step (sn_72 15) (fun _ _ => rfl) ?_
            refine JgetR (g := 0) (b := 7) hx5 (show mx_Sn _ _ 16 (mx_getf 9 0 19) from sn_72 16) a32 s32 rfl rfl (hG5.prr 32 0 rfl) ?_
            have b8 : 0 ≤ Z 7 5 ∧ Z 7 5 ≤ 385 := hG.pr 7 5
            refine JgetI (g := 5) (z := Z 7 5) hx5 (show mx_Sn _ _ 19 (mx_getf 0 5 22) from sn_72 19) a7 s7 rfl rfl (hf5 7 5 rfl) ?_
            refine Jicmp_ge (show mx_Sn _ _ 22 (mx_icmp_ge 44 25) from sn_72 22) (by omega) (by omega) (fun q9 => ?_) (fun q9 => ?_)
            · skip
              refine JcI (z := 1) (show mx_Sn _ _ 44 (mx_const (.int 1) 45) from sn_72 44) rfl ?_
              exact mx_J.ret (show mx_Sn _ _ 45 (mx_zret) from sn_72 45) (fun _ _ => zr_ok (by omega)) (hP 1 Z5 h5 hx5 hG5 (fr_tr (M := [(33, (-1))]) fr_rf (hf5) (M1 := []) rfl rfl) (by omega))
            · skip
              refine mx_J.step (sn_72 25) (fun _ _ => rfl) ?_
              refine JgetR (g := 2) (b := 33) hx5 (show mx_Sn _ _ 26 (mx_getf 9 2 29) from sn_72 26) a32 s32 rfl rfl (hG5.prr 32 2 rfl) ?_
              refine mx_J.step (sn_72 29) (fun _ _ => rfl) ?_
              refine JcI (z := 385) (show mx_Sn _ _ 30 (mx_const (.int 385) 33) from sn_72 30) rfl ?_
              refine Jimul (show mx_Sn _ _ 33 (mx_imul 34) from sn_72 33) ?_
              refine mx_J.step (sn_72 34) (fun _ _ => rfl) ?_
              refine Jiadd (show mx_Sn _ _ 35 (mx_iadd 36) from sn_72 35) ?_
              refine JcL (z := 0) (show mx_Sn _ _ 36 (mx_const (.long 0) 37) from sn_72 36) rfl ?_
              refine JlastL hx5 (show mx_Sn _ _ 37 (mx_last 1 38) from sn_72 37) a33 s33 rfl (by omega) (fun Z11 h11 hx11 hE11 => ?_)
              have hG11 := GI_up hG5 hE11 (show (-9223372036854775808) ≤ 0 ∧ 0 ≤ 9223372036854775807 by omega) trivial rfl
              refine Jiinc (z := w4_2) (cz := 1) (ls2 := [some (.ref 32), some (xI x0), some (xI (w4_2 + 1))]) (show mx_Sn _ _ 38 (mx_iinc 2 1 41) from sn_72 38) rfl rfl rfl rfl ?_
              refine mx_J.step (sn_72 41) (fun _ _ => rfl) ?_
              exact ih4 (w4_2 + 1) Z11 h11 (by omega) (by omega) hx11 hG11 (fr_tr (M := [(33, (-1))]) (fr_tr (M := [(33, (-1))]) fr_rf (hf5) (M1 := []) rfl rfl) (fr_ua hE11) rfl rfl)
        exact c14 (Int.toNat (385 - 0) + 1) 0 Z h (by omega) (by omega) hx hG fr_rf
      · skip
        exact c10 
theorem ct_72_32 {l : Launch} {D : va_G} {b0 : Nat} {ad : Nat → Nat} {Hb : Heap} {tau : Nat → Int64} {d n s : Nat} {S : Nat → xS} {Z : xZ} {h : mx_H} (hx : XH n s S Z h) (hG : GI n S Z)  {x0 : Int} (p0 : (-2147483648) ≤ x0 ∧ x0 ≤ 2147483647) : ∃ (z : Int) (Z' : xZ) (h' : mx_H), mx_Ca (tB l D b0 ad Hb tau) (d + 1) 72 [.ref 32, xI x0] h (some (xI z), h') ∧ XH n s S Z' h' ∧ GI n S Z' ∧ fr' [(33, (-1))] Z Z' ∧ (0 ≤ z ∧ z ≤ 1 ∧ (z = 0 ∨ (0 ≤ x0 ∧ x0 ≤ 9))) := by
  obtain ⟨r, hca, z, Z', h', e, q⟩ := Jmt (B := tB l D b0 ad Hb tau) (M := mt_72) (mi := 72) (as := [.ref 32, xI x0]) (d := d + 0) (ls := [some (.ref 32), some (xI x0), none]) rfl rfl rfl rfl rfl rfl (cw_72_32 (l := l) (D := D) (b0 := b0) (ad := ad) (Hb := Hb) (tau := tau) (d := d) (Post := fun r => ∃ (z : Int) (Z' : xZ) (h' : mx_H), r = (some (xI z), h') ∧ XH n s S Z' h' ∧ GI n S Z' ∧ fr' [(33, (-1))] Z Z' ∧ (0 ≤ z ∧ z ≤ 1 ∧ (z = 0 ∨ (0 ≤ x0 ∧ x0 ≤ 9)))) hx hG p0 (fun z Z' h' q1 q2 q3 q4 => ⟨z, Z', h', rfl, q1, q2, q3, q4⟩))
  subst e; exact ⟨z, Z', h', hca, q⟩
set_option maxRecDepth 100000 in
theorem cw_71_32 {l : Launch} {D : va_G} {b0 : Nat} {ad : Nat → Nat} {Hb : Heap} {tau : Nat → Int64} {d n s : Nat} {S : Nat → xS} {Z : xZ} {h : mx_H} {Post : mx_R → Prop} (hx : XH n s S Z h) (hG : GI n S Z)  {x0 : Int} (p0 : (-2147483648) ≤ x0 ∧ x0 ≤ 2147483647) (hP : ∀ (Z' : xZ) (h' : mx_H), XH n s S Z' h' → GI n S Z' → fr' [(33, (-1))] Z Z' → Post (none, h')) : mx_J (tB l D b0 ad Hb tau) mt_71 (d + 1) 0 [some (.ref 32), some (xI x0)] [] h Post := by
    have a32 : 32 < n := lt83 (GI_n hG) rfl
    have s32 : S 32 = .inl (9, [2, 2, 2]) := GI_s hG 32 rfl
    have a33 : 33 < n := lt83 (GI_n hG) rfl
    have s33 : S 33 = .inr (.long, 3850, 1) := GI_s hG 33 rfl
    refine mx_J.step (sn_71 0) (fun _ _ => rfl) ?_
    refine JcI (z := 0) (show mx_Sn _ _ 1 (mx_const (.int 0) 2) from sn_71 1) rfl ?_
    obtain ⟨z1, Z1, h1, hc1, hx1, hG1, hf1, b1⟩ := ct_72_32 (d := d + 0) (l := l) (D := D) (b0 := b0) (ad := ad) (Hb := Hb) (tau := tau) hx hG (show (-2147483648) ≤ 0 ∧ 0 ≤ 2147483647 by omega)
    refine Jcv hx (show mx_Sn _ _ 2 (mx_callv 72 2 9 5) from sn_71 2) a32 s32 hc1 rfl rfl rfl ?_
    refine mx_J.step (sn_71 5) (fun _ _ => rfl) ?_
    refine mx_J.step (sn_71 6) (fun _ _ => rfl) ?_
    have c24 : ∀  (Z3 : xZ) (h3 : mx_H), XH n s S Z3 h3 → GI n S Z3 → fr' [(33, (-1))] Z1 Z3 → mx_J (tB l D b0 ad Hb tau) mt_71 (d + 1) 24 [some (.ref 32), some (xI x0)] [] h3 Post := by
      intro Z3 h3 hx3 hG3 hf3
      exact mx_J.ret (sn_71 24) (fun _ _ => rfl) (hP Z3 h3 hx3 hG3 (fr_tr (M := [(33, (-1))]) (fr_tr (M := [(33, (-1))]) fr_rf (hf1) (M1 := []) rfl rfl) (hf3) rfl rfl))
    refine Jif_lt (show mx_Sn _ _ 7 (mx_if_lt 24 10) from sn_71 7) (by omega) (fun q4 => ?_) (fun q4 => ?_)
    · skip
      exact c24 Z1 h1 hx1 hG1 fr_rf
    · skip
      refine mx_J.step (sn_71 10) (fun _ _ => rfl) ?_
      refine JcI (z := 385) (show mx_Sn _ _ 11 (mx_const (.int 385) 14) from sn_71 11) rfl ?_
      refine Jicmp_ge (show mx_Sn _ _ 14 (mx_icmp_ge 24 17) from sn_71 14) (by omega) (by omega) (fun q5 => ?_) (fun q5 => ?_)
      · skip
        exact c24 Z1 h1 hx1 hG1 fr_rf
      · skip
        refine mx_J.step (sn_71 17) (fun _ _ => rfl) ?_
        refine JgetR (g := 2) (b := 33) hx1 (show mx_Sn _ _ 18 (mx_getf 9 2 21) from sn_71 18) a32 s32 rfl rfl (hG1.prr 32 2 rfl) ?_
        refine mx_J.step (sn_71 21) (fun _ _ => rfl) ?_
        refine JcL (z := 1) (show mx_Sn _ _ 22 (mx_const (.long 1) 23) from sn_71 22) rfl ?_
        refine JlastL hx1 (show mx_Sn _ _ 23 (mx_last 1 24) from sn_71 23) a33 s33 rfl (by omega) (fun Z7 h7 hx7 hE7 => ?_)
        have hG7 := GI_up hG1 hE7 (show (-9223372036854775808) ≤ 1 ∧ 1 ≤ 9223372036854775807 by omega) trivial rfl
        exact c24 Z7 h7 hx7 hG7 (fr_tr (M := [(33, (-1))]) fr_rf (fr_ua hE7) (M1 := []) rfl rfl)
theorem ct_71_32 {l : Launch} {D : va_G} {b0 : Nat} {ad : Nat → Nat} {Hb : Heap} {tau : Nat → Int64} {d n s : Nat} {S : Nat → xS} {Z : xZ} {h : mx_H} (hx : XH n s S Z h) (hG : GI n S Z)  {x0 : Int} (p0 : (-2147483648) ≤ x0 ∧ x0 ≤ 2147483647) : ∃ (Z' : xZ) (h' : mx_H), mx_Ca (tB l D b0 ad Hb tau) (d + 2) 71 [.ref 32, xI x0] h (none, h') ∧ XH n s S Z' h' ∧ GI n S Z' ∧ fr' [(33, (-1))] Z Z' := by
  obtain ⟨r, hca, Z', h', e, q⟩ := Jmt (B := tB l D b0 ad Hb tau) (M := mt_71) (mi := 71) (as := [.ref 32, xI x0]) (d := d + 1) (ls := [some (.ref 32), some (xI x0)]) rfl rfl rfl rfl rfl rfl (cw_71_32 (l := l) (D := D) (b0 := b0) (ad := ad) (Hb := Hb) (tau := tau) (d := d) (Post := fun r => ∃ (Z' : xZ) (h' : mx_H), r = (none, h') ∧ XH n s S Z' h' ∧ GI n S Z' ∧ fr' [(33, (-1))] Z Z') hx hG p0 (fun Z' h' q1 q2 q3 => ⟨Z', h', rfl, q1, q2, q3⟩))
  subst e; exact ⟨Z', h', hca, q⟩
set_option maxRecDepth 100000 in
theorem cw_73_32 {l : Launch} {D : va_G} {b0 : Nat} {ad : Nat → Nat} {Hb : Heap} {tau : Nat → Int64} {d n s : Nat} {S : Nat → xS} {Z : xZ} {h : mx_H} {Post : mx_R → Prop} (hx : XH n s S Z h) (hG : GI n S Z)  {x0 x1 : Int} (p0 : 0 ≤ x0 ∧ x0 ≤ 39) (p1 : (-2147483648) ≤ x1 ∧ x1 ≤ 2147483647) (hP : ∀ (Z' : xZ) (h' : mx_H), XH n s S Z' h' → GI n S Z' → fr' [(14, (-1)), (16, (-1)), (17, (-1)), (18, (-1)), (19, (-1)), (33, (-1))] Z Z' → Post (none, h')) : mx_J (tB l D b0 ad Hb tau) mt_73 (d + 4) 0 [some (.ref 32), some (xI x0), some (xI x1), none, none, none, none, none] [] h Post := by
    have a7 : 7 < n := lt83 (GI_n hG) rfl
    have s7 : S 7 = .inl (0, [2, 2, 2, 2, 0, 0]) := GI_s hG 7 rfl
    have a12 : 12 < n := lt83 (GI_n hG) rfl
    have s12 : S 12 = .inl (4, [2, 2, 0, 2, 2, 2, 2, 2, 2]) := GI_s hG 12 rfl
    have a32 : 32 < n := lt83 (GI_n hG) rfl
    have s32 : S 32 = .inl (9, [2, 2, 2]) := GI_s hG 32 rfl
    have a33 : 33 < n := lt83 (GI_n hG) rfl
    have s33 : S 33 = .inr (.long, 3850, 1) := GI_s hG 33 rfl
    refine mx_J.step (sn_73 0) (fun _ _ => rfl) ?_
    have c14 : ∀  (Z2 : xZ) (h2 : mx_H), XH n s S Z2 h2 → GI n S Z2 → fr' [(33, (-1))] Z Z2 → mx_J (tB l D b0 ad Hb tau) mt_73 (d + 4) 14 [some (.ref 32), some (xI x0), some (xI x1), none, none, none, none, none] [] h2 Post := by
      intro Z2 h2 hx2 hG2 hf2
      exact mx_J.ret (sn_73 14) (fun _ _ => rfl) (hP Z2 h2 hx2 hG2 (fr_tr (M := [(14, (-1)), (16, (-1)), (17, (-1)), (18, (-1)), (19, (-1)), (33, (-1))]) fr_rf (hf2) (M1 := []) rfl rfl))
    refine Jif_lt (show mx_Sn _ _ 1 (mx_if_lt 14 4) from sn_73 1) (by omega) (fun q3 => ?_) (fun q3 => ?_)
    · skip
      exact c14 Z h hx hG fr_rf
    · skip
      refine mx_J.step (sn_73 4) (fun _ _ => rfl) ?_
      refine mx_J.step (sn_73 5) (fun _ _ => rfl) ?_
      refine JcI (z := 1) (show mx_Sn _ _ 6 (mx_const (.int 1) 7) from sn_73 6) rfl ?_
      refine Jiadd (show mx_Sn _ _ 7 (mx_iadd 8) from sn_73 7) ?_
      obtain ⟨z4, Z4, h4, hc4, hx4, hG4, hf4, b4⟩ := ct_72_32 (d := d + 3) (l := l) (D := D) (b0 := b0) (ad := ad) (Hb := Hb) (tau := tau) hx hG (show (-2147483648) ≤ x0 + 1 ∧ x0 + 1 ≤ 2147483647 by omega)
      refine Jcv hx (show mx_Sn _ _ 8 (mx_callv 72 2 9 11) from sn_73 8) a32 s32 hc4 rfl rfl rfl ?_
      refine Jif_ne (show mx_Sn _ _ 11 (mx_if_ne 15 14) from sn_73 11) (by omega) (fun q5 => ?_) (fun q5 => ?_)
      · skip
        refine mx_J.step (sn_73 15) (fun _ _ => rfl) ?_
        refine JcI (z := 385) (show mx_Sn _ _ 16 (mx_const (.int 385) 19) from sn_73 16) rfl ?_
        refine Jimul (show mx_Sn _ _ 19 (mx_imul 20) from sn_73 19) ?_
        refine mx_J.step (ls2 := [some (.ref 32), some (xI x0), some (xI x1), some (xI (x0 * 385)), none, none, none, none]) (sn_73 20) (fun _ _ => rfl) ?_
        refine JcI (z := 0) (show mx_Sn _ _ 21 (mx_const (.int 0) 22) from sn_73 21) rfl ?_
        refine mx_J.step (ls2 := [some (.ref 32), some (xI x0), some (xI x1), some (xI (x0 * 385)), some (xI 0), none, none, none]) (sn_73 22) (fun _ _ => rfl) ?_
        have c24 : ∀ (m6 : Nat) (w6_4 : Int) (u6_5 : Option Value) (u6_6 : Option Value) (u6_7 : Option Value) (Z7 : xZ) (h7 : mx_H), 385 - w6_4 < (m6 : Int) → 0 ≤ w6_4 ∧ w6_4 ≤ 385 → XH n s S Z7 h7 → GI n S Z7 → fr' [(14, (-1)), (16, (-1)), (17, (-1)), (18, (-1)), (19, (-1)), (33, (-1))] Z4 Z7 → mx_J (tB l D b0 ad Hb tau) mt_73 (d + 4) 24 [some (.ref 32), some (xI x0), some (xI x1), some (xI (x0 * 385)), some (xI w6_4), u6_5, u6_6, u6_7] [] h7 Post := by
          intro m6
          induction m6 with
          | zero => intro w6_4 u6_5 u6_6 u6_7 Z7 h7 q6 f6_0 hx7 hG7 hf7; exact absurd q6 (by omega)
          | succ m6 ih6 =>
            intro w6_4 u6_5 u6_6 u6_7 Z7 h7 q6 f6_0 hx7 hG7 hf7
            refine mx_J.step (sn_73 24) (fun _ _ => rfl) ?_
            refine mx_J.step (sn_73 26) (fun _ _ => rfl) ?_
            refine JgetR (g := 0) (b := 7) hx7 (show mx_Sn _ _ 27 (mx_getf 9 0 30) from sn_73 27) a32 s32 rfl rfl (hG7.prr 32 0 rfl) ?_
            have b10 : 0 ≤ Z 7 5 ∧ Z 7 5 ≤ 385 := hG.pr 7 5
            refine JgetI (g := 5) (z := Z 7 5) hx7 (show mx_Sn _ _ 30 (mx_getf 0 5 33) from sn_73 30) a7 s7 rfl rfl ((hf7 7 5 rfl).trans (hf4 7 5 rfl)) ?_
            refine Jicmp_ge (show mx_Sn _ _ 33 (mx_icmp_ge 149 36) from sn_73 33) (by omega) (by omega) (fun q11 => ?_) (fun q11 => ?_)
            · skip
              exact mx_J.ret (sn_73 149) (fun _ _ => rfl) (hP Z7 h7 hx7 hG7 (fr_tr (M := [(14, (-1)), (16, (-1)), (17, (-1)), (18, (-1)), (19, (-1)), (33, (-1))]) (fr_tr (M := [(14, (-1)), (16, (-1)), (17, (-1)), (18, (-1)), (19, (-1)), (33, (-1))]) fr_rf (hf4) (M1 := []) rfl rfl) (hf7) rfl rfl))
            · skip
              refine mx_J.step (sn_73 36) (fun _ _ => rfl) ?_
              refine JgetR (g := 2) (b := 33) hx7 (show mx_Sn _ _ 37 (mx_getf 9 2 40) from sn_73 37) a32 s32 rfl rfl (hG7.prr 32 2 rfl) ?_
              refine mx_J.step (sn_73 40) (fun _ _ => rfl) ?_
              refine mx_J.step (sn_73 41) (fun _ _ => rfl) ?_
              refine Jiadd (show mx_Sn _ _ 43 (mx_iadd 44) from sn_73 43) ?_
              have b13 : (-9223372036854775808) ≤ Z7 33 ((x0 * 385) + w6_4) ∧ Z7 33 ((x0 * 385) + w6_4) ≤ 9223372036854775807 := hG7.pr 33 ((x0 * 385) + w6_4)
              refine JlaldL (z := Z7 33 ((x0 * 385) + w6_4)) hx7 (show mx_Sn _ _ 44 (mx_lald 45) from sn_73 44) a33 s33 (by omega) rfl ?_
              refine JcL (z := 0) (show mx_Sn _ _ 45 (mx_const (.long 0) 46) from sn_73 45) rfl ?_
              have c64 : ∀ (k14_0 : Int), (-1) ≤ k14_0 ∧ k14_0 ≤ 18 → mx_J (tB l D b0 ad Hb tau) mt_73 (d + 4) 64 [some (.ref 32), some (xI x0), some (xI x1), some (xI (x0 * 385)), some (xI w6_4), u6_5, u6_6, u6_7] [xI k14_0] h7 Post := by
                intro k14_0 f14_0
                refine mx_J.step (ls2 := [some (.ref 32), some (xI x0), some (xI x1), some (xI (x0 * 385)), some (xI w6_4), some (xI k14_0), u6_6, u6_7]) (sn_73 64) (fun _ _ => rfl) ?_
                refine JcI (z := 0) (show mx_Sn _ _ 66 (mx_const (.int 0) 67) from sn_73 66) rfl ?_
                refine mx_J.step (ls2 := [some (.ref 32), some (xI x0), some (xI x1), some (xI (x0 * 385)), some (xI w6_4), some (xI k14_0), some (xI 0), u6_7]) (sn_73 67) (fun _ _ => rfl) ?_
                have c69 : ∀ (m15 : Nat) (w15_6 : Int) (u15_7 : Option Value) (Z16 : xZ) (h16 : mx_H), 19 - w15_6 < (m15 : Int) → 0 ≤ w15_6 ∧ w15_6 ≤ 19 → XH n s S Z16 h16 → GI n S Z16 → fr' [(14, (-1)), (16, (-1)), (17, (-1)), (18, (-1)), (19, (-1)), (33, (-1))] Z7 Z16 → mx_J (tB l D b0 ad Hb tau) mt_73 (d + 4) 69 [some (.ref 32), some (xI x0), some (xI x1), some (xI (x0 * 385)), some (xI w6_4), some (xI k14_0), some (xI w15_6), u15_7] [] h16 Post := by
                  intro m15
                  induction m15 with
                  | zero => intro w15_6 u15_7 Z16 h16 q15 f15_0 hx16 hG16 hf16; exact absurd q15 (by omega)
                  | succ m15 ih15 =>
                    intro w15_6 u15_7 Z16 h16 q15 f15_0 hx16 hG16 hf16
                    refine mx_J.step (sn_73 69) (fun _ _ => rfl) ?_
                    refine mx_J.step (sn_73 71) (fun _ _ => rfl) ?_
                    refine Jicmp_gt (show mx_Sn _ _ 73 (mx_icmp_gt 143 76) from sn_73 73) (by omega) (by omega) (fun q17 => ?_) (fun q17 => ?_)
                    · skip
                      refine Jiinc (z := w6_4) (cz := 1) (ls2 := [some (.ref 32), some (xI x0), some (xI x1), some (xI (x0 * 385)), some (xI (w6_4 + 1)), some (xI k14_0), some (xI w15_6), u15_7]) (show mx_Sn _ _ 143 (mx_iinc 4 1 146) from sn_73 143) rfl rfl rfl rfl ?_
                      refine mx_J.step (sn_73 146) (fun _ _ => rfl) ?_
                      exact ih6 (w6_4 + 1) (some (xI k14_0)) (some (xI w15_6)) u15_7 Z16 h16 (by omega) (by omega) hx16 hG16 (fr_tr (M := [(14, (-1)), (16, (-1)), (17, (-1)), (18, (-1)), (19, (-1)), (33, (-1))]) (fr_tr (M := [(14, (-1)), (16, (-1)), (17, (-1)), (18, (-1)), (19, (-1)), (33, (-1))]) fr_rf (hf7) (M1 := []) rfl rfl) (hf16) rfl rfl)
                    · skip
                      refine mx_J.step (sn_73 76) (fun _ _ => rfl) ?_
                      refine JgetR (g := 1) (b := 12) hx16 (show mx_Sn _ _ 77 (mx_getf 9 1 80) from sn_73 77) a32 s32 rfl rfl (hG16.prr 32 1 rfl) ?_
                      refine mx_J.step (sn_73 80) (fun _ _ => rfl) ?_
                      refine mx_J.step (sn_73 82) (fun _ _ => rfl) ?_
                      obtain ⟨z19, Z19, h19, hc19, hx19, hG19, hf19, b19⟩ := ct_26_12 (d := d + 0) (l := l) (D := D) (b0 := b0) (ad := ad) (Hb := Hb) (tau := tau) hx16 hG16 (show (-2147483648) ≤ w6_4 ∧ w6_4 ≤ 2147483647 by omega) (show (-2147483648) ≤ w15_6 ∧ w15_6 ≤ 2147483647 by omega)
                      refine Jcv hx16 (show mx_Sn _ _ 84 (mx_callv 26 3 4 87) from sn_73 84) a12 s12 hc19 rfl rfl rfl ?_
                      refine mx_J.step (ls2 := [some (.ref 32), some (xI x0), some (xI x1), some (xI (x0 * 385)), some (xI w6_4), some (xI k14_0), some (xI w15_6), some (xI z19)]) (sn_73 87) (fun _ _ => rfl) ?_
                      refine mx_J.step (sn_73 89) (fun _ _ => rfl) ?_
                      have c137 : ∀  (Z21 : xZ) (h21 : mx_H), XH n s S Z21 h21 → GI n S Z21 → fr' [(33, (-1))] Z19 Z21 → mx_J (tB l D b0 ad Hb tau) mt_73 (d + 4) 137 [some (.ref 32), some (xI x0), some (xI x1), some (xI (x0 * 385)), some (xI w6_4), some (xI k14_0), some (xI w15_6), some (xI z19)] [] h21 Post := by
                        intro Z21 h21 hx21 hG21 hf21
                        refine Jiinc (z := w15_6) (cz := 1) (ls2 := [some (.ref 32), some (xI x0), some (xI x1), some (xI (x0 * 385)), some (xI w6_4), some (xI k14_0), some (xI (w15_6 + 1)), some (xI z19)]) (show mx_Sn _ _ 137 (mx_iinc 6 1 140) from sn_73 137) rfl rfl rfl rfl ?_
                        refine mx_J.step (sn_73 140) (fun _ _ => rfl) ?_
                        exact ih15 (w15_6 + 1) (some (xI z19)) Z21 h21 (by omega) (by omega) hx21 hG21 (fr_tr (M := [(14, (-1)), (16, (-1)), (17, (-1)), (18, (-1)), (19, (-1)), (33, (-1))]) (fr_tr (M := [(14, (-1)), (16, (-1)), (17, (-1)), (18, (-1)), (19, (-1)), (33, (-1))]) (fr_tr (M := [(14, (-1)), (16, (-1)), (17, (-1)), (18, (-1)), (19, (-1)), (33, (-1))]) fr_rf (hf16) (M1 := []) rfl rfl) (hf19) rfl rfl) (hf21) rfl rfl)
                      refine Jif_lt (show mx_Sn _ _ 91 (mx_if_lt 137 94) from sn_73 91) (by omega) (fun q22 => ?_) (fun q22 => ?_)
                      · skip
                        exact c137 Z19 h19 hx19 hG19 fr_rf
                      · skip
                        refine mx_J.step (sn_73 94) (fun _ _ => rfl) ?_
                        refine JcI (z := (-1)) (show mx_Sn _ _ 95 (mx_const (.int (-1)) 96) from sn_73 95) rfl ?_
                        have c112 : mx_J (tB l D b0 ad Hb tau) mt_73 (d + 4) 112 [some (.ref 32), some (xI x0), some (xI x1), some (xI (x0 * 385)), some (xI w6_4), some (xI k14_0), some (xI w15_6), some (xI z19)] [] h19 Post := by
                          refine mx_J.step (sn_73 112) (fun _ _ => rfl) ?_
                          refine JgetR (g := 2) (b := 33) hx19 (show mx_Sn _ _ 113 (mx_getf 9 2 116) from sn_73 113) a32 s32 rfl rfl (hG19.prr 32 2 rfl) ?_
                          refine mx_J.step (sn_73 116) (fun _ _ => rfl) ?_
                          refine JcI (z := 385) (show mx_Sn _ _ 117 (mx_const (.int 385) 120) from sn_73 117) rfl ?_
                          refine Jiadd (show mx_Sn _ _ 120 (mx_iadd 121) from sn_73 120) ?_
                          refine mx_J.step (sn_73 121) (fun _ _ => rfl) ?_
                          refine Jiadd (show mx_Sn _ _ 123 (mx_iadd 124) from sn_73 123) ?_
                          refine mx_J.step (sn_73 124) (fun _ _ => rfl) ?_
                          have b25 : (-9223372036854775808) ≤ Z16 33 (((x0 * 385) + 385) + z19) ∧ Z16 33 (((x0 * 385) + 385) + z19) ≤ 9223372036854775807 := hG16.pr 33 (((x0 * 385) + 385) + z19)
                          refine JlaldL (z := Z16 33 (((x0 * 385) + 385) + z19)) hx19 (show mx_Sn _ _ 125 (mx_lald 126) from sn_73 125) a33 s33 (by omega) (hf19 33 (((x0 * 385) + 385) + z19) rfl) ?_
                          refine mx_J.step (sn_73 126) (fun _ _ => rfl) ?_
                          refine JgetR (g := 2) (b := 33) hx19 (show mx_Sn _ _ 127 (mx_getf 9 2 130) from sn_73 127) a32 s32 rfl rfl (hG19.prr 32 2 rfl) ?_
                          refine mx_J.step (sn_73 130) (fun _ _ => rfl) ?_
                          refine mx_J.step (sn_73 131) (fun _ _ => rfl) ?_
                          refine Jiadd (show mx_Sn _ _ 133 (mx_iadd 134) from sn_73 133) ?_
                          have b27 : (-9223372036854775808) ≤ Z16 33 ((x0 * 385) + w6_4) ∧ Z16 33 ((x0 * 385) + w6_4) ≤ 9223372036854775807 := hG16.pr 33 ((x0 * 385) + w6_4)
                          refine JlaldL (z := Z16 33 ((x0 * 385) + w6_4)) hx19 (show mx_Sn _ _ 134 (mx_lald 135) from sn_73 134) a33 s33 (by omega) (hf19 33 ((x0 * 385) + w6_4) rfl) ?_
                          refine JladdN (show mx_Sn _ _ 135 (mx_ladd 136) from sn_73 135) (fun y28 hy28 hq28 => ?_)
                          refine JlastL hx19 (show mx_Sn _ _ 136 (mx_last 1 137) from sn_73 136) a33 s33 rfl (by omega) (fun Z29 h29 hx29 hE29 => ?_)
                          have hG29 := GI_up hG19 hE29 (show (-9223372036854775808) ≤ y28 ∧ y28 ≤ 9223372036854775807 by omega) trivial rfl
                          exact c137 Z29 h29 hx29 hG29 (fr_tr (M := [(33, (-1))]) fr_rf (fr_ua hE29) (M1 := []) rfl rfl)
                        refine Jicmp_eq (show mx_Sn _ _ 96 (mx_icmp_eq 112 99) from sn_73 96) (by omega) (by omega) (fun q30 => ?_) (fun q30 => ?_)
                        · skip
                          exact c112 
                        · skip
                          refine mx_J.step (sn_73 99) (fun _ _ => rfl) ?_
                          refine JgetR (g := 0) (b := 7) hx19 (show mx_Sn _ _ 100 (mx_getf 9 0 103) from sn_73 100) a32 s32 rfl rfl (hG19.prr 32 0 rfl) ?_
                          refine mx_J.step (sn_73 103) (fun _ _ => rfl) ?_
                          have eq33 : Z19 7 5 = Z 7 5 := ((hf19 7 5 rfl).trans ((hf16 7 5 rfl).trans ((hf7 7 5 rfl).trans (hf4 7 5 rfl))))
                          have eq34 : Z19 10 z19 = Z 10 z19 := ((hf19 10 z19 rfl).trans ((hf16 10 z19 rfl).trans ((hf7 10 z19 rfl).trans (hf4 10 z19 rfl))))
                          have b35 : 0 ≤ Z 10 z19 ∧ Z 10 z19 ≤ 18 := hG.pr 10 z19
                          obtain ⟨z32, hc32, b32⟩ := ct_5_7 (d := d + 3) (l := l) (D := D) (b0 := b0) (ad := ad) (Hb := Hb) (tau := tau) hx19 hG19 (show (-2147483648) ≤ z19 ∧ z19 ≤ 2147483647 by omega)
                          try rw [eq33] at b32
                          try rw [eq34] at b32
                          refine Jcv hx19 (show mx_Sn _ _ 105 (mx_callv 5 2 0 108) from sn_73 105) a7 s7 hc32 rfl rfl rfl ?_
                          refine mx_J.step (sn_73 108) (fun _ _ => rfl) ?_
                          refine Jicmp_ne (show mx_Sn _ _ 109 (mx_icmp_ne 137 112) from sn_73 109) (by omega) (by omega) (fun q36 => ?_) (fun q36 => ?_)
                          · skip
                            exact c137 Z19 h19 hx19 hG19 fr_rf
                          · skip
                            exact c112 
                exact c69 (Int.toNat (19 - 0) + 1) 0 u6_7 Z7 h7 (by omega) (by omega) hx7 hG7 fr_rf
              refine Jlif_le (show mx_Sn _ _ 46 (mx_lif_le 63 50) from sn_73 46) (by omega) (by omega) (fun q37 => ?_) (fun q37 => ?_)
              · skip
                refine JcI (z := (-1)) (show mx_Sn _ _ 63 (mx_const (.int (-1)) 64) from sn_73 63) rfl ?_
                exact c64 (-1) (by omega)
              · skip
                refine mx_J.step (sn_73 50) (fun _ _ => rfl) ?_
                refine JgetR (g := 0) (b := 7) hx7 (show mx_Sn _ _ 51 (mx_getf 9 0 54) from sn_73 51) a32 s32 rfl rfl (hG7.prr 32 0 rfl) ?_
                refine mx_J.step (sn_73 54) (fun _ _ => rfl) ?_
                refine JcI (z := 0) (show mx_Sn _ _ 56 (mx_const (.int 0) 57) from sn_73 56) rfl ?_
                have eq40 : Z7 9 (w6_4 * 18 + 0) = Z 9 (w6_4 * 18 + 0) := ((hf7 9 (w6_4 * 18 + 0) rfl).trans (hf4 9 (w6_4 * 18 + 0) rfl))
                have b41 : 0 ≤ Z 9 (w6_4 * 18 + 0) ∧ Z 9 (w6_4 * 18 + 0) ≤ 18 := hG.pr 9 (w6_4 * 18 + 0)
                have eq42 : Z7 10 w6_4 = Z 10 w6_4 := ((hf7 10 w6_4 rfl).trans (hf4 10 w6_4 rfl))
                have b43 : 0 ≤ Z 10 w6_4 ∧ Z 10 w6_4 ≤ 18 := hG.pr 10 w6_4
                have eq44 : Z7 7 5 = Z 7 5 := ((hf7 7 5 rfl).trans (hf4 7 5 rfl))
                obtain ⟨z39, hc39, b39⟩ := ct_6_7 (d := d + 2) (l := l) (D := D) (b0 := b0) (ad := ad) (Hb := Hb) (tau := tau) hx7 hG7 (show (-2147483648) ≤ w6_4 ∧ w6_4 ≤ 2147483647 by omega) (show (-2147483648) ≤ 0 ∧ 0 ≤ 2147483647 by omega)
                try rw [eq40] at b39
                try rw [eq42] at b39
                try rw [eq44] at b39
                refine Jcv hx7 (show mx_Sn _ _ 57 (mx_callv 6 3 0 60) from sn_73 57) a7 s7 hc39 rfl rfl rfl ?_
                refine mx_J.step (sn_73 60) (fun _ _ => rfl) ?_
                exact c64 z39 (by omega)
        exact c24 (Int.toNat (385 - 0) + 1) 0 none none none Z4 h4 (by omega) (by omega) hx4 hG4 fr_rf
      · skip
        exact c14 Z4 h4 hx4 hG4 (fr_tr (M := [(33, (-1))]) fr_rf (hf4) (M1 := []) rfl rfl)
theorem ct_73_32 {l : Launch} {D : va_G} {b0 : Nat} {ad : Nat → Nat} {Hb : Heap} {tau : Nat → Int64} {d n s : Nat} {S : Nat → xS} {Z : xZ} {h : mx_H} (hx : XH n s S Z h) (hG : GI n S Z)  {x0 x1 : Int} (p0 : 0 ≤ x0 ∧ x0 ≤ 39) (p1 : (-2147483648) ≤ x1 ∧ x1 ≤ 2147483647) : ∃ (Z' : xZ) (h' : mx_H), mx_Ca (tB l D b0 ad Hb tau) (d + 5) 73 [.ref 32, xI x0, xI x1] h (none, h') ∧ XH n s S Z' h' ∧ GI n S Z' ∧ fr' [(14, (-1)), (16, (-1)), (17, (-1)), (18, (-1)), (19, (-1)), (33, (-1))] Z Z' := by
  obtain ⟨r, hca, Z', h', e, q⟩ := Jmt (B := tB l D b0 ad Hb tau) (M := mt_73) (mi := 73) (as := [.ref 32, xI x0, xI x1]) (d := d + 4) (ls := [some (.ref 32), some (xI x0), some (xI x1), none, none, none, none, none]) rfl rfl rfl rfl rfl rfl (cw_73_32 (l := l) (D := D) (b0 := b0) (ad := ad) (Hb := Hb) (tau := tau) (d := d) (Post := fun r => ∃ (Z' : xZ) (h' : mx_H), r = (none, h') ∧ XH n s S Z' h' ∧ GI n S Z' ∧ fr' [(14, (-1)), (16, (-1)), (17, (-1)), (18, (-1)), (19, (-1)), (33, (-1))] Z Z') hx hG p0 p1 (fun Z' h' q1 q2 q3 => ⟨Z', h', rfl, q1, q2, q3⟩))
  subst e; exact ⟨Z', h', hca, q⟩
