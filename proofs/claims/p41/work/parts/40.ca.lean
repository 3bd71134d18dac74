set_option maxRecDepth 100000 in
theorem cw_2_7 {l : Launch} {D : va_G} {b0 : Nat} {ad : Nat → Nat} {Hb : Heap} {tau : Nat → Int64} {d n s : Nat} {S : Nat → xS} {Z : xZ} {h : mx_H} {Post : mx_R → Prop} (hx : XH n s S Z h) (hG : GI n S Z) {x0 x1 : Int} (p0 : 0 ≤ x0 ∧ x0 ≤ 18) (p1 : 0 ≤ x1 ∧ x1 ≤ 18) (hP : ∀ z : Int, 0 ≤ z ∧ z ≤ 385 ∧ z = wy (x0 * 19 + x1) → Post (some (xI z), h)) : mx_J (tB l D b0 ad Hb tau) mt_2 (d + 0) 0 [some (.ref 7), some (xI x0), some (xI x1)] [] h Post := by
    have a7 : 7 < n := lt83 hG.1 rfl
    have s7 : S 7 = .inl (0, [2, 2, 2, 2, 0, 0]) := hG.2.1 7 rfl
    have a8 : 8 < n := lt83 hG.1 rfl
    have s8 : S 8 = .inr (.int, 361, 0) := hG.2.1 8 rfl
    refine mx_J.step (sn_2 0) (fun _ _ => rfl) ?_
    refine JgetR (g := 0) (b := 8) hx (show mx_Sn _ _ 1 (mx_getf 0 0 4) from sn_2 1) a7 s7 rfl rfl (hG.prr 7 0 rfl) ?_
    refine mx_J.step (sn_2 4) (fun _ _ => rfl) ?_
    refine JcI (z := 19) (show mx_Sn _ _ 5 (mx_const (.int 19) 7) from sn_2 5) rfl ?_
    refine Jimul (show mx_Sn _ _ 7 (mx_imul 8) from sn_2 7) ?_
    refine mx_J.step (sn_2 8) (fun _ _ => rfl) ?_
    refine Jiadd (show mx_Sn _ _ 9 (mx_iadd 10) from sn_2 9) ?_
    have b1 : 0 ≤ Z 8 ((x0 * 19) + x1) ∧ Z 8 ((x0 * 19) + x1) ≤ 385 := hG.pr 8 ((x0 * 19) + x1)
    have b2 : ((0 : Int) ≤ ((x0 * 19) + x1) → (((x0 * 19) + x1) : Int) ≤ 360 → (Z 8 ((x0 * 19) + x1)) = wy ((x0 * 19) + x1)) := GI_ex hG 8 ((x0 * 19) + x1)
    refine JialdI (z := Z 8 ((x0 * 19) + x1)) hx (show mx_Sn _ _ 10 (mx_iald 11) from sn_2 10) a8 s8 (by omega) rfl ?_
    exact mx_J.ret (sn_2 11) (fun _ _ => rfl) (hP (Z 8 ((x0 * 19) + x1)) (by omega))
theorem ct_2_7 {l : Launch} {D : va_G} {b0 : Nat} {ad : Nat → Nat} {Hb : Heap} {tau : Nat → Int64} {d n s : Nat} {S : Nat → xS} {Z : xZ} {h : mx_H} (hx : XH n s S Z h) (hG : GI n S Z) {x0 x1 : Int} (p0 : 0 ≤ x0 ∧ x0 ≤ 18) (p1 : 0 ≤ x1 ∧ x1 ≤ 18) : ∃ z : Int, mx_Ca (tB l D b0 ad Hb tau) (d + 1) 2 [.ref 7, xI x0, xI x1] h (some (xI z), h) ∧ (0 ≤ z ∧ z ≤ 385 ∧ z = wy (x0 * 19 + x1)) := by
  obtain ⟨r, hca, z, e, hp⟩ := Jmt (B := tB l D b0 ad Hb tau) (M := mt_2) (mi := 2) (as := [.ref 7, xI x0, xI x1]) (d := d + 0) (ls := [some (.ref 7), some (xI x0), some (xI x1)]) rfl rfl rfl rfl rfl rfl (cw_2_7 (l := l) (D := D) (b0 := b0) (ad := ad) (Hb := Hb) (tau := tau) (d := d) (Post := fun r => ∃ z : Int, r = (some (xI z), h) ∧ (0 ≤ z ∧ z ≤ 385 ∧ z = wy (x0 * 19 + x1))) hx hG p0 p1 (fun z hz => ⟨z, rfl, hz⟩))
  subst e; exact ⟨z, hca, hp⟩
set_option maxRecDepth 100000 in
theorem cw_5_7 {l : Launch} {D : va_G} {b0 : Nat} {ad : Nat → Nat} {Hb : Heap} {tau : Nat → Int64} {d n s : Nat} {S : Nat → xS} {Z : xZ} {h : mx_H} {Post : mx_R → Prop} (hx : XH n s S Z h) (hG : GI n S Z) {x0 : Int} (p0 : (-2147483648) ≤ x0 ∧ x0 ≤ 2147483647) (hP : ∀ z : Int, 0 ≤ z ∧ z ≤ 18 ∧ (z = 0 ∨ (0 ≤ x0 ∧ x0 < Z 7 5 ∧ x0 ≤ 384 ∧ z = Z 10 x0)) → Post (some (xI z), h)) : mx_J (tB l D b0 ad Hb tau) mt_5 (d + 0) 0 [some (.ref 7), some (xI x0)] [] h Post := by
    have a7 : 7 < n := lt83 hG.1 rfl
    have s7 : S 7 = .inl (0, [2, 2, 2, 2, 0, 0]) := hG.2.1 7 rfl
    have a10 : 10 < n := lt83 hG.1 rfl
    have s10 : S 10 = .inr (.byte, 385, 0) := hG.2.1 10 rfl
    refine mx_J.step (sn_5 0) (fun _ _ => rfl) ?_
    have c22 : ∀ (k1_0 : Int), 0 ≤ k1_0 ∧ k1_0 ≤ 18 → (k1_0 = 0 ∨ (0 ≤ x0 ∧ x0 < Z 7 5 ∧ x0 ≤ 384 ∧ k1_0 = Z 10 x0)) → mx_J (tB l D b0 ad Hb tau) mt_5 (d + 0) 22 [some (.ref 7), some (xI x0)] [xI k1_0] h Post := by
      intro k1_0 f1_0 f1_1
      exact mx_J.ret (sn_5 22) (fun _ _ => rfl) (hP k1_0 (by omega))
    have c12 : mx_J (tB l D b0 ad Hb tau) mt_5 (d + 0) 12 [some (.ref 7), some (xI x0)] [] h Post := by
      refine JcI (z := 0) (show mx_Sn _ _ 12 (mx_const (.int 0) 13) from sn_5 12) rfl ?_
      refine mx_J.step (sn_5 13) (fun _ _ => rfl) ?_
      exact c22 0 (by omega) (by omega)
    refine Jif_lt (show mx_Sn _ _ 1 (mx_if_lt 12 4) from sn_5 1) (by omega) (fun q3 => ?_) (fun q3 => ?_)
    · skip
      exact c12 
    · skip
      refine mx_J.step (sn_5 4) (fun _ _ => rfl) ?_
      refine mx_J.step (sn_5 5) (fun _ _ => rfl) ?_
      have b4 : 0 ≤ Z 7 5 ∧ Z 7 5 ≤ 385 := hG.pr 7 5
      refine JgetI (g := 5) (z := Z 7 5) hx (show mx_Sn _ _ 6 (mx_getf 0 5 9) from sn_5 6) a7 s7 rfl rfl rfl ?_
      refine Jicmp_lt (show mx_Sn _ _ 9 (mx_icmp_lt 16 12) from sn_5 9) (by omega) (by omega) (fun q5 => ?_) (fun q5 => ?_)
      · skip
        refine mx_J.step (sn_5 16) (fun _ _ => rfl) ?_
        refine JgetR (g := 2) (b := 10) hx (show mx_Sn _ _ 17 (mx_getf 0 2 20) from sn_5 17) a7 s7 rfl rfl (hG.prr 7 2 rfl) ?_
        refine mx_J.step (sn_5 20) (fun _ _ => rfl) ?_
        have b6 : 0 ≤ Z 10 x0 ∧ Z 10 x0 ≤ 18 := hG.pr 10 x0
        refine JbaldI (z := Z 10 x0) hx (show mx_Sn _ _ 21 (mx_bald 22) from sn_5 21) a10 s10 (by omega) rfl ?_
        exact c22 (Z 10 x0) (by omega) (by omega)
      · skip
        exact c12 
theorem ct_5_7 {l : Launch} {D : va_G} {b0 : Nat} {ad : Nat → Nat} {Hb : Heap} {tau : Nat → Int64} {d n s : Nat} {S : Nat → xS} {Z : xZ} {h : mx_H} (hx : XH n s S Z h) (hG : GI n S Z) {x0 : Int} (p0 : (-2147483648) ≤ x0 ∧ x0 ≤ 2147483647) : ∃ z : Int, mx_Ca (tB l D b0 ad Hb tau) (d + 1) 5 [.ref 7, xI x0] h (some (xI z), h) ∧ (0 ≤ z ∧ z ≤ 18 ∧ (z = 0 ∨ (0 ≤ x0 ∧ x0 < Z 7 5 ∧ x0 ≤ 384 ∧ z = Z 10 x0))) := by
  obtain ⟨r, hca, z, e, hp⟩ := Jmt (B := tB l D b0 ad Hb tau) (M := mt_5) (mi := 5) (as := [.ref 7, xI x0]) (d := d + 0) (ls := [some (.ref 7), some (xI x0)]) rfl rfl rfl rfl rfl rfl (cw_5_7 (l := l) (D := D) (b0 := b0) (ad := ad) (Hb := Hb) (tau := tau) (d := d) (Post := fun r => ∃ z : Int, r = (some (xI z), h) ∧ (0 ≤ z ∧ z ≤ 18 ∧ (z = 0 ∨ (0 ≤ x0 ∧ x0 < Z 7 5 ∧ x0 ≤ 384 ∧ z = Z 10 x0)))) hx hG p0 (fun z hz => ⟨z, rfl, hz⟩))
  subst e; exact ⟨z, hca, hp⟩
set_option maxRecDepth 100000 in
theorem cw_6_7 {l : Launch} {D : va_G} {b0 : Nat} {ad : Nat → Nat} {Hb : Heap} {tau : Nat → Int64} {d n s : Nat} {S : Nat → xS} {Z : xZ} {h : mx_H} {Post : mx_R → Prop} (hx : XH n s S Z h) (hG : GI n S Z) {x0 x1 : Int} (p0 : (-2147483648) ≤ x0 ∧ x0 ≤ 2147483647) (p1 : (-2147483648) ≤ x1 ∧ x1 ≤ 2147483647) (hP : ∀ z : Int, 0 ≤ z ∧ z ≤ 18 ∧ (z = 0 ∨ z = Z 9 (x0 * 18 + x1)) → Post (some (xI z), h)) : mx_J (tB l D b0 ad Hb tau) mt_6 (d + 1) 0 [some (.ref 7), some (xI x0), some (xI x1)] [] h Post := by
    have a7 : 7 < n := lt83 hG.1 rfl
    have s7 : S 7 = .inl (0, [2, 2, 2, 2, 0, 0]) := hG.2.1 7 rfl
    have a9 : 9 < n := lt83 hG.1 rfl
    have s9 : S 9 = .inr (.byte, 6930, 0) := hG.2.1 9 rfl
    refine mx_J.step (sn_6 0) (fun _ _ => rfl) ?_
    have c28 : ∀ (k1_0 : Int), 0 ≤ k1_0 ∧ k1_0 ≤ 18 → (k1_0 = 0 ∨ k1_0 = Z 9 (x0 * 18 + x1)) → mx_J (tB l D b0 ad Hb tau) mt_6 (d + 1) 28 [some (.ref 7), some (xI x0), some (xI x1)] [xI k1_0] h Post := by
      intro k1_0 f1_0 f1_1
      exact mx_J.ret (sn_6 28) (fun _ _ => rfl) (hP k1_0 (by omega))
    have c13 : mx_J (tB l D b0 ad Hb tau) mt_6 (d + 1) 13 [some (.ref 7), some (xI x0), some (xI x1)] [] h Post := by
      refine JcI (z := 0) (show mx_Sn _ _ 13 (mx_const (.int 0) 14) from sn_6 13) rfl ?_
      refine mx_J.step (sn_6 14) (fun _ _ => rfl) ?_
      exact c28 0 (by omega) (by omega)
    refine Jif_lt (show mx_Sn _ _ 1 (mx_if_lt 13 4) from sn_6 1) (by omega) (fun q3 => ?_) (fun q3 => ?_)
    · skip
      exact c13 
    · skip
      refine mx_J.step (sn_6 4) (fun _ _ => rfl) ?_
      refine mx_J.step (sn_6 5) (fun _ _ => rfl) ?_
      refine mx_J.step (sn_6 6) (fun _ _ => rfl) ?_
      obtain ⟨z4, hc4, b4⟩ := ct_5_7 (d := d + 0) (l := l) (D := D) (b0 := b0) (ad := ad) (Hb := Hb) (tau := tau) hx hG (show (-2147483648) ≤ x0 ∧ x0 ≤ 2147483647 by omega)
      refine Jcv hx (show mx_Sn _ _ 7 (mx_callv 5 2 0 10) from sn_6 7) a7 s7 hc4 rfl rfl rfl ?_
      refine Jicmp_lt (show mx_Sn _ _ 10 (mx_icmp_lt 17 13) from sn_6 10) (by omega) (by omega) (fun q5 => ?_) (fun q5 => ?_)
      · skip
        refine mx_J.step (sn_6 17) (fun _ _ => rfl) ?_
        refine JgetR (g := 1) (b := 9) hx (show mx_Sn _ _ 18 (mx_getf 0 1 21) from sn_6 18) a7 s7 rfl rfl (hG.prr 7 1 rfl) ?_
        refine mx_J.step (sn_6 21) (fun _ _ => rfl) ?_
        refine JcI (z := 18) (show mx_Sn _ _ 22 (mx_const (.int 18) 24) from sn_6 22) rfl ?_
        refine Jimul (show mx_Sn _ _ 24 (mx_imul 25) from sn_6 24) ?_
        refine mx_J.step (sn_6 25) (fun _ _ => rfl) ?_
        refine Jiadd (show mx_Sn _ _ 26 (mx_iadd 27) from sn_6 26) ?_
        have b6 : 0 ≤ Z 9 ((x0 * 18) + x1) ∧ Z 9 ((x0 * 18) + x1) ≤ 18 := hG.pr 9 ((x0 * 18) + x1)
        refine JbaldI (z := Z 9 ((x0 * 18) + x1)) hx (show mx_Sn _ _ 27 (mx_bald 28) from sn_6 27) a9 s9 (by omega) rfl ?_
        exact c28 (Z 9 ((x0 * 18) + x1)) (by omega) (by omega)
      · skip
        exact c13 
theorem ct_6_7 {l : Launch} {D : va_G} {b0 : Nat} {ad : Nat → Nat} {Hb : Heap} {tau : Nat → Int64} {d n s : Nat} {S : Nat → xS} {Z : xZ} {h : mx_H} (hx : XH n s S Z h) (hG : GI n S Z) {x0 x1 : Int} (p0 : (-2147483648) ≤ x0 ∧ x0 ≤ 2147483647) (p1 : (-2147483648) ≤ x1 ∧ x1 ≤ 2147483647) : ∃ z : Int, mx_Ca (tB l D b0 ad Hb tau) (d + 2) 6 [.ref 7, xI x0, xI x1] h (some (xI z), h) ∧ (0 ≤ z ∧ z ≤ 18 ∧ (z = 0 ∨ z = Z 9 (x0 * 18 + x1))) := by
  obtain ⟨r, hca, z, e, hp⟩ := Jmt (B := tB l D b0 ad Hb tau) (M := mt_6) (mi := 6) (as := [.ref 7, xI x0, xI x1]) (d := d + 1) (ls := [some (.ref 7), some (xI x0), some (xI x1)]) rfl rfl rfl rfl rfl rfl (cw_6_7 (l := l) (D := D) (b0 := b0) (ad := ad) (Hb := Hb) (tau := tau) (d := d) (Post := fun r => ∃ z : Int, r = (some (xI z), h) ∧ (0 ≤ z ∧ z ≤ 18 ∧ (z = 0 ∨ z = Z 9 (x0 * 18 + x1)))) hx hG p0 p1 (fun z hz => ⟨z, rfl, hz⟩))
  subst e; exact ⟨z, hca, hp⟩
set_option maxRecDepth 100000 in
theorem cw_7_7 {l : Launch} {D : va_G} {b0 : Nat} {ad : Nat → Nat} {Hb : Heap} {tau : Nat → Int64} {d n s : Nat} {S : Nat → xS} {Z : xZ} {h : mx_H} {Post : mx_R → Prop} (hx : XH n s S Z h) (hG : GI n S Z) {x0 x1 : Int} (p0 : (-2147483648) ≤ x0 ∧ x0 ≤ 2147483647) (p1 : (-2147483648) ≤ x1 ∧ x1 ≤ 2147483647) (hP : ∀ z : Int, (-1) ≤ z ∧ z ≤ 17 → Post (some (xI z), h)) : mx_J (tB l D b0 ad Hb tau) mt_7 (d + 1) 0 [some (.ref 7), some (xI x0), some (xI x1), none, none] [] h Post := by
    have a7 : 7 < n := lt83 hG.1 rfl
    have s7 : S 7 = .inl (0, [2, 2, 2, 2, 0, 0]) := hG.2.1 7 rfl
    have a9 : 9 < n := lt83 hG.1 rfl
    have s9 : S 9 = .inr (.byte, 6930, 0) := hG.2.1 9 rfl
    refine mx_J.step (sn_7 0) (fun _ _ => rfl) ?_
    refine mx_J.step (sn_7 1) (fun _ _ => rfl) ?_
    obtain ⟨z1, hc1, b1⟩ := ct_5_7 (d := d + 0) (l := l) (D := D) (b0 := b0) (ad := ad) (Hb := Hb) (tau := tau) hx hG (show (-2147483648) ≤ x0 ∧ x0 ≤ 2147483647 by omega)
    refine Jcv hx (show mx_Sn _ _ 2 (mx_callv 5 2 0 5) from sn_7 2) a7 s7 hc1 rfl rfl rfl ?_
    refine mx_J.step (ls2 := [some (.ref 7), some (xI x0), some (xI x1), some (xI z1), none]) (sn_7 5) (fun _ _ => rfl) ?_
    refine JcI (z := 0) (show mx_Sn _ _ 6 (mx_const (.int 0) 7) from sn_7 6) rfl ?_
    refine mx_J.step (ls2 := [some (.ref 7), some (xI x0), some (xI x1), some (xI z1), some (xI 0)]) (sn_7 7) (fun _ _ => rfl) ?_
    have c9 : ∀ (m2 : Nat) (w2_4 : Int), 18 - w2_4 < (m2 : Int) → 0 ≤ w2_4 ∧ w2_4 ≤ 18 → mx_J (tB l D b0 ad Hb tau) mt_7 (d + 1) 9 [some (.ref 7), some (xI x0), some (xI x1), some (xI z1), some (xI w2_4)] [] h Post := by
      intro m2
      induction m2 with
      | zero => intro w2_4 q2 f2_0; exact absurd q2 (by omega)
      | succ m2 ih2 =>
        intro w2_4 q2 f2_0
        refine mx_J.step (sn_7 9) (fun _ _ => rfl) ?_
        refine mx_J.step (sn_7 11) (fun _ _ => rfl) ?_
        refine Jicmp_ge (show mx_Sn _ _ 12 (mx_icmp_ge 40 15) from sn_7 12) (by omega) (by omega) (fun q3 => ?_) (fun q3 => ?_)
        · skip
          refine JcI (z := (-1)) (show mx_Sn _ _ 40 (mx_const (.int (-1)) 41) from sn_7 40) rfl ?_
          exact mx_J.ret (sn_7 41) (fun _ _ => rfl) (hP (-1) (by omega))
        · skip
          refine mx_J.step (sn_7 15) (fun _ _ => rfl) ?_
          refine JgetR (g := 1) (b := 9) hx (show mx_Sn _ _ 16 (mx_getf 0 1 19) from sn_7 16) a7 s7 rfl rfl (hG.prr 7 1 rfl) ?_
          refine mx_J.step (sn_7 19) (fun _ _ => rfl) ?_
          refine JcI (z := 18) (show mx_Sn _ _ 20 (mx_const (.int 18) 22) from sn_7 20) rfl ?_
          refine Jimul (show mx_Sn _ _ 22 (mx_imul 23) from sn_7 22) ?_
          refine mx_J.step (sn_7 23) (fun _ _ => rfl) ?_
          refine Jiadd (show mx_Sn _ _ 25 (mx_iadd 26) from sn_7 25) ?_
          have b4 : 0 ≤ Z 9 ((x0 * 18) + w2_4) ∧ Z 9 ((x0 * 18) + w2_4) ≤ 18 := hG.pr 9 ((x0 * 18) + w2_4)
          refine JbaldI (z := Z 9 ((x0 * 18) + w2_4)) hx (show mx_Sn _ _ 26 (mx_bald 27) from sn_7 26) a9 s9 (by omega) rfl ?_
          refine mx_J.step (sn_7 27) (fun _ _ => rfl) ?_
          refine Jicmp_ne (show mx_Sn _ _ 28 (mx_icmp_ne 34 31) from sn_7 28) (by omega) (by omega) (fun q5 => ?_) (fun q5 => ?_)
          · skip
            refine Jiinc (z := w2_4) (cz := 1) (ls2 := [some (.ref 7), some (xI x0), some (xI x1), some (xI z1), some (xI (w2_4 + 1))]) (show mx_Sn _ _ 34 (mx_iinc 4 1 37) from sn_7 34) rfl rfl rfl rfl ?_
            refine mx_J.step (sn_7 37) (fun _ _ => rfl) ?_
            exact ih2 (w2_4 + 1) (by omega) (by omega)
          · skip
            refine mx_J.step (sn_7 31) (fun _ _ => rfl) ?_
            exact mx_J.ret (sn_7 33) (fun _ _ => rfl) (hP w2_4 (by omega))
    exact c9 (Int.toNat (18 - 0) + 1) 0 (by omega) (by omega)
theorem ct_7_7 {l : Launch} {D : va_G} {b0 : Nat} {ad : Nat → Nat} {Hb : Heap} {tau : Nat → Int64} {d n s : Nat} {S : Nat → xS} {Z : xZ} {h : mx_H} (hx : XH n s S Z h) (hG : GI n S Z) {x0 x1 : Int} (p0 : (-2147483648) ≤ x0 ∧ x0 ≤ 2147483647) (p1 : (-2147483648) ≤ x1 ∧ x1 ≤ 2147483647) : ∃ z : Int, mx_Ca (tB l D b0 ad Hb tau) (d + 2) 7 [.ref 7, xI x0, xI x1] h (some (xI z), h) ∧ ((-1) ≤ z ∧ z ≤ 17) := by
  obtain ⟨r, hca, z, e, hp⟩ := Jmt (B := tB l D b0 ad Hb tau) (M := mt_7) (mi := 7) (as := [.ref 7, xI x0, xI x1]) (d := d + 1) (ls := [some (.ref 7), some (xI x0), some (xI x1), none, none]) rfl rfl rfl rfl rfl rfl (cw_7_7 (l := l) (D := D) (b0 := b0) (ad := ad) (Hb := Hb) (tau := tau) (d := d) (Post := fun r => ∃ z : Int, r = (some (xI z), h) ∧ ((-1) ≤ z ∧ z ≤ 17)) hx hG p0 p1 (fun z hz => ⟨z, rfl, hz⟩))
  subst e; exact ⟨z, hca, hp⟩
set_option maxRecDepth 100000 in
theorem cw_10_7 {l : Launch} {D : va_G} {b0 : Nat} {ad : Nat → Nat} {Hb : Heap} {tau : Nat → Int64} {d n s : Nat} {S : Nat → xS} {Z : xZ} {h : mx_H} {Post : mx_R → Prop} (hx : XH n s S Z h) (hG : GI n S Z) {x0 x1 : Int} (p0 : (-2147483648) ≤ x0 ∧ x0 ≤ 2147483647) (p1 : (-2147483648) ≤ x1 ∧ x1 ≤ 2147483647) (hP : ∀ z : Int, 0 ≤ z ∧ z ≤ 1 → Post (some (xI z), h)) : mx_J (tB l D b0 ad Hb tau) mt_10 (d + 2) 0 [some (.ref 7), some (xI x0), some (xI x1), none, none] [] h Post := by
    have a7 : 7 < n := lt83 hG.1 rfl
    have s7 : S 7 = .inl (0, [2, 2, 2, 2, 0, 0]) := hG.2.1 7 rfl
    refine JcI (z := 0) (show mx_Sn _ _ 0 (mx_const (.int 0) 1) from sn_10 0) rfl ?_
    refine mx_J.step (ls2 := [some (.ref 7), some (xI x0), some (xI x1), some (xI 0), none]) (sn_10 1) (fun _ _ => rfl) ?_
    refine JcI (z := 0) (show mx_Sn _ _ 2 (mx_const (.int 0) 3) from sn_10 2) rfl ?_
    refine mx_J.step (ls2 := [some (.ref 7), some (xI x0), some (xI x1), some (xI 0), some (xI 0)]) (sn_10 3) (fun _ _ => rfl) ?_
    have c5 : ∀ (m1 : Nat) (w1_3 : Int) (w1_4 : Int), 18 - w1_4 < (m1 : Int) → 0 ≤ w1_3 ∧ w1_3 ≤ 2147483647 → 0 ≤ w1_4 ∧ w1_4 ≤ 18 → mx_J (tB l D b0 ad Hb tau) mt_10 (d + 2) 5 [some (.ref 7), some (xI x0), some (xI x1), some (xI w1_3), some (xI w1_4)] [] h Post := by
      intro m1
      induction m1 with
      | zero => intro w1_3 w1_4 q1 f1_0 f1_1; exact absurd q1 (by omega)
      | succ m1 ih1 =>
        intro w1_3 w1_4 q1 f1_0 f1_1
        refine mx_J.step (sn_10 5) (fun _ _ => rfl) ?_
        refine JcI (z := 18) (show mx_Sn _ _ 7 (mx_const (.int 18) 9) from sn_10 7) rfl ?_
        refine Jicmp_ge (show mx_Sn _ _ 9 (mx_icmp_ge 42 12) from sn_10 9) (by omega) (by omega) (fun q2 => ?_) (fun q2 => ?_)
        · skip
          refine JcI (z := 1) (show mx_Sn _ _ 42 (mx_const (.int 1) 43) from sn_10 42) rfl ?_
          exact mx_J.ret (show mx_Sn _ _ 43 (mx_zret) from sn_10 43) (fun _ _ => zr_ok (by omega)) (hP 1 (by omega))
        · skip
          refine mx_J.step (sn_10 12) (fun _ _ => rfl) ?_
          refine mx_J.step (sn_10 13) (fun _ _ => rfl) ?_
          refine mx_J.step (sn_10 14) (fun _ _ => rfl) ?_
          refine mx_J.step (sn_10 15) (fun _ _ => rfl) ?_
          obtain ⟨z3, hc3, b3⟩ := ct_6_7 (d := d + 0) (l := l) (D := D) (b0 := b0) (ad := ad) (Hb := Hb) (tau := tau) hx hG (show (-2147483648) ≤ x1 ∧ x1 ≤ 2147483647 by omega) (show (-2147483648) ≤ w1_4 ∧ w1_4 ≤ 2147483647 by omega)
          refine Jcv hx (show mx_Sn _ _ 17 (mx_callv 6 3 0 20) from sn_10 17) a7 s7 hc3 rfl rfl rfl ?_
          refine mx_J.step (sn_10 20) (fun _ _ => rfl) ?_
          refine mx_J.step (sn_10 21) (fun _ _ => rfl) ?_
          refine mx_J.step (sn_10 22) (fun _ _ => rfl) ?_
          obtain ⟨z4, hc4, b4⟩ := ct_6_7 (d := d + 0) (l := l) (D := D) (b0 := b0) (ad := ad) (Hb := Hb) (tau := tau) hx hG (show (-2147483648) ≤ x0 ∧ x0 ≤ 2147483647 by omega) (show (-2147483648) ≤ w1_4 ∧ w1_4 ≤ 2147483647 by omega)
          refine Jcv hx (show mx_Sn _ _ 24 (mx_callv 6 3 0 27) from sn_10 24) a7 s7 hc4 rfl rfl rfl ?_
          refine Jisub (show mx_Sn _ _ 27 (mx_isub 28) from sn_10 27) ?_
          refine JiaddN (show mx_Sn _ _ 28 (mx_iadd 29) from sn_10 28) (fun y5 hy5 hq5 => ?_)
          refine mx_J.step (ls2 := [some (.ref 7), some (xI x0), some (xI x1), some (xI y5), some (xI w1_4)]) (sn_10 29) (fun _ _ => rfl) ?_
          refine mx_J.step (sn_10 30) (fun _ _ => rfl) ?_
          refine Jif_ge (show mx_Sn _ _ 31 (mx_if_ge 36 34) from sn_10 31) (by omega) (fun q6 => ?_) (fun q6 => ?_)
          · skip
            refine Jiinc (z := w1_4) (cz := 1) (ls2 := [some (.ref 7), some (xI x0), some (xI x1), some (xI y5), some (xI (w1_4 + 1))]) (show mx_Sn _ _ 36 (mx_iinc 4 1 39) from sn_10 36) rfl rfl rfl rfl ?_
            refine mx_J.step (sn_10 39) (fun _ _ => rfl) ?_
            exact ih1 y5 (w1_4 + 1) (by omega) (by omega) (by omega)
          · skip
            refine JcI (z := 0) (show mx_Sn _ _ 34 (mx_const (.int 0) 35) from sn_10 34) rfl ?_
            exact mx_J.ret (show mx_Sn _ _ 35 (mx_zret) from sn_10 35) (fun _ _ => zr_ok (by omega)) (hP 0 (by omega))
    exact c5 (Int.toNat (18 - 0) + 1) 0 0 (by omega) (by omega) (by omega)
theorem ct_10_7 {l : Launch} {D : va_G} {b0 : Nat} {ad : Nat → Nat} {Hb : Heap} {tau : Nat → Int64} {d n s : Nat} {S : Nat → xS} {Z : xZ} {h : mx_H} (hx : XH n s S Z h) (hG : GI n S Z) {x0 x1 : Int} (p0 : (-2147483648) ≤ x0 ∧ x0 ≤ 2147483647) (p1 : (-2147483648) ≤ x1 ∧ x1 ≤ 2147483647) : ∃ z : Int, mx_Ca (tB l D b0 ad Hb tau) (d + 3) 10 [.ref 7, xI x0, xI x1] h (some (xI z), h) ∧ (0 ≤ z ∧ z ≤ 1) := by
  obtain ⟨r, hca, z, e, hp⟩ := Jmt (B := tB l D b0 ad Hb tau) (M := mt_10) (mi := 10) (as := [.ref 7, xI x0, xI x1]) (d := d + 2) (ls := [some (.ref 7), some (xI x0), some (xI x1), none, none]) rfl rfl rfl rfl rfl rfl (cw_10_7 (l := l) (D := D) (b0 := b0) (ad := ad) (Hb := Hb) (tau := tau) (d := d) (Post := fun r => ∃ z : Int, r = (some (xI z), h) ∧ (0 ≤ z ∧ z ≤ 1)) hx hG p0 p1 (fun z hz => ⟨z, rfl, hz⟩))
  subst e; exact ⟨z, hca, hp⟩
set_option maxRecDepth 100000 in
theorem cw_66_ {l : Launch} {D : va_G} {b0 : Nat} {ad : Nat → Nat} {Hb : Heap} {tau : Nat → Int64} {d n s : Nat} {S : Nat → xS} {Z : xZ} {h : mx_H} {Post : mx_R → Prop} (hx : XH n s S Z h) (hG : GI n S Z) {x0 x1 : Int} (p0 : (-2147483648) ≤ x0 ∧ x0 ≤ 2147483647) (p1 : (-2147483648) ≤ x1 ∧ x1 ≤ 2147483647) (hP : ∀ z : Int, 0 ≤ z ∧ z ≤ 1 → Post (some (xI z), h)) : mx_J (tB l D b0 ad Hb tau) mt_66 (d + 0) 0 [some (xI x0), some (xI x1)] [] h Post := by
    refine mx_J.step (sn_66 0) (fun _ _ => rfl) ?_
    have c14 : ∀ (k1_0 : Int), 0 ≤ k1_0 ∧ k1_0 ≤ 1 → mx_J (tB l D b0 ad Hb tau) mt_66 (d + 0) 14 [some (xI x0), some (xI x1)] [xI k1_0] h Post := by
      intro k1_0 f1_0
      exact mx_J.ret (show mx_Sn _ _ 14 (mx_zret) from sn_66 14) (fun _ _ => zr_ok (by omega)) (hP k1_0 (by omega))
    have c13 : mx_J (tB l D b0 ad Hb tau) mt_66 (d + 0) 13 [some (xI x0), some (xI x1)] [] h Post := by
      refine JcI (z := 0) (show mx_Sn _ _ 13 (mx_const (.int 0) 14) from sn_66 13) rfl ?_
      exact c14 0 (by omega)
    refine Jif_lt (show mx_Sn _ _ 1 (mx_if_lt 13 4) from sn_66 1) (by omega) (fun q3 => ?_) (fun q3 => ?_)
    · skip
      exact c13 
    · skip
      refine mx_J.step (sn_66 4) (fun _ _ => rfl) ?_
      refine mx_J.step (sn_66 5) (fun _ _ => rfl) ?_
      refine Jicmp_ge (show mx_Sn _ _ 6 (mx_icmp_ge 13 9) from sn_66 6) (by omega) (by omega) (fun q4 => ?_) (fun q4 => ?_)
      · skip
        exact c13 
      · skip
        refine JcI (z := 1) (show mx_Sn _ _ 9 (mx_const (.int 1) 10) from sn_66 9) rfl ?_
        refine mx_J.step (sn_66 10) (fun _ _ => rfl) ?_
        exact c14 1 (by omega)
theorem ct_66_ {l : Launch} {D : va_G} {b0 : Nat} {ad : Nat → Nat} {Hb : Heap} {tau : Nat → Int64} {d n s : Nat} {S : Nat → xS} {Z : xZ} {h : mx_H} (hx : XH n s S Z h) (hG : GI n S Z) {x0 x1 : Int} (p0 : (-2147483648) ≤ x0 ∧ x0 ≤ 2147483647) (p1 : (-2147483648) ≤ x1 ∧ x1 ≤ 2147483647) : ∃ z : Int, mx_Ca (tB l D b0 ad Hb tau) (d + 1) 66 [xI x0, xI x1] h (some (xI z), h) ∧ (0 ≤ z ∧ z ≤ 1) := by
  obtain ⟨r, hca, z, e, hp⟩ := Jmt (B := tB l D b0 ad Hb tau) (M := mt_66) (mi := 66) (as := [xI x0, xI x1]) (d := d + 0) (ls := [some (xI x0), some (xI x1)]) rfl rfl rfl rfl rfl rfl (cw_66_ (l := l) (D := D) (b0 := b0) (ad := ad) (Hb := Hb) (tau := tau) (d := d) (Post := fun r => ∃ z : Int, r = (some (xI z), h) ∧ (0 ≤ z ∧ z ≤ 1)) hx hG p0 p1 (fun z hz => ⟨z, rfl, hz⟩))
  subst e; exact ⟨z, hca, hp⟩
set_option maxRecDepth 100000 in
theorem cw_144_1_n {l : Launch} {D : va_G} {b0 : Nat} {ad : Nat → Nat} {Hb : Heap} {tau : Nat → Int64} {d n s : Nat} {S : Nat → xS} {Z : xZ} {h : mx_H} {Post : mx_R → Prop} (hx : XH n s S Z h) (hG : GI n S Z) {x0 : Int} (p0 : (-2147483648) ≤ x0 ∧ x0 ≤ (-1)) (hP : ∀ z : Int, 1 ≤ z ∧ z ≤ 1 → Post (some (xI z), h)) : mx_J (tB l D b0 ad Hb tau) mt_144 (d + 0) 0 [some (.ref 1), some (xI x0)] [] h Post := by
    refine mx_J.step (sn_144 0) (fun _ _ => rfl) ?_
    refine Jif_lt (show mx_Sn _ _ 1 (mx_if_lt 9 4) from sn_144 1) (by omega) (fun q1 => ?_) (fun q1 => ?_)
    · skip
      refine JcI (z := 1) (show mx_Sn _ _ 9 (mx_const (.int 1) 10) from sn_144 9) rfl ?_
      refine mx_J.step (sn_144 10) (fun _ _ => rfl) ?_
      exact mx_J.ret (show mx_Sn _ _ 14 (mx_zret) from sn_144 14) (fun _ _ => zr_ok (by omega)) (hP 1 (by omega))
    · skip
      exfalso; omega
theorem ct_144_1_n {l : Launch} {D : va_G} {b0 : Nat} {ad : Nat → Nat} {Hb : Heap} {tau : Nat → Int64} {d n s : Nat} {S : Nat → xS} {Z : xZ} {h : mx_H} (hx : XH n s S Z h) (hG : GI n S Z) {x0 : Int} (p0 : (-2147483648) ≤ x0 ∧ x0 ≤ (-1)) : ∃ z : Int, mx_Ca (tB l D b0 ad Hb tau) (d + 1) 144 [.ref 1, xI x0] h (some (xI z), h) ∧ (1 ≤ z ∧ z ≤ 1) := by
  obtain ⟨r, hca, z, e, hp⟩ := Jmt (B := tB l D b0 ad Hb tau) (M := mt_144) (mi := 144) (as := [.ref 1, xI x0]) (d := d + 0) (ls := [some (.ref 1), some (xI x0)]) rfl rfl rfl rfl rfl rfl (cw_144_1_n (l := l) (D := D) (b0 := b0) (ad := ad) (Hb := Hb) (tau := tau) (d := d) (Post := fun r => ∃ z : Int, r = (some (xI z), h) ∧ (1 ≤ z ∧ z ≤ 1)) hx hG p0 (fun z hz => ⟨z, rfl, hz⟩))
  subst e; exact ⟨z, hca, hp⟩
set_option maxRecDepth 100000 in
theorem cw_144_1_p {l : Launch} {D : va_G} {b0 : Nat} {ad : Nat → Nat} {Hb : Heap} {tau : Nat → Int64} {d n s : Nat} {S : Nat → xS} {Z : xZ} {h : mx_H} {Post : mx_R → Prop} (hx : XH n s S Z h) (hG : GI n S Z) {x0 : Int} (p0 : 4 ≤ x0 ∧ x0 ≤ 2147483647) (hP : ∀ z : Int, 1 ≤ z ∧ z ≤ 1 → Post (some (xI z), h)) : mx_J (tB l D b0 ad Hb tau) mt_144 (d + 0) 0 [some (.ref 1), some (xI x0)] [] h Post := by
    refine mx_J.step (sn_144 0) (fun _ _ => rfl) ?_
    have c9 : mx_J (tB l D b0 ad Hb tau) mt_144 (d + 0) 9 [some (.ref 1), some (xI x0)] [] h Post := by
      refine JcI (z := 1) (show mx_Sn _ _ 9 (mx_const (.int 1) 10) from sn_144 9) rfl ?_
      refine mx_J.step (sn_144 10) (fun _ _ => rfl) ?_
      exact mx_J.ret (show mx_Sn _ _ 14 (mx_zret) from sn_144 14) (fun _ _ => zr_ok (by omega)) (hP 1 (by omega))
    refine Jif_lt (show mx_Sn _ _ 1 (mx_if_lt 9 4) from sn_144 1) (by omega) (fun q2 => ?_) (fun q2 => ?_)
    · skip
      exact c9 
    · skip
      refine mx_J.step (sn_144 4) (fun _ _ => rfl) ?_
      refine JcI (z := 4) (show mx_Sn _ _ 5 (mx_const (.int 4) 6) from sn_144 5) rfl ?_
      refine Jicmp_lt (show mx_Sn _ _ 6 (mx_icmp_lt 13 9) from sn_144 6) (by omega) (by omega) (fun q3 => ?_) (fun q3 => ?_)
      · skip
        exfalso; omega
      · skip
        exact c9 
theorem ct_144_1_p {l : Launch} {D : va_G} {b0 : Nat} {ad : Nat → Nat} {Hb : Heap} {tau : Nat → Int64} {d n s : Nat} {S : Nat → xS} {Z : xZ} {h : mx_H} (hx : XH n s S Z h) (hG : GI n S Z) {x0 : Int} (p0 : 4 ≤ x0 ∧ x0 ≤ 2147483647) : ∃ z : Int, mx_Ca (tB l D b0 ad Hb tau) (d + 1) 144 [.ref 1, xI x0] h (some (xI z), h) ∧ (1 ≤ z ∧ z ≤ 1) := by
  obtain ⟨r, hca, z, e, hp⟩ := Jmt (B := tB l D b0 ad Hb tau) (M := mt_144) (mi := 144) (as := [.ref 1, xI x0]) (d := d + 0) (ls := [some (.ref 1), some (xI x0)]) rfl rfl rfl rfl rfl rfl (cw_144_1_p (l := l) (D := D) (b0 := b0) (ad := ad) (Hb := Hb) (tau := tau) (d := d) (Post := fun r => ∃ z : Int, r = (some (xI z), h) ∧ (1 ≤ z ∧ z ≤ 1)) hx hG p0 (fun z hz => ⟨z, rfl, hz⟩))
  subst e; exact ⟨z, hca, hp⟩
set_option maxRecDepth 100000 in
theorem cw_144_1_y {l : Launch} {D : va_G} {b0 : Nat} {ad : Nat → Nat} {Hb : Heap} {tau : Nat → Int64} {d n s : Nat} {S : Nat → xS} {Z : xZ} {h : mx_H} {Post : mx_R → Prop} (hx : XH n s S Z h) (hG : GI n S Z) {x0 : Int} (p0 : 0 ≤ x0 ∧ x0 ≤ 3) (hP : ∀ z : Int, 0 ≤ z ∧ z ≤ 0 → Post (some (xI z), h)) : mx_J (tB l D b0 ad Hb tau) mt_144 (d + 0) 0 [some (.ref 1), some (xI x0)] [] h Post := by
    refine mx_J.step (sn_144 0) (fun _ _ => rfl) ?_
    refine Jif_lt (show mx_Sn _ _ 1 (mx_if_lt 9 4) from sn_144 1) (by omega) (fun q1 => ?_) (fun q1 => ?_)
    · skip
      exfalso; omega
    · skip
      refine mx_J.step (sn_144 4) (fun _ _ => rfl) ?_
      refine JcI (z := 4) (show mx_Sn _ _ 5 (mx_const (.int 4) 6) from sn_144 5) rfl ?_
      refine Jicmp_lt (show mx_Sn _ _ 6 (mx_icmp_lt 13 9) from sn_144 6) (by omega) (by omega) (fun q2 => ?_) (fun q2 => ?_)
      · skip
        refine JcI (z := 0) (show mx_Sn _ _ 13 (mx_const (.int 0) 14) from sn_144 13) rfl ?_
        exact mx_J.ret (show mx_Sn _ _ 14 (mx_zret) from sn_144 14) (fun _ _ => zr_ok (by omega)) (hP 0 (by omega))
      · skip
        exfalso; omega
theorem ct_144_1_y {l : Launch} {D : va_G} {b0 : Nat} {ad : Nat → Nat} {Hb : Heap} {tau : Nat → Int64} {d n s : Nat} {S : Nat → xS} {Z : xZ} {h : mx_H} (hx : XH n s S Z h) (hG : GI n S Z) {x0 : Int} (p0 : 0 ≤ x0 ∧ x0 ≤ 3) : ∃ z : Int, mx_Ca (tB l D b0 ad Hb tau) (d + 1) 144 [.ref 1, xI x0] h (some (xI z), h) ∧ (0 ≤ z ∧ z ≤ 0) := by
  obtain ⟨r, hca, z, e, hp⟩ := Jmt (B := tB l D b0 ad Hb tau) (M := mt_144) (mi := 144) (as := [.ref 1, xI x0]) (d := d + 0) (ls := [some (.ref 1), some (xI x0)]) rfl rfl rfl rfl rfl rfl (cw_144_1_y (l := l) (D := D) (b0 := b0) (ad := ad) (Hb := Hb) (tau := tau) (d := d) (Post := fun r => ∃ z : Int, r = (some (xI z), h) ∧ (0 ≤ z ∧ z ≤ 0)) hx hG p0 (fun z hz => ⟨z, rfl, hz⟩))
  subst e; exact ⟨z, hca, hp⟩
set_option maxRecDepth 100000 in
theorem cw_85_44 {l : Launch} {D : va_G} {b0 : Nat} {ad : Nat → Nat} {Hb : Heap} {tau : Nat → Int64} {d n s : Nat} {S : Nat → xS} {Z : xZ} {h : mx_H} {Post : mx_R → Prop} (hx : XH n s S Z h) (hG : GI n S Z) {x0 : Int} (p0 : (-2147483648) ≤ x0 ∧ x0 ≤ 2147483647) (hP : ∀ z : Int, (-9223372036854775808) ≤ z ∧ z ≤ 9223372036854775807 ∧ (0 ≤ x0 → x0 ≤ 39 → z = Z 45 x0) → Post (some (xL z), h)) : mx_J (tB l D b0 ad Hb tau) mt_85 (d + 0) 0 [some (.ref 44), some (xI x0)] [] h Post := by
    have a44 : 44 < n := lt83 hG.1 rfl
    have s44 : S 44 = .inl (10, [2, 0, 0, 0]) := hG.2.1 44 rfl
    have a45 : 45 < n := lt83 hG.1 rfl
    have s45 : S 45 = .inr (.long, 40, 1) := hG.2.1 45 rfl
    refine mx_J.step (sn_85 0) (fun _ _ => rfl) ?_
    have c20 : ∀ (k1_0 : Int), (-9223372036854775808) ≤ k1_0 ∧ k1_0 ≤ 9223372036854775807 → (0 ≤ x0 → x0 ≤ 39 → k1_0 = Z 45 x0) → mx_J (tB l D b0 ad Hb tau) mt_85 (d + 0) 20 [some (.ref 44), some (xI x0)] [xL k1_0] h Post := by
      intro k1_0 f1_0 f1_1
      exact mx_J.ret (sn_85 20) (fun _ _ => rfl) (hP k1_0 (by omega))
    have c10 : mx_J (tB l D b0 ad Hb tau) mt_85 (d + 0) 10 [some (.ref 44), some (xI x0)] [] h Post := by
      refine JcL (z := 0) (show mx_Sn _ _ 10 (mx_const (.long 0) 11) from sn_85 10) rfl ?_
      refine mx_J.step (sn_85 11) (fun _ _ => rfl) ?_
      exact c20 0 (by omega) (by omega)
    refine Jif_lt (show mx_Sn _ _ 1 (mx_if_lt 10 4) from sn_85 1) (by omega) (fun q3 => ?_) (fun q3 => ?_)
    · skip
      exact c10 
    · skip
      refine mx_J.step (sn_85 4) (fun _ _ => rfl) ?_
      refine JcI (z := 40) (show mx_Sn _ _ 5 (mx_const (.int 40) 7) from sn_85 5) rfl ?_
      refine Jicmp_lt (show mx_Sn _ _ 7 (mx_icmp_lt 14 10) from sn_85 7) (by omega) (by omega) (fun q4 => ?_) (fun q4 => ?_)
      · skip
        refine mx_J.step (sn_85 14) (fun _ _ => rfl) ?_
        refine JgetR (g := 0) (b := 45) hx (show mx_Sn _ _ 15 (mx_getf 10 0 18) from sn_85 15) a44 s44 rfl rfl (hG.prr 44 0 rfl) ?_
        refine mx_J.step (sn_85 18) (fun _ _ => rfl) ?_
        have b5 : (-9223372036854775808) ≤ Z 45 x0 ∧ Z 45 x0 ≤ 9223372036854775807 := hG.pr 45 x0
        refine JlaldL (z := Z 45 x0) hx (show mx_Sn _ _ 19 (mx_lald 20) from sn_85 19) a45 s45 (by omega) rfl ?_
        exact c20 (Z 45 x0) (by omega) (by omega)
      · skip
        exact c10 
theorem ct_85_44 {l : Launch} {D : va_G} {b0 : Nat} {ad : Nat → Nat} {Hb : Heap} {tau : Nat → Int64} {d n s : Nat} {S : Nat → xS} {Z : xZ} {h : mx_H} (hx : XH n s S Z h) (hG : GI n S Z) {x0 : Int} (p0 : (-2147483648) ≤ x0 ∧ x0 ≤ 2147483647) : ∃ z : Int, mx_Ca (tB l D b0 ad Hb tau) (d + 1) 85 [.ref 44, xI x0] h (some (xL z), h) ∧ ((-9223372036854775808) ≤ z ∧ z ≤ 9223372036854775807 ∧ (0 ≤ x0 → x0 ≤ 39 → z = Z 45 x0)) := by
  obtain ⟨r, hca, z, e, hp⟩ := Jmt (B := tB l D b0 ad Hb tau) (M := mt_85) (mi := 85) (as := [.ref 44, xI x0]) (d := d + 0) (ls := [some (.ref 44), some (xI x0)]) rfl rfl rfl rfl rfl rfl (cw_85_44 (l := l) (D := D) (b0 := b0) (ad := ad) (Hb := Hb) (tau := tau) (d := d) (Post := fun r => ∃ z : Int, r = (some (xL z), h) ∧ ((-9223372036854775808) ≤ z ∧ z ≤ 9223372036854775807 ∧ (0 ≤ x0 → x0 ≤ 39 → z = Z 45 x0))) hx hG p0 (fun z hz => ⟨z, rfl, hz⟩))
  subst e; exact ⟨z, hca, hp⟩
set_option maxRecDepth 100000 in
theorem cw_86_44 {l : Launch} {D : va_G} {b0 : Nat} {ad : Nat → Nat} {Hb : Heap} {tau : Nat → Int64} {d n s : Nat} {S : Nat → xS} {Z : xZ} {h : mx_H} {Post : mx_R → Prop} (hx : XH n s S Z h) (hG : GI n S Z) {x0 x1 : Int} (p0 : (-9223372036854775808) ≤ x0 ∧ x0 ≤ 9223372036854775807) (p1 : (-9223372036854775808) ≤ x1 ∧ x1 ≤ 9223372036854775807) (hP : ∀ z : Int, 0 ≤ z ∧ z ≤ 1 ∧ (z = 1 → AB Z 45 (Z 44 2) x0 x1) → Post (some (xI z), h)) : mx_J (tB l D b0 ad Hb tau) mt_86 (d + 0) 0 [some (.ref 44), some (xL x0), none, some (xL x1), none, none] [] h Post := by
    have a44 : 44 < n := lt83 hG.1 rfl
    have s44 : S 44 = .inl (10, [2, 0, 0, 0]) := hG.2.1 44 rfl
    have a45 : 45 < n := lt83 hG.1 rfl
    have s45 : S 45 = .inr (.long, 40, 1) := hG.2.1 45 rfl
    refine JcI (z := 0) (show mx_Sn _ _ 0 (mx_const (.int 0) 1) from sn_86 0) rfl ?_
    refine mx_J.step (ls2 := [some (.ref 44), some (xL x0), none, some (xL x1), none, some (xI 0)]) (sn_86 1) (fun _ _ => rfl) ?_
    have c3 : ∀ (m1 : Nat) (w1_5 : Int), 40 - w1_5 < (m1 : Int) → 0 ≤ w1_5 ∧ w1_5 ≤ 40 → AB Z 45 w1_5 x0 x1 → mx_J (tB l D b0 ad Hb tau) mt_86 (d + 0) 3 [some (.ref 44), some (xL x0), none, some (xL x1), none, some (xI w1_5)] [] h Post := by
      intro m1
      induction m1 with
      | zero => intro w1_5 q1 f1_0 f1_1; exact absurd q1 (by omega)
      | succ m1 ih1 =>
        intro w1_5 q1 f1_0 f1_1
        refine mx_J.step (sn_86 3) (fun _ _ => rfl) ?_
        refine mx_J.step (sn_86 5) (fun _ _ => rfl) ?_
        have b2 : 0 ≤ Z 44 2 ∧ Z 44 2 ≤ 40 := hG.pr 44 2
        refine JgetI (g := 2) (z := Z 44 2) hx (show mx_Sn _ _ 6 (mx_getf 10 2 9) from sn_86 6) a44 s44 rfl rfl rfl ?_
        refine Jicmp_ge (show mx_Sn _ _ 9 (mx_icmp_ge 44 12) from sn_86 9) (by omega) (by omega) (fun q3 => ?_) (fun q3 => ?_)
        · skip
          refine JcI (z := 1) (show mx_Sn _ _ 44 (mx_const (.int 1) 45) from sn_86 44) rfl ?_
          exact mx_J.ret (show mx_Sn _ _ 45 (mx_zret) from sn_86 45) (fun _ _ => zr_ok (by omega)) (hP 1 (and3 (by omega) (fun hz => by first | exact absurd hz (by omega) | exact ab_mono (by assumption) (by omega) (by omega) (by omega))))
        · skip
          refine mx_J.step (sn_86 12) (fun _ _ => rfl) ?_
          refine JgetR (g := 0) (b := 45) hx (show mx_Sn _ _ 13 (mx_getf 10 0 16) from sn_86 13) a44 s44 rfl rfl (hG.prr 44 0 rfl) ?_
          refine mx_J.step (sn_86 16) (fun _ _ => rfl) ?_
          have b4 : (-9223372036854775808) ≤ Z 45 w1_5 ∧ Z 45 w1_5 ≤ 9223372036854775807 := hG.pr 45 w1_5
          refine JlaldL (z := Z 45 w1_5) hx (show mx_Sn _ _ 18 (mx_lald 19) from sn_86 18) a45 s45 (by omega) rfl ?_
          refine mx_J.step (sn_86 19) (fun _ _ => rfl) ?_
          have c36 : mx_J (tB l D b0 ad Hb tau) mt_86 (d + 0) 36 [some (.ref 44), some (xL x0), none, some (xL x1), none, some (xI w1_5)] [] h Post := by
            refine JcI (z := 0) (show mx_Sn _ _ 36 (mx_const (.int 0) 37) from sn_86 36) rfl ?_
            exact mx_J.ret (show mx_Sn _ _ 37 (mx_zret) from sn_86 37) (fun _ _ => zr_ok (by omega)) (hP 0 (and3 (by omega) (fun hz => by first | exact absurd hz (by omega) | exact ab_mono (by assumption) (by omega) (by omega) (by omega))))
          refine Jlif_lt (show mx_Sn _ _ 20 (mx_lif_lt 36 24) from sn_86 20) (by omega) (by omega) (fun q6 => ?_) (fun q6 => ?_)
          · skip
            exact c36 
          · skip
            refine mx_J.step (sn_86 24) (fun _ _ => rfl) ?_
            refine JgetR (g := 0) (b := 45) hx (show mx_Sn _ _ 25 (mx_getf 10 0 28) from sn_86 25) a44 s44 rfl rfl (hG.prr 44 0 rfl) ?_
            refine mx_J.step (sn_86 28) (fun _ _ => rfl) ?_
            have b7 : (-9223372036854775808) ≤ Z 45 w1_5 ∧ Z 45 w1_5 ≤ 9223372036854775807 := hG.pr 45 w1_5
            refine JlaldL (z := Z 45 w1_5) hx (show mx_Sn _ _ 30 (mx_lald 31) from sn_86 30) a45 s45 (by omega) rfl ?_
            refine mx_J.step (sn_86 31) (fun _ _ => rfl) ?_
            refine Jlif_le (show mx_Sn _ _ 32 (mx_lif_le 38 36) from sn_86 32) (by omega) (by omega) (fun q8 => ?_) (fun q8 => ?_)
            · skip
              refine Jiinc (z := w1_5) (cz := 1) (ls2 := [some (.ref 44), some (xL x0), none, some (xL x1), none, some (xI (w1_5 + 1))]) (show mx_Sn _ _ 38 (mx_iinc 5 1 41) from sn_86 38) rfl rfl rfl rfl ?_
              refine mx_J.step (sn_86 41) (fun _ _ => rfl) ?_
              exact ih1 (w1_5 + 1) (by omega) (by omega) (by first | exact ab_nil (by omega) | exact ab_ext (by assumption) (by omega))
            · skip
              exact c36 
    exact c3 (Int.toNat (40 - 0) + 1) 0 (by omega) (by omega) (by first | exact ab_nil (by omega) | exact ab_ext (by assumption) (by omega))
theorem ct_86_44 {l : Launch} {D : va_G} {b0 : Nat} {ad : Nat → Nat} {Hb : Heap} {tau : Nat → Int64} {d n s : Nat} {S : Nat → xS} {Z : xZ} {h : mx_H} (hx : XH n s S Z h) (hG : GI n S Z) {x0 x1 : Int} (p0 : (-9223372036854775808) ≤ x0 ∧ x0 ≤ 9223372036854775807) (p1 : (-9223372036854775808) ≤ x1 ∧ x1 ≤ 9223372036854775807) : ∃ z : Int, mx_Ca (tB l D b0 ad Hb tau) (d + 1) 86 [.ref 44, xL x0, xL x1] h (some (xI z), h) ∧ (0 ≤ z ∧ z ≤ 1 ∧ (z = 1 → AB Z 45 (Z 44 2) x0 x1)) := by
  obtain ⟨r, hca, z, e, hp⟩ := Jmt (B := tB l D b0 ad Hb tau) (M := mt_86) (mi := 86) (as := [.ref 44, xL x0, xL x1]) (d := d + 0) (ls := [some (.ref 44), some (xL x0), none, some (xL x1), none, none]) rfl rfl rfl rfl rfl rfl (cw_86_44 (l := l) (D := D) (b0 := b0) (ad := ad) (Hb := Hb) (tau := tau) (d := d) (Post := fun r => ∃ z : Int, r = (some (xI z), h) ∧ (0 ≤ z ∧ z ≤ 1 ∧ (z = 1 → AB Z 45 (Z 44 2) x0 x1))) hx hG p0 p1 (fun z hz => ⟨z, rfl, hz⟩))
  subst e; exact ⟨z, hca, hp⟩
set_option maxRecDepth 100000 in
theorem cw_87_44 {l : Launch} {D : va_G} {b0 : Nat} {ad : Nat → Nat} {Hb : Heap} {tau : Nat → Int64} {d n s : Nat} {S : Nat → xS} {Z : xZ} {h : mx_H} {Post : mx_R → Prop} (hx : XH n s S Z h) (hG : GI n S Z) {x0 : Int} (p0 : (-9223372036854775808) ≤ x0 ∧ x0 ≤ 9223372036854775807) (hP : ∀ z : Int, 0 ≤ z ∧ z ≤ 1 → Post (some (xI z), h)) : mx_J (tB l D b0 ad Hb tau) mt_87 (d + 0) 0 [some (.ref 44), some (xL x0), none, none] [] h Post := by
    have a44 : 44 < n := lt83 hG.1 rfl
    have s44 : S 44 = .inl (10, [2, 0, 0, 0]) := hG.2.1 44 rfl
    have a45 : 45 < n := lt83 hG.1 rfl
    have s45 : S 45 = .inr (.long, 40, 1) := hG.2.1 45 rfl
    refine JcI (z := 0) (show mx_Sn _ _ 0 (mx_const (.int 0) 1) from sn_87 0) rfl ?_
    refine mx_J.step (ls2 := [some (.ref 44), some (xL x0), none, some (xI 0)]) (sn_87 1) (fun _ _ => rfl) ?_
    have c2 : ∀ (m1 : Nat) (w1_3 : Int), 40 - w1_3 < (m1 : Int) → 0 ≤ w1_3 ∧ w1_3 ≤ 40 → mx_J (tB l D b0 ad Hb tau) mt_87 (d + 0) 2 [some (.ref 44), some (xL x0), none, some (xI w1_3)] [] h Post := by
      intro m1
      induction m1 with
      | zero => intro w1_3 q1 f1_0; exact absurd q1 (by omega)
      | succ m1 ih1 =>
        intro w1_3 q1 f1_0
        refine mx_J.step (sn_87 2) (fun _ _ => rfl) ?_
        refine mx_J.step (sn_87 3) (fun _ _ => rfl) ?_
        have b2 : 0 ≤ Z 44 2 ∧ Z 44 2 ≤ 40 := hG.pr 44 2
        refine JgetI (g := 2) (z := Z 44 2) hx (show mx_Sn _ _ 4 (mx_getf 10 2 7) from sn_87 4) a44 s44 rfl rfl rfl ?_
        refine Jicmp_ge (show mx_Sn _ _ 7 (mx_icmp_ge 29 10) from sn_87 7) (by omega) (by omega) (fun q3 => ?_) (fun q3 => ?_)
        · skip
          refine JcI (z := 0) (show mx_Sn _ _ 29 (mx_const (.int 0) 30) from sn_87 29) rfl ?_
          exact mx_J.ret (show mx_Sn _ _ 30 (mx_zret) from sn_87 30) (fun _ _ => zr_ok (by omega)) (hP 0 (by omega))
        · skip
          refine mx_J.step (sn_87 10) (fun _ _ => rfl) ?_
          refine JgetR (g := 0) (b := 45) hx (show mx_Sn _ _ 11 (mx_getf 10 0 14) from sn_87 11) a44 s44 rfl rfl (hG.prr 44 0 rfl) ?_
          refine mx_J.step (sn_87 14) (fun _ _ => rfl) ?_
          have b4 : (-9223372036854775808) ≤ Z 45 w1_3 ∧ Z 45 w1_3 ≤ 9223372036854775807 := hG.pr 45 w1_3
          refine JlaldL (z := Z 45 w1_3) hx (show mx_Sn _ _ 15 (mx_lald 16) from sn_87 15) a45 s45 (by omega) rfl ?_
          refine mx_J.step (sn_87 16) (fun _ _ => rfl) ?_
          refine Jlif_ne (show mx_Sn _ _ 17 (mx_lif_ne 23 21) from sn_87 17) (by omega) (by omega) (fun q5 => ?_) (fun q5 => ?_)
          · skip
            refine Jiinc (z := w1_3) (cz := 1) (ls2 := [some (.ref 44), some (xL x0), none, some (xI (w1_3 + 1))]) (show mx_Sn _ _ 23 (mx_iinc 3 1 26) from sn_87 23) rfl rfl rfl rfl ?_
            refine mx_J.step (sn_87 26) (fun _ _ => rfl) ?_
            exact ih1 (w1_3 + 1) (by omega) (by omega)
          · skip
            refine JcI (z := 1) (show mx_Sn _ _ 21 (mx_const (.int 1) 22) from sn_87 21) rfl ?_
            exact mx_J.ret (show mx_Sn _ _ 22 (mx_zret) from sn_87 22) (fun _ _ => zr_ok (by omega)) (hP 1 (by omega))
    exact c2 (Int.toNat (40 - 0) + 1) 0 (by omega) (by omega)
theorem ct_87_44 {l : Launch} {D : va_G} {b0 : Nat} {ad : Nat → Nat} {Hb : Heap} {tau : Nat → Int64} {d n s : Nat} {S : Nat → xS} {Z : xZ} {h : mx_H} (hx : XH n s S Z h) (hG : GI n S Z) {x0 : Int} (p0 : (-9223372036854775808) ≤ x0 ∧ x0 ≤ 9223372036854775807) : ∃ z : Int, mx_Ca (tB l D b0 ad Hb tau) (d + 1) 87 [.ref 44, xL x0] h (some (xI z), h) ∧ (0 ≤ z ∧ z ≤ 1) := by
  obtain ⟨r, hca, z, e, hp⟩ := Jmt (B := tB l D b0 ad Hb tau) (M := mt_87) (mi := 87) (as := [.ref 44, xL x0]) (d := d + 0) (ls := [some (.ref 44), some (xL x0), none, none]) rfl rfl rfl rfl rfl rfl (cw_87_44 (l := l) (D := D) (b0 := b0) (ad := ad) (Hb := Hb) (tau := tau) (d := d) (Post := fun r => ∃ z : Int, r = (some (xI z), h) ∧ (0 ≤ z ∧ z ≤ 1)) hx hG p0 (fun z hz => ⟨z, rfl, hz⟩))
  subst e; exact ⟨z, hca, hp⟩
set_option maxRecDepth 100000 in
theorem cw_84_44 {l : Launch} {D : va_G} {b0 : Nat} {ad : Nat → Nat} {Hb : Heap} {tau : Nat → Int64} {d n s : Nat} {S : Nat → xS} {Z : xZ} {h : mx_H} {Post : mx_R → Prop} (hx : XH n s S Z h) (hG : GI n S Z) {x0 x1 : Int} (p0 : (-2147483648) ≤ x0 ∧ x0 ≤ 2147483647) (p1 : (-9223372036854775808) ≤ x1 ∧ x1 ≤ 9223372036854775807) (hP : ∀ (Z' : xZ) (h' : mx_H), XH n s S Z' h' → GI n S Z' → fr' [(45, (-1))] Z Z' → Post (none, h')) : mx_J (tB l D b0 ad Hb tau) mt_84 (d + 0) 0 [some (.ref 44), some (xI x0), some (xL x1), none] [] h Post := by
    have a44 : 44 < n := lt83 hG.1 rfl
    have s44 : S 44 = .inl (10, [2, 0, 0, 0]) := hG.2.1 44 rfl
    have a45 : 45 < n := lt83 hG.1 rfl
    have s45 : S 45 = .inr (.long, 40, 1) := hG.2.1 45 rfl
    refine mx_J.step (sn_84 0) (fun _ _ => rfl) ?_
    have c10 : mx_J (tB l D b0 ad Hb tau) mt_84 (d + 0) 10 [some (.ref 44), some (xI x0), some (xL x1), none] [] h Post := by
      exact mx_J.ret (sn_84 10) (fun _ _ => rfl) (hP Z h hx hG fr_rf)
    refine Jif_lt (show mx_Sn _ _ 1 (mx_if_lt 10 4) from sn_84 1) (by omega) (fun q2 => ?_) (fun q2 => ?_)
    · skip
      exact c10 
    · skip
      refine mx_J.step (sn_84 4) (fun _ _ => rfl) ?_
      refine JcI (z := 40) (show mx_Sn _ _ 5 (mx_const (.int 40) 7) from sn_84 5) rfl ?_
      refine Jicmp_lt (show mx_Sn _ _ 7 (mx_icmp_lt 11 10) from sn_84 7) (by omega) (by omega) (fun q3 => ?_) (fun q3 => ?_)
      · skip
        refine mx_J.step (sn_84 11) (fun _ _ => rfl) ?_
        have b4 : 0 ≤ Z 44 1 ∧ Z 44 1 ≤ 3 := hG.pr 44 1
        refine JgetI (g := 1) (z := Z 44 1) hx (show mx_Sn _ _ 12 (mx_getf 10 1 15) from sn_84 12) a44 s44 rfl rfl rfl ?_
        have c85 : ∀  (Z6 : xZ) (h6 : mx_H), XH n s S Z6 h6 → GI n S Z6 → fr' [(45, (-1))] Z Z6 → mx_J (tB l D b0 ad Hb tau) mt_84 (d + 0) 85 [some (.ref 44), some (xI x0), some (xL x1), none] [] h6 Post := by
          intro Z6 h6 hx6 hG6 hf6
          exact mx_J.ret (sn_84 85) (fun _ _ => rfl) (hP Z6 h6 hx6 hG6 (fr_tr (M := [(45, (-1))]) fr_rf (hf6) (M1 := []) rfl rfl))
        refine Jtsw (z := Z 44 1) (show mx_Sn _ _ 15 (mx_tsw 0 2 [40, 53, 66] 78) from sn_84 15) (by omega) (fun q7 => ?_) (fun q7 => ?_)
        · skip
          refine mx_J.step (sn_84 78) (fun _ _ => rfl) ?_
          refine JgetR (g := 0) (b := 45) hx (show mx_Sn _ _ 79 (mx_getf 10 0 82) from sn_84 79) a44 s44 rfl rfl (hG.prr 44 0 rfl) ?_
          refine mx_J.step (sn_84 82) (fun _ _ => rfl) ?_
          refine mx_J.step (sn_84 83) (fun _ _ => rfl) ?_
          refine JlastL hx (show mx_Sn _ _ 84 (mx_last 1 85) from sn_84 84) a45 s45 rfl (by omega) (fun Z8 h8 hx8 hE8 => ?_)
          have hG8 := GI_up hG hE8 (show (-9223372036854775808) ≤ x1 ∧ x1 ≤ 9223372036854775807 by omega) trivial rfl
          exact c85 Z8 h8 hx8 hG8 (fr_tr (M := [(45, (-1))]) fr_rf (fr_ua hE8) (M1 := []) rfl rfl)
        · skip
          have e7 : Z 44 1 = 0 ∨ Z 44 1 = 1 ∨ Z 44 1 = 2 := by omega
          rcases e7 with e7 | e7 | e7
          · refine ⟨40, by rw [e7]; rfl, ?_⟩
            refine mx_J.step (sn_84 40) (fun _ _ => rfl) ?_
            refine JgetR (g := 0) (b := 45) hx (show mx_Sn _ _ 41 (mx_getf 10 0 44) from sn_84 41) a44 s44 rfl rfl (hG.prr 44 0 rfl) ?_
            refine mx_J.step (sn_84 44) (fun _ _ => rfl) ?_
            refine mx_J.step (sn_84 45) (fun _ _ => rfl) ?_
            refine Jl2i (show mx_Sn _ _ 46 (mx_l2i 47) from sn_84 46) (Jnorm fun y9 hy9 hq9 => ?_)
            refine Ji2bX (show mx_Sn _ _ 47 (mx_i2b 48) from sn_84 47) (fun y10 hy10 => ?_)
            refine Ji2l (show mx_Sn _ _ 48 (mx_i2l 49) from sn_84 48) (by omega) ?_
            refine JlastL hx (show mx_Sn _ _ 49 (mx_last 1 50) from sn_84 49) a45 s45 rfl (by omega) (fun Z11 h11 hx11 hE11 => ?_)
            have hG11 := GI_up hG hE11 (show (-9223372036854775808) ≤ y10 ∧ y10 ≤ 9223372036854775807 by omega) trivial rfl
            refine mx_J.step (sn_84 50) (fun _ _ => rfl) ?_
            exact c85 Z11 h11 hx11 hG11 (fr_tr (M := [(45, (-1))]) fr_rf (fr_ua hE11) (M1 := []) rfl rfl)
          · refine ⟨53, by rw [e7]; rfl, ?_⟩
            refine mx_J.step (sn_84 53) (fun _ _ => rfl) ?_
            refine JgetR (g := 0) (b := 45) hx (show mx_Sn _ _ 54 (mx_getf 10 0 57) from sn_84 54) a44 s44 rfl rfl (hG.prr 44 0 rfl) ?_
            refine mx_J.step (sn_84 57) (fun _ _ => rfl) ?_
            refine mx_J.step (sn_84 58) (fun _ _ => rfl) ?_
            refine Jl2i (show mx_Sn _ _ 59 (mx_l2i 60) from sn_84 59) (Jnorm fun y12 hy12 hq12 => ?_)
            refine Ji2sX (show mx_Sn _ _ 60 (mx_i2s 61) from sn_84 60) (fun y13 hy13 => ?_)
            refine Ji2l (show mx_Sn _ _ 61 (mx_i2l 62) from sn_84 61) (by omega) ?_
            refine JlastL hx (show mx_Sn _ _ 62 (mx_last 1 63) from sn_84 62) a45 s45 rfl (by omega) (fun Z14 h14 hx14 hE14 => ?_)
            have hG14 := GI_up hG hE14 (show (-9223372036854775808) ≤ y13 ∧ y13 ≤ 9223372036854775807 by omega) trivial rfl
            refine mx_J.step (sn_84 63) (fun _ _ => rfl) ?_
            exact c85 Z14 h14 hx14 hG14 (fr_tr (M := [(45, (-1))]) fr_rf (fr_ua hE14) (M1 := []) rfl rfl)
          · refine ⟨66, by rw [e7]; rfl, ?_⟩
            refine mx_J.step (sn_84 66) (fun _ _ => rfl) ?_
            refine JgetR (g := 0) (b := 45) hx (show mx_Sn _ _ 67 (mx_getf 10 0 70) from sn_84 67) a44 s44 rfl rfl (hG.prr 44 0 rfl) ?_
            refine mx_J.step (sn_84 70) (fun _ _ => rfl) ?_
            refine mx_J.step (sn_84 71) (fun _ _ => rfl) ?_
            refine Jl2i (show mx_Sn _ _ 72 (mx_l2i 73) from sn_84 72) (Jnorm fun y15 hy15 hq15 => ?_)
            refine Ji2l (show mx_Sn _ _ 73 (mx_i2l 74) from sn_84 73) (by omega) ?_
            refine JlastL hx (show mx_Sn _ _ 74 (mx_last 1 75) from sn_84 74) a45 s45 rfl (by omega) (fun Z16 h16 hx16 hE16 => ?_)
            have hG16 := GI_up hG hE16 (show (-9223372036854775808) ≤ y15 ∧ y15 ≤ 9223372036854775807 by omega) trivial rfl
            refine mx_J.step (sn_84 75) (fun _ _ => rfl) ?_
            exact c85 Z16 h16 hx16 hG16 (fr_tr (M := [(45, (-1))]) fr_rf (fr_ua hE16) (M1 := []) rfl rfl)
      · skip
        exact c10 
theorem ct_84_44 {l : Launch} {D : va_G} {b0 : Nat} {ad : Nat → Nat} {Hb : Heap} {tau : Nat → Int64} {d n s : Nat} {S : Nat → xS} {Z : xZ} {h : mx_H} (hx : XH n s S Z h) (hG : GI n S Z) {x0 x1 : Int} (p0 : (-2147483648) ≤ x0 ∧ x0 ≤ 2147483647) (p1 : (-9223372036854775808) ≤ x1 ∧ x1 ≤ 9223372036854775807) : ∃ (Z' : xZ) (h' : mx_H), mx_Ca (tB l D b0 ad Hb tau) (d + 1) 84 [.ref 44, xI x0, xL x1] h (none, h') ∧ XH n s S Z' h' ∧ GI n S Z' ∧ fr' [(45, (-1))] Z Z' := by
  obtain ⟨r, hca, Z', h', e, q⟩ := Jmt (B := tB l D b0 ad Hb tau) (M := mt_84) (mi := 84) (as := [.ref 44, xI x0, xL x1]) (d := d + 0) (ls := [some (.ref 44), some (xI x0), some (xL x1), none]) rfl rfl rfl rfl rfl rfl (cw_84_44 (l := l) (D := D) (b0 := b0) (ad := ad) (Hb := Hb) (tau := tau) (d := d) (Post := fun r => ∃ (Z' : xZ) (h' : mx_H), r = (none, h') ∧ XH n s S Z' h' ∧ GI n S Z' ∧ fr' [(45, (-1))] Z Z') hx hG p0 p1 (fun Z' h' q1 q2 q3 => ⟨Z', h', rfl, q1, q2, q3⟩))
  subst e; exact ⟨Z', h', hca, q⟩
set_option maxRecDepth 100000 in
theorem cw_285_45 {l : Launch} {D : va_G} {b0 : Nat} {ad : Nat → Nat} {Hb : Heap} {tau : Nat → Int64} {d n s : Nat} {S : Nat → xS} {Z : xZ} {h : mx_H} {Post : mx_R → Prop} (hx : XH n s S Z h) (hG : GI n S Z) {x0 : Int} (p0 : (-9223372036854775808) ≤ x0 ∧ x0 ≤ 9223372036854775807) (hP : ∀ (Z' : xZ) (h' : mx_H), XH n s S Z' h' → GI n S Z' → fr' [(45, (-1))] Z Z' → Post (none, h')) : mx_J (tB l D b0 ad Hb tau) mt_285 (d + 0) 0 [some (.ref 45), some (xL x0), none, none, none] [] h Post := by
    have a45 : 45 < n := lt83 hG.1 rfl
    have s45 : S 45 = .inr (.long, 40, 1) := hG.2.1 45 rfl
    refine JcI (z := 0) (show mx_Sn _ _ 0 (mx_const (.int 0) 1) from sn_285 0) rfl ?_
    refine mx_J.step (ls2 := [some (.ref 45), some (xL x0), none, some (xI 0), none]) (sn_285 1) (fun _ _ => rfl) ?_
    refine mx_J.step (sn_285 2) (fun _ _ => rfl) ?_
    refine JalenI (z := 40) hx (show mx_Sn _ _ 3 (mx_alen 4) from sn_285 3) a45 s45 (by decide) rfl ?_
    refine mx_J.step (ls2 := [some (.ref 45), some (xL x0), none, some (xI 0), some (xI 40)]) (sn_285 4) (fun _ _ => rfl) ?_
    have c6 : ∀ (m1 : Nat) (w1_3 : Int) (Z2 : xZ) (h2 : mx_H), 40 - w1_3 < (m1 : Int) → 0 ≤ w1_3 ∧ w1_3 ≤ 40 → XH n s S Z2 h2 → GI n S Z2 → fr' [(45, (-1))] Z Z2 → mx_J (tB l D b0 ad Hb tau) mt_285 (d + 0) 6 [some (.ref 45), some (xL x0), none, some (xI w1_3), some (xI 40)] [] h2 Post := by
      intro m1
      induction m1 with
      | zero => intro w1_3 Z2 h2 q1 f1_0 hx2 hG2 hf2; exact absurd q1 (by omega)
      | succ m1 ih1 =>
        intro w1_3 Z2 h2 q1 f1_0 hx2 hG2 hf2
        refine mx_J.step (sn_285 6) (fun _ _ => rfl) ?_
        refine mx_J.step (sn_285 7) (fun _ _ => rfl) ?_
        refine Jicmp_ge (show mx_Sn _ _ 9 (mx_icmp_ge 22 12) from sn_285 9) (by omega) (by omega) (fun q3 => ?_) (fun q3 => ?_)
        · skip
          exact mx_J.ret (sn_285 22) (fun _ _ => rfl) (hP Z2 h2 hx2 hG2 (fr_tr (M := [(45, (-1))]) fr_rf (hf2) (M1 := []) rfl rfl))
        · skip
          refine mx_J.step (sn_285 12) (fun _ _ => rfl) ?_
          refine mx_J.step (sn_285 13) (fun _ _ => rfl) ?_
          refine mx_J.step (sn_285 14) (fun _ _ => rfl) ?_
          refine JlastL hx2 (show mx_Sn _ _ 15 (mx_last 1 16) from sn_285 15) a45 s45 rfl (by omega) (fun Z4 h4 hx4 hE4 => ?_)
          have hG4 := GI_up hG2 hE4 (show (-9223372036854775808) ≤ x0 ∧ x0 ≤ 9223372036854775807 by omega) trivial rfl
          refine Jiinc (z := w1_3) (cz := 1) (ls2 := [some (.ref 45), some (xL x0), none, some (xI (w1_3 + 1)), some (xI 40)]) (show mx_Sn _ _ 16 (mx_iinc 3 1 19) from sn_285 16) rfl rfl rfl rfl ?_
          refine mx_J.step (sn_285 19) (fun _ _ => rfl) ?_
          exact ih1 (w1_3 + 1) Z4 h4 (by omega) (by omega) hx4 hG4 (fr_tr (M := [(45, (-1))]) (fr_tr (M := [(45, (-1))]) fr_rf (hf2) (M1 := []) rfl rfl) (fr_ua hE4) rfl rfl)
    exact c6 (Int.toNat (40 - 0) + 1) 0 Z h (by omega) (by omega) hx hG fr_rf
theorem ct_285_45 {l : Launch} {D : va_G} {b0 : Nat} {ad : Nat → Nat} {Hb : Heap} {tau : Nat → Int64} {d n s : Nat} {S : Nat → xS} {Z : xZ} {h : mx_H} (hx : XH n s S Z h) (hG : GI n S Z) {x0 : Int} (p0 : (-9223372036854775808) ≤ x0 ∧ x0 ≤ 9223372036854775807) : ∃ (Z' : xZ) (h' : mx_H), mx_Ca (tB l D b0 ad Hb tau) (d + 1) 285 [.ref 45, xL x0] h (none, h') ∧ XH n s S Z' h' ∧ GI n S Z' ∧ fr' [(45, (-1))] Z Z' := by
  obtain ⟨r, hca, Z', h', e, q⟩ := Jmt (B := tB l D b0 ad Hb tau) (M := mt_285) (mi := 285) (as := [.ref 45, xL x0]) (d := d + 0) (ls := [some (.ref 45), some (xL x0), none, none, none]) rfl rfl rfl rfl rfl rfl (cw_285_45 (l := l) (D := D) (b0 := b0) (ad := ad) (Hb := Hb) (tau := tau) (d := d) (Post := fun r => ∃ (Z' : xZ) (h' : mx_H), r = (none, h') ∧ XH n s S Z' h' ∧ GI n S Z' ∧ fr' [(45, (-1))] Z Z') hx hG p0 (fun Z' h' q1 q2 q3 => ⟨Z', h', rfl, q1, q2, q3⟩))
  subst e; exact ⟨Z', h', hca, q⟩
set_option maxRecDepth 100000 in
theorem cw_83_44 {l : Launch} {D : va_G} {b0 : Nat} {ad : Nat → Nat} {Hb : Heap} {tau : Nat → Int64} {d n s : Nat} {S : Nat → xS} {Z : xZ} {h : mx_H} {Post : mx_R → Prop} (hx : XH n s S Z h) (hG : GI n S Z) {x0 x1 : Int} (p0 : 0 ≤ x0 ∧ x0 ≤ 3) (p1 : 0 ≤ x1 ∧ x1 ≤ 40) (hP : ∀ (Z' : xZ) (h' : mx_H), XH n s S Z' h' → GI n S Z' → fr' [(44, 1), (44, 2), (44, 3), (45, (-1))] Z Z' → Post (none, h')) : mx_J (tB l D b0 ad Hb tau) mt_83 (d + 1) 0 [some (.ref 44), some (xI x0), some (xI x1)] [] h Post := by
    have a44 : 44 < n := lt83 hG.1 rfl
    have s44 : S 44 = .inl (10, [2, 0, 0, 0]) := hG.2.1 44 rfl
    refine mx_J.step (sn_83 0) (fun _ _ => rfl) ?_
    refine mx_J.step (sn_83 1) (fun _ _ => rfl) ?_
    refine JputI (g := 1) hx (show mx_Sn _ _ 2 (mx_putf 1 10 1 (.int) 5) from sn_83 2) a44 s44 rfl rfl rfl rfl (fun Z1 h1 hx1 hE1 => ?_)
    have hG1 := GI_up hG hE1 (show 0 ≤ x0 ∧ x0 ≤ 3 by omega) trivial rfl
    refine mx_J.step (sn_83 5) (fun _ _ => rfl) ?_
    refine mx_J.step (sn_83 6) (fun _ _ => rfl) ?_
    refine JputI (g := 2) hx1 (show mx_Sn _ _ 7 (mx_putf 1 10 2 (.int) 10) from sn_83 7) a44 s44 rfl rfl rfl rfl (fun Z2 h2 hx2 hE2 => ?_)
    have hG2 := GI_up hG1 hE2 (show 0 ≤ x1 ∧ x1 ≤ 40 by omega) trivial rfl
    refine mx_J.step (sn_83 10) (fun _ _ => rfl) ?_
    refine JcI (z := 0) (show mx_Sn _ _ 11 (mx_const (.int 0) 12) from sn_83 11) rfl ?_
    refine JputI (g := 3) hx2 (show mx_Sn _ _ 12 (mx_putf 1 10 3 (.boolean) 15) from sn_83 12) a44 s44 rfl rfl (fit_z (by omega)) rfl (fun Z3 h3 hx3 hE3 => ?_)
    have hG3 := GI_up hG2 hE3 (show 0 ≤ 0 ∧ 0 ≤ 1 by omega) trivial rfl
    refine mx_J.step (sn_83 15) (fun _ _ => rfl) ?_
    refine JgetR (g := 0) (b := 45) hx3 (show mx_Sn _ _ 16 (mx_getf 10 0 19) from sn_83 16) a44 s44 rfl rfl (hG3.prr 44 0 rfl) ?_
    refine JcL (z := 0) (show mx_Sn _ _ 19 (mx_const (.long 0) 20) from sn_83 19) rfl ?_
    obtain ⟨Z4, h4, hc4, hx4, hG4, hf4⟩ := ct_285_45 (d := d + 0) (l := l) (D := D) (b0 := b0) (ad := ad) (Hb := Hb) (tau := tau) hx3 hG3 (show (-9223372036854775808) ≤ 0 ∧ 0 ≤ 9223372036854775807 by omega)
    refine Jcs0 (show mx_Sn _ _ 20 (mx_calls 285 2 23) from sn_83 20) hc4 rfl rfl rfl ?_
    exact mx_J.ret (sn_83 23) (fun _ _ => rfl) (hP Z4 h4 hx4 hG4 (fr_tr (M := [(44, 1), (44, 2), (44, 3), (45, (-1))]) (fr_tr (M := [(44, 1), (44, 2), (44, 3), (45, (-1))]) (fr_tr (M := [(44, 1), (44, 2), (44, 3), (45, (-1))]) (fr_tr (M := [(44, 1), (44, 2), (44, 3), (45, (-1))]) fr_rf (fr_up hE1) (M1 := []) rfl rfl) (fr_up hE2) rfl rfl) (fr_up hE3) rfl rfl) (hf4) rfl rfl))
theorem ct_83_44 {l : Launch} {D : va_G} {b0 : Nat} {ad : Nat → Nat} {Hb : Heap} {tau : Nat → Int64} {d n s : Nat} {S : Nat → xS} {Z : xZ} {h : mx_H} (hx : XH n s S Z h) (hG : GI n S Z) {x0 x1 : Int} (p0 : 0 ≤ x0 ∧ x0 ≤ 3) (p1 : 0 ≤ x1 ∧ x1 ≤ 40) : ∃ (Z' : xZ) (h' : mx_H), mx_Ca (tB l D b0 ad Hb tau) (d + 2) 83 [.ref 44, xI x0, xI x1] h (none, h') ∧ XH n s S Z' h' ∧ GI n S Z' ∧ fr' [(44, 1), (44, 2), (44, 3), (45, (-1))] Z Z' := by
  obtain ⟨r, hca, Z', h', e, q⟩ := Jmt (B := tB l D b0 ad Hb tau) (M := mt_83) (mi := 83) (as := [.ref 44, xI x0, xI x1]) (d := d + 1) (ls := [some (.ref 44), some (xI x0), some (xI x1)]) rfl rfl rfl rfl rfl rfl (cw_83_44 (l := l) (D := D) (b0 := b0) (ad := ad) (Hb := Hb) (tau := tau) (d := d) (Post := fun r => ∃ (Z' : xZ) (h' : mx_H), r = (none, h') ∧ XH n s S Z' h' ∧ GI n S Z' ∧ fr' [(44, 1), (44, 2), (44, 3), (45, (-1))] Z Z') hx hG p0 p1 (fun Z' h' q1 q2 q3 => ⟨Z', h', rfl, q1, q2, q3⟩))
  subst e; exact ⟨Z', h', hca, q⟩
set_option maxRecDepth 100000 in
theorem cw_85_46 {l : Launch} {D : va_G} {b0 : Nat} {ad : Nat → Nat} {Hb : Heap} {tau : Nat → Int64} {d n s : Nat} {S : Nat → xS} {Z : xZ} {h : mx_H} {Post : mx_R → Prop} (hx : XH n s S Z h) (hG : GI n S Z) {x0 : Int} (p0 : (-2147483648) ≤ x0 ∧ x0 ≤ 2147483647) (hP : ∀ z : Int, (-9223372036854775808) ≤ z ∧ z ≤ 9223372036854775807 ∧ (0 ≤ x0 → x0 ≤ 39 → z = Z 47 x0) → Post (some (xL z), h)) : mx_J (tB l D b0 ad Hb tau) mt_85 (d + 0) 0 [some (.ref 46), some (xI x0)] [] h Post := by
    have a46 : 46 < n := lt83 hG.1 rfl
    have s46 : S 46 = .inl (10, [2, 0, 0, 0]) := hG.2.1 46 rfl
    have a47 : 47 < n := lt83 hG.1 rfl
    have s47 : S 47 = .inr (.long, 40, 1) := hG.2.1 47 rfl
    refine mx_J.step (sn_85 0) (fun _ _ => rfl) ?_
    have c20 : ∀ (k1_0 : Int), (-9223372036854775808) ≤ k1_0 ∧ k1_0 ≤ 9223372036854775807 → (0 ≤ x0 → x0 ≤ 39 → k1_0 = Z 47 x0) → mx_J (tB l D b0 ad Hb tau) mt_85 (d + 0) 20 [some (.ref 46), some (xI x0)] [xL k1_0] h Post := by
      intro k1_0 f1_0 f1_1
      exact mx_J.ret (sn_85 20) (fun _ _ => rfl) (hP k1_0 (by omega))
    have c10 : mx_J (tB l D b0 ad Hb tau) mt_85 (d + 0) 10 [some (.ref 46), some (xI x0)] [] h Post := by
      refine JcL (z := 0) (show mx_Sn _ _ 10 (mx_const (.long 0) 11) from sn_85 10) rfl ?_
      refine mx_J.step (sn_85 11) (fun _ _ => rfl) ?_
      exact c20 0 (by omega) (by omega)
    refine Jif_lt (show mx_Sn _ _ 1 (mx_if_lt 10 4) from sn_85 1) (by omega) (fun q3 => ?_) (fun q3 => ?_)
    · skip
      exact c10 
    · skip
      refine mx_J.step (sn_85 4) (fun _ _ => rfl) ?_
      refine JcI (z := 40) (show mx_Sn _ _ 5 (mx_const (.int 40) 7) from sn_85 5) rfl ?_
      refine Jicmp_lt (show mx_Sn _ _ 7 (mx_icmp_lt 14 10) from sn_85 7) (by omega) (by omega) (fun q4 => ?_) (fun q4 => ?_)
      · skip
        refine mx_J.step (sn_85 14) (fun _ _ => rfl) ?_
        refine JgetR (g := 0) (b := 47) hx (show mx_Sn _ _ 15 (mx_getf 10 0 18) from sn_85 15) a46 s46 rfl rfl (hG.prr 46 0 rfl) ?_
        refine mx_J.step (sn_85 18) (fun _ _ => rfl) ?_
        have b5 : (-9223372036854775808) ≤ Z 47 x0 ∧ Z 47 x0 ≤ 9223372036854775807 := hG.pr 47 x0
        refine JlaldL (z := Z 47 x0) hx (show mx_Sn _ _ 19 (mx_lald 20) from sn_85 19) a47 s47 (by omega) rfl ?_
        exact c20 (Z 47 x0) (by omega) (by omega)
      · skip
        exact c10 
theorem ct_85_46 {l : Launch} {D : va_G} {b0 : Nat} {ad : Nat → Nat} {Hb : Heap} {tau : Nat → Int64} {d n s : Nat} {S : Nat → xS} {Z : xZ} {h : mx_H} (hx : XH n s S Z h) (hG : GI n S Z) {x0 : Int} (p0 : (-2147483648) ≤ x0 ∧ x0 ≤ 2147483647) : ∃ z : Int, mx_Ca (tB l D b0 ad Hb tau) (d + 1) 85 [.ref 46, xI x0] h (some (xL z), h) ∧ ((-9223372036854775808) ≤ z ∧ z ≤ 9223372036854775807 ∧ (0 ≤ x0 → x0 ≤ 39 → z = Z 47 x0)) := by
  obtain ⟨r, hca, z, e, hp⟩ := Jmt (B := tB l D b0 ad Hb tau) (M := mt_85) (mi := 85) (as := [.ref 46, xI x0]) (d := d + 0) (ls := [some (.ref 46), some (xI x0)]) rfl rfl rfl rfl rfl rfl (cw_85_46 (l := l) (D := D) (b0 := b0) (ad := ad) (Hb := Hb) (tau := tau) (d := d) (Post := fun r => ∃ z : Int, r = (some (xL z), h) ∧ ((-9223372036854775808) ≤ z ∧ z ≤ 9223372036854775807 ∧ (0 ≤ x0 → x0 ≤ 39 → z = Z 47 x0))) hx hG p0 (fun z hz => ⟨z, rfl, hz⟩))
  subst e; exact ⟨z, hca, hp⟩
set_option maxRecDepth 100000 in
theorem cw_86_46 {l : Launch} {D : va_G} {b0 : Nat} {ad : Nat → Nat} {Hb : Heap} {tau : Nat → Int64} {d n s : Nat} {S : Nat → xS} {Z : xZ} {h : mx_H} {Post : mx_R → Prop} (hx : XH n s S Z h) (hG : GI n S Z) {x0 x1 : Int} (p0 : (-9223372036854775808) ≤ x0 ∧ x0 ≤ 9223372036854775807) (p1 : (-9223372036854775808) ≤ x1 ∧ x1 ≤ 9223372036854775807) (hP : ∀ z : Int, 0 ≤ z ∧ z ≤ 1 ∧ (z = 1 → AB Z 47 (Z 46 2) x0 x1) → Post (some (xI z), h)) : mx_J (tB l D b0 ad Hb tau) mt_86 (d + 0) 0 [some (.ref 46), some (xL x0), none, some (xL x1), none, none] [] h Post := by
    have a46 : 46 < n := lt83 hG.1 rfl
    have s46 : S 46 = .inl (10, [2, 0, 0, 0]) := hG.2.1 46 rfl
    have a47 : 47 < n := lt83 hG.1 rfl
    have s47 : S 47 = .inr (.long, 40, 1) := hG.2.1 47 rfl
    refine JcI (z := 0) (show mx_Sn _ _ 0 (mx_const (.int 0) 1) from sn_86 0) rfl ?_
    refine mx_J.step (ls2 := [some (.ref 46), some (xL x0), none, some (xL x1), none, some (xI 0)]) (sn_86 1) (fun _ _ => rfl) ?_
    have c3 : ∀ (m1 : Nat) (w1_5 : Int), 40 - w1_5 < (m1 : Int) → 0 ≤ w1_5 ∧ w1_5 ≤ 40 → AB Z 47 w1_5 x0 x1 → mx_J (tB l D b0 ad Hb tau) mt_86 (d + 0) 3 [some (.ref 46), some (xL x0), none, some (xL x1), none, some (xI w1_5)] [] h Post := by
      intro m1
      induction m1 with
      | zero => intro w1_5 q1 f1_0 f1_1; exact absurd q1 (by omega)
      | succ m1 ih1 =>
        intro w1_5 q1 f1_0 f1_1
        refine mx_J.step (sn_86 3) (fun _ _ => rfl) ?_
        refine mx_J.step (sn_86 5) (fun _ _ => rfl) ?_
        have b2 : 0 ≤ Z 46 2 ∧ Z 46 2 ≤ 40 := hG.pr 46 2
        refine JgetI (g := 2) (z := Z 46 2) hx (show mx_Sn _ _ 6 (mx_getf 10 2 9) from sn_86 6) a46 s46 rfl rfl rfl ?_
        refine Jicmp_ge (show mx_Sn _ _ 9 (mx_icmp_ge 44 12) from sn_86 9) (by omega) (by omega) (fun q3 => ?_) (fun q3 => ?_)
        · skip
          refine JcI (z := 1) (show mx_Sn _ _ 44 (mx_const (.int 1) 45) from sn_86 44) rfl ?_
          exact mx_J.ret (show mx_Sn _ _ 45 (mx_zret) from sn_86 45) (fun _ _ => zr_ok (by omega)) (hP 1 (and3 (by omega) (fun hz => by first | exact absurd hz (by omega) | exact ab_mono (by assumption) (by omega) (by omega) (by omega))))
        · skip
          refine mx_J.step (sn_86 12) (fun _ _ => rfl) ?_
          refine JgetR (g := 0) (b := 47) hx (show mx_Sn _ _ 13 (mx_getf 10 0 16) from sn_86 13) a46 s46 rfl rfl (hG.prr 46 0 rfl) ?_
          refine mx_J.step (sn_86 16) (fun _ _ => rfl) ?_
          have b4 : (-9223372036854775808) ≤ Z 47 w1_5 ∧ Z 47 w1_5 ≤ 9223372036854775807 := hG.pr 47 w1_5
          refine JlaldL (z := Z 47 w1_5) hx (show mx_Sn _ _ 18 (mx_lald 19) from sn_86 18) a47 s47 (by omega) rfl ?_
          refine mx_J.step (sn_86 19) (fun _ _ => rfl) ?_
          have c36 : mx_J (tB l D b0 ad Hb tau) mt_86 (d + 0) 36 [some (.ref 46), some (xL x0), none, some (xL x1), none, some (xI w1_5)] [] h Post := by
            refine JcI (z := 0) (show mx_Sn _ _ 36 (mx_const (.int 0) 37) from sn_86 36) rfl ?_
            exact mx_J.ret (show mx_Sn _ _ 37 (mx_zret) from sn_86 37) (fun _ _ => zr_ok (by omega)) (hP 0 (and3 (by omega) (fun hz => by first | exact absurd hz (by omega) | exact ab_mono (by assumption) (by omega) (by omega) (by omega))))
          refine Jlif_lt (show mx_Sn _ _ 20 (mx_lif_lt 36 24) from sn_86 20) (by omega) (by omega) (fun q6 => ?_) (fun q6 => ?_)
          · skip
            exact c36 
          · skip
            refine mx_J.step (sn_86 24) (fun _ _ => rfl) ?_
            refine JgetR (g := 0) (b := 47) hx (show mx_Sn _ _ 25 (mx_getf 10 0 28) from sn_86 25) a46 s46 rfl rfl (hG.prr 46 0 rfl) ?_
            refine mx_J.step (sn_86 28) (fun _ _ => rfl) ?_
            have b7 : (-9223372036854775808) ≤ Z 47 w1_5 ∧ Z 47 w1_5 ≤ 9223372036854775807 := hG.pr 47 w1_5
            refine JlaldL (z := Z 47 w1_5) hx (show mx_Sn _ _ 30 (mx_lald 31) from sn_86 30) a47 s47 (by omega) rfl ?_
            refine mx_J.step (sn_86 31) (fun _ _ => rfl) ?_
            refine Jlif_le (show mx_Sn _ _ 32 (mx_lif_le 38 36) from sn_86 32) (by omega) (by omega) (fun q8 => ?_) (fun q8 => ?_)
            · skip
              refine Jiinc (z := w1_5) (cz := 1) (ls2 := [some (.ref 46), some (xL x0), none, some (xL x1), none, some (xI (w1_5 + 1))]) (show mx_Sn _ _ 38 (mx_iinc 5 1 41) from sn_86 38) rfl rfl rfl rfl ?_
              refine mx_J.step (sn_86 41) (fun _ _ => rfl) ?_
              exact ih1 (w1_5 + 1) (by omega) (by omega) (by first | exact ab_nil (by omega) | exact ab_ext (by assumption) (by omega))
            · skip
              exact c36 
    exact c3 (Int.toNat (40 - 0) + 1) 0 (by omega) (by omega) (by first | exact ab_nil (by omega) | exact ab_ext (by assumption) (by omega))
theorem ct_86_46 {l : Launch} {D : va_G} {b0 : Nat} {ad : Nat → Nat} {Hb : Heap} {tau : Nat → Int64} {d n s : Nat} {S : Nat → xS} {Z : xZ} {h : mx_H} (hx : XH n s S Z h) (hG : GI n S Z) {x0 x1 : Int} (p0 : (-9223372036854775808) ≤ x0 ∧ x0 ≤ 9223372036854775807) (p1 : (-9223372036854775808) ≤ x1 ∧ x1 ≤ 9223372036854775807) : ∃ z : Int, mx_Ca (tB l D b0 ad Hb tau) (d + 1) 86 [.ref 46, xL x0, xL x1] h (some (xI z), h) ∧ (0 ≤ z ∧ z ≤ 1 ∧ (z = 1 → AB Z 47 (Z 46 2) x0 x1)) := by
  obtain ⟨r, hca, z, e, hp⟩ := Jmt (B := tB l D b0 ad Hb tau) (M := mt_86) (mi := 86) (as := [.ref 46, xL x0, xL x1]) (d := d + 0) (ls := [some (.ref 46), some (xL x0), none, some (xL x1), none, none]) rfl rfl rfl rfl rfl rfl (cw_86_46 (l := l) (D := D) (b0 := b0) (ad := ad) (Hb := Hb) (tau := tau) (d := d) (Post := fun r => ∃ z : Int, r = (some (xI z), h) ∧ (0 ≤ z ∧ z ≤ 1 ∧ (z = 1 → AB Z 47 (Z 46 2) x0 x1))) hx hG p0 p1 (fun z hz => ⟨z, rfl, hz⟩))
  subst e; exact ⟨z, hca, hp⟩
set_option maxRecDepth 100000 in
theorem cw_87_46 {l : Launch} {D : va_G} {b0 : Nat} {ad : Nat → Nat} {Hb : Heap} {tau : Nat → Int64} {d n s : Nat} {S : Nat → xS} {Z : xZ} {h : mx_H} {Post : mx_R → Prop} (hx : XH n s S Z h) (hG : GI n S Z) {x0 : Int} (p0 : (-9223372036854775808) ≤ x0 ∧ x0 ≤ 9223372036854775807) (hP : ∀ z : Int, 0 ≤ z ∧ z ≤ 1 → Post (some (xI z), h)) : mx_J (tB l D b0 ad Hb tau) mt_87 (d + 0) 0 [some (.ref 46), some (xL x0), none, none] [] h Post := by
    have a46 : 46 < n := lt83 hG.1 rfl
    have s46 : S 46 = .inl (10, [2, 0, 0, 0]) := hG.2.1 46 rfl
    have a47 : 47 < n := lt83 hG.1 rfl
    have s47 : S 47 = .inr (.long, 40, 1) := hG.2.1 47 rfl
    refine JcI (z := 0) (show mx_Sn _ _ 0 (mx_const (.int 0) 1) from sn_87 0) rfl ?_
    refine mx_J.step (ls2 := [some (.ref 46), some (xL x0), none, some (xI 0)]) (sn_87 1) (fun _ _ => rfl) ?_
    have c2 : ∀ (m1 : Nat) (w1_3 : Int), 40 - w1_3 < (m1 : Int) → 0 ≤ w1_3 ∧ w1_3 ≤ 40 → mx_J (tB l D b0 ad Hb tau) mt_87 (d + 0) 2 [some (.ref 46), some (xL x0), none, some (xI w1_3)] [] h Post := by
      intro m1
      induction m1 with
      | zero => intro w1_3 q1 f1_0; exact absurd q1 (by omega)
      | succ m1 ih1 =>
        intro w1_3 q1 f1_0
        refine mx_J.step (sn_87 2) (fun _ _ => rfl) ?_
        refine mx_J.step (sn_87 3) (fun _ _ => rfl) ?_
        have b2 : 0 ≤ Z 46 2 ∧ Z 46 2 ≤ 40 := hG.pr 46 2
        refine JgetI (g := 2) (z := Z 46 2) hx (show mx_Sn _ _ 4 (mx_getf 10 2 7) from sn_87 4) a46 s46 rfl rfl rfl ?_
        refine Jicmp_ge (show mx_Sn _ _ 7 (mx_icmp_ge 29 10) from sn_87 7) (by omega) (by omega) (fun q3 => ?_) (fun q3 => ?_)
        · skip
          refine JcI (z := 0) (show mx_Sn _ _ 29 (mx_const (.int 0) 30) from sn_87 29) rfl ?_
          exact mx_J.ret (show mx_Sn _ _ 30 (mx_zret) from sn_87 30) (fun _ _ => zr_ok (by omega)) (hP 0 (by omega))
        · skip
          refine mx_J.step (sn_87 10) (fun _ _ => rfl) ?_
          refine JgetR (g := 0) (b := 47) hx (show mx_Sn _ _ 11 (mx_getf 10 0 14) from sn_87 11) a46 s46 rfl rfl (hG.prr 46 0 rfl) ?_
          refine mx_J.step (sn_87 14) (fun _ _ => rfl) ?_
          have b4 : (-9223372036854775808) ≤ Z 47 w1_3 ∧ Z 47 w1_3 ≤ 9223372036854775807 := hG.pr 47 w1_3
          refine JlaldL (z := Z 47 w1_3) hx (show mx_Sn _ _ 15 (mx_lald 16) from sn_87 15) a47 s47 (by omega) rfl ?_
          refine mx_J.step (sn_87 16) (fun _ _ => rfl) ?_
          refine Jlif_ne (show mx_Sn _ _ 17 (mx_lif_ne 23 21) from sn_87 17) (by omega) (by omega) (fun q5 => ?_) (fun q5 => ?_)
          · skip
            refine Jiinc (z := w1_3) (cz := 1) (ls2 := [some (.ref 46), some (xL x0), none, some (xI (w1_3 + 1))]) (show mx_Sn _ _ 23 (mx_iinc 3 1 26) from sn_87 23) rfl rfl rfl rfl ?_
            refine mx_J.step (sn_87 26) (fun _ _ => rfl) ?_
            exact ih1 (w1_3 + 1) (by omega) (by omega)
          · skip
            refine JcI (z := 1) (show mx_Sn _ _ 21 (mx_const (.int 1) 22) from sn_87 21) rfl ?_
            exact mx_J.ret (show mx_Sn _ _ 22 (mx_zret) from sn_87 22) (fun _ _ => zr_ok (by omega)) (hP 1 (by omega))
    exact c2 (Int.toNat (40 - 0) + 1) 0 (by omega) (by omega)
theorem ct_87_46 {l : Launch} {D : va_G} {b0 : Nat} {ad : Nat → Nat} {Hb : Heap} {tau : Nat → Int64} {d n s : Nat} {S : Nat → xS} {Z : xZ} {h : mx_H} (hx : XH n s S Z h) (hG : GI n S Z) {x0 : Int} (p0 : (-9223372036854775808) ≤ x0 ∧ x0 ≤ 9223372036854775807) : ∃ z : Int, mx_Ca (tB l D b0 ad Hb tau) (d + 1) 87 [.ref 46, xL x0] h (some (xI z), h) ∧ (0 ≤ z ∧ z ≤ 1) := by
  obtain ⟨r, hca, z, e, hp⟩ := Jmt (B := tB l D b0 ad Hb tau) (M := mt_87) (mi := 87) (as := [.ref 46, xL x0]) (d := d + 0) (ls := [some (.ref 46), some (xL x0), none, none]) rfl rfl rfl rfl rfl rfl (cw_87_46 (l := l) (D := D) (b0 := b0) (ad := ad) (Hb := Hb) (tau := tau) (d := d) (Post := fun r => ∃ z : Int, r = (some (xI z), h) ∧ (0 ≤ z ∧ z ≤ 1)) hx hG p0 (fun z hz => ⟨z, rfl, hz⟩))
  subst e; exact ⟨z, hca, hp⟩
set_option maxRecDepth 100000 in
theorem cw_84_46 {l : Launch} {D : va_G} {b0 : Nat} {ad : Nat → Nat} {Hb : Heap} {tau : Nat → Int64} {d n s : Nat} {S : Nat → xS} {Z : xZ} {h : mx_H} {Post : mx_R → Prop} (hx : XH n s S Z h) (hG : GI n S Z) {x0 x1 : Int} (p0 : (-2147483648) ≤ x0 ∧ x0 ≤ 2147483647) (p1 : (-9223372036854775808) ≤ x1 ∧ x1 ≤ 9223372036854775807) (hP : ∀ (Z' : xZ) (h' : mx_H), XH n s S Z' h' → GI n S Z' → fr' [(47, (-1))] Z Z' → Post (none, h')) : mx_J (tB l D b0 ad Hb tau) mt_84 (d + 0) 0 [some (.ref 46), some (xI x0), some (xL x1), none] [] h Post := by
    have a46 : 46 < n := lt83 hG.1 rfl
    have s46 : S 46 = .inl (10, [2, 0, 0, 0]) := hG.2.1 46 rfl
    have a47 : 47 < n := lt83 hG.1 rfl
    have s47 : S 47 = .inr (.long, 40, 1) := hG.2.1 47 rfl
    refine mx_J.step (sn_84 0) (fun _ _ => rfl) ?_
    have c10 : mx_J (tB l D b0 ad Hb tau) mt_84 (d + 0) 10 [some (.ref 46), some (xI x0), some (xL x1), none] [] h Post := by
      exact mx_J.ret (sn_84 10) (fun _ _ => rfl) (hP Z h hx hG fr_rf)
    refine Jif_lt (show mx_Sn _ _ 1 (mx_if_lt 10 4) from sn_84 1) (by omega) (fun q2 => ?_) (fun q2 => ?_)
    · skip
      exact c10 
    · skip
      refine mx_J.step (sn_84 4) (fun _ _ => rfl) ?_
      refine JcI (z := 40) (show mx_Sn _ _ 5 (mx_const (.int 40) 7) from sn_84 5) rfl ?_
      refine Jicmp_lt (show mx_Sn _ _ 7 (mx_icmp_lt 11 10) from sn_84 7) (by omega) (by omega) (fun q3 => ?_) (fun q3 => ?_)
      · skip
        refine mx_J.step (sn_84 11) (fun _ _ => rfl) ?_
        have b4 : 0 ≤ Z 46 1 ∧ Z 46 1 ≤ 3 := hG.pr 46 1
        refine JgetI (g := 1) (z := Z 46 1) hx (show mx_Sn _ _ 12 (mx_getf 10 1 15) from sn_84 12) a46 s46 rfl rfl rfl ?_
        have c85 : ∀  (Z6 : xZ) (h6 : mx_H), XH n s S Z6 h6 → GI n S Z6 → fr' [(47, (-1))] Z Z6 → mx_J (tB l D b0 ad Hb tau) mt_84 (d + 0) 85 [some (.ref 46), some (xI x0), some (xL x1), none] [] h6 Post := by
          intro Z6 h6 hx6 hG6 hf6
          exact mx_J.ret (sn_84 85) (fun _ _ => rfl) (hP Z6 h6 hx6 hG6 (fr_tr (M := [(47, (-1))]) fr_rf (hf6) (M1 := []) rfl rfl))
        refine Jtsw (z := Z 46 1) (show mx_Sn _ _ 15 (mx_tsw 0 2 [40, 53, 66] 78) from sn_84 15) (by omega) (fun q7 => ?_) (fun q7 => ?_)
        · skip
          refine mx_J.step (sn_84 78) (fun _ _ => rfl) ?_
          refine JgetR (g := 0) (b := 47) hx (show mx_Sn _ _ 79 (mx_getf 10 0 82) from sn_84 79) a46 s46 rfl rfl (hG.prr 46 0 rfl) ?_
          refine mx_J.step (sn_84 82) (fun _ _ => rfl) ?_
          refine mx_J.step (sn_84 83) (fun _ _ => rfl) ?_
          refine JlastL hx (show mx_Sn _ _ 84 (mx_last 1 85) from sn_84 84) a47 s47 rfl (by omega) (fun Z8 h8 hx8 hE8 => ?_)
          have hG8 := GI_up hG hE8 (show (-9223372036854775808) ≤ x1 ∧ x1 ≤ 9223372036854775807 by omega) trivial rfl
          exact c85 Z8 h8 hx8 hG8 (fr_tr (M := [(47, (-1))]) fr_rf (fr_ua hE8) (M1 := []) rfl rfl)
        · skip
          have e7 : Z 46 1 = 0 ∨ Z 46 1 = 1 ∨ Z 46 1 = 2 := by omega
          rcases e7 with e7 | e7 | e7
          · refine ⟨40, by rw [e7]; rfl, ?_⟩
            refine mx_J.step (sn_84 40) (fun _ _ => rfl) ?_
            refine JgetR (g := 0) (b := 47) hx (show mx_Sn _ _ 41 (mx_getf 10 0 44) from sn_84 41) a46 s46 rfl rfl (hG.prr 46 0 rfl) ?_
            refine mx_J.step (sn_84 44) (fun _ _ => rfl) ?_
            refine mx_J.step (sn_84 45) (fun _ _ => rfl) ?_
            refine Jl2i (show mx_Sn _ _ 46 (mx_l2i 47) from sn_84 46) (Jnorm fun y9 hy9 hq9 => ?_)
            refine Ji2bX (show mx_Sn _ _ 47 (mx_i2b 48) from sn_84 47) (fun y10 hy10 => ?_)
            refine Ji2l (show mx_Sn _ _ 48 (mx_i2l 49) from sn_84 48) (by omega) ?_
            refine JlastL hx (show mx_Sn _ _ 49 (mx_last 1 50) from sn_84 49) a47 s47 rfl (by omega) (fun Z11 h11 hx11 hE11 => ?_)
            have hG11 := GI_up hG hE11 (show (-9223372036854775808) ≤ y10 ∧ y10 ≤ 9223372036854775807 by omega) trivial rfl
            refine mx_J.step (sn_84 50) (fun _ _ => rfl) ?_
            exact c85 Z11 h11 hx11 hG11 (fr_tr (M := [(47, (-1))]) fr_rf (fr_ua hE11) (M1 := []) rfl rfl)
          · refine ⟨53, by rw [e7]; rfl, ?_⟩
            refine mx_J.step (sn_84 53) (fun _ _ => rfl) ?_
            refine JgetR (g := 0) (b := 47) hx (show mx_Sn _ _ 54 (mx_getf 10 0 57) from sn_84 54) a46 s46 rfl rfl (hG.prr 46 0 rfl) ?_
            refine mx_J.step (sn_84 57) (fun _ _ => rfl) ?_
            refine mx_J.step (sn_84 58) (fun _ _ => rfl) ?_
            refine Jl2i (show mx_Sn _ _ 59 (mx_l2i 60) from sn_84 59) (Jnorm fun y12 hy12 hq12 => ?_)
            refine Ji2sX (show mx_Sn _ _ 60 (mx_i2s 61) from sn_84 60) (fun y13 hy13 => ?_)
            refine Ji2l (show mx_Sn _ _ 61 (mx_i2l 62) from sn_84 61) (by omega) ?_
            refine JlastL hx (show mx_Sn _ _ 62 (mx_last 1 63) from sn_84 62) a47 s47 rfl (by omega) (fun Z14 h14 hx14 hE14 => ?_)
            have hG14 := GI_up hG hE14 (show (-9223372036854775808) ≤ y13 ∧ y13 ≤ 9223372036854775807 by omega) trivial rfl
            refine mx_J.step (sn_84 63) (fun _ _ => rfl) ?_
            exact c85 Z14 h14 hx14 hG14 (fr_tr (M := [(47, (-1))]) fr_rf (fr_ua hE14) (M1 := []) rfl rfl)
          · refine ⟨66, by rw [e7]; rfl, ?_⟩
            refine mx_J.step (sn_84 66) (fun _ _ => rfl) ?_
            refine JgetR (g := 0) (b := 47) hx (show mx_Sn _ _ 67 (mx_getf 10 0 70) from sn_84 67) a46 s46 rfl rfl (hG.prr 46 0 rfl) ?_
            refine mx_J.step (sn_84 70) (fun _ _ => rfl) ?_
            refine mx_J.step (sn_84 71) (fun _ _ => rfl) ?_
            refine Jl2i (show mx_Sn _ _ 72 (mx_l2i 73) from sn_84 72) (Jnorm fun y15 hy15 hq15 => ?_)
            refine Ji2l (show mx_Sn _ _ 73 (mx_i2l 74) from sn_84 73) (by omega) ?_
            refine JlastL hx (show mx_Sn _ _ 74 (mx_last 1 75) from sn_84 74) a47 s47 rfl (by omega) (fun Z16 h16 hx16 hE16 => ?_)
            have hG16 := GI_up hG hE16 (show (-9223372036854775808) ≤ y15 ∧ y15 ≤ 9223372036854775807 by omega) trivial rfl
            refine mx_J.step (sn_84 75) (fun _ _ => rfl) ?_
            exact c85 Z16 h16 hx16 hG16 (fr_tr (M := [(47, (-1))]) fr_rf (fr_ua hE16) (M1 := []) rfl rfl)
      · skip
        exact c10 
theorem ct_84_46 {l : Launch} {D : va_G} {b0 : Nat} {ad : Nat → Nat} {Hb : Heap} {tau : Nat → Int64} {d n s : Nat} {S : Nat → xS} {Z : xZ} {h : mx_H} (hx : XH n s S Z h) (hG : GI n S Z) {x0 x1 : Int} (p0 : (-2147483648) ≤ x0 ∧ x0 ≤ 2147483647) (p1 : (-9223372036854775808) ≤ x1 ∧ x1 ≤ 9223372036854775807) : ∃ (Z' : xZ) (h' : mx_H), mx_Ca (tB l D b0 ad Hb tau) (d + 1) 84 [.ref 46, xI x0, xL x1] h (none, h') ∧ XH n s S Z' h' ∧ GI n S Z' ∧ fr' [(47, (-1))] Z Z' := by
  obtain ⟨r, hca, Z', h', e, q⟩ := Jmt (B := tB l D b0 ad Hb tau) (M := mt_84) (mi := 84) (as := [.ref 46, xI x0, xL x1]) (d := d + 0) (ls := [some (.ref 46), some (xI x0), some (xL x1), none]) rfl rfl rfl rfl rfl rfl (cw_84_46 (l := l) (D := D) (b0 := b0) (ad := ad) (Hb := Hb) (tau := tau) (d := d) (Post := fun r => ∃ (Z' : xZ) (h' : mx_H), r = (none, h') ∧ XH n s S Z' h' ∧ GI n S Z' ∧ fr' [(47, (-1))] Z Z') hx hG p0 p1 (fun Z' h' q1 q2 q3 => ⟨Z', h', rfl, q1, q2, q3⟩))
  subst e; exact ⟨Z', h', hca, q⟩
set_option maxRecDepth 100000 in
theorem cw_285_47 {l : Launch} {D : va_G} {b0 : Nat} {ad : Nat → Nat} {Hb : Heap} {tau : Nat → Int64} {d n s : Nat} {S : Nat → xS} {Z : xZ} {h : mx_H} {Post : mx_R → Prop} (hx : XH n s S Z h) (hG : GI n S Z) {x0 : Int} (p0 : (-9223372036854775808) ≤ x0 ∧ x0 ≤ 9223372036854775807) (hP : ∀ (Z' : xZ) (h' : mx_H), XH n s S Z' h' → GI n S Z' → fr' [(47, (-1))] Z Z' → Post (none, h')) : mx_J (tB l D b0 ad Hb tau) mt_285 (d + 0) 0 [some (.ref 47), some (xL x0), none, none, none] [] h Post := by
    have a47 : 47 < n := lt83 hG.1 rfl
    have s47 : S 47 = .inr (.long, 40, 1) := hG.2.1 47 rfl
    refine JcI (z := 0) (show mx_Sn _ _ 0 (mx_const (.int 0) 1) from sn_285 0) rfl ?_
    refine mx_J.step (ls2 := [some (.ref 47), some (xL x0), none, some (xI 0), none]) (sn_285 1) (fun _ _ => rfl) ?_
    refine mx_J.step (sn_285 2) (fun _ _ => rfl) ?_
    refine JalenI (z := 40) hx (show mx_Sn _ _ 3 (mx_alen 4) from sn_285 3) a47 s47 (by decide) rfl ?_
    refine mx_J.step (ls2 := [some (.ref 47), some (xL x0), none, some (xI 0), some (xI 40)]) (sn_285 4) (fun _ _ => rfl) ?_
    have c6 : ∀ (m1 : Nat) (w1_3 : Int) (Z2 : xZ) (h2 : mx_H), 40 - w1_3 < (m1 : Int) → 0 ≤ w1_3 ∧ w1_3 ≤ 40 → XH n s S Z2 h2 → GI n S Z2 → fr' [(47, (-1))] Z Z2 → mx_J (tB l D b0 ad Hb tau) mt_285 (d + 0) 6 [some (.ref 47), some (xL x0), none, some (xI w1_3), some (xI 40)] [] h2 Post := by
      intro m1
      induction m1 with
      | zero => intro w1_3 Z2 h2 q1 f1_0 hx2 hG2 hf2; exact absurd q1 (by omega)
      | succ m1 ih1 =>
        intro w1_3 Z2 h2 q1 f1_0 hx2 hG2 hf2
        refine mx_J.step (sn_285 6) (fun _ _ => rfl) ?_
        refine mx_J.step (sn_285 7) (fun _ _ => rfl) ?_
        refine Jicmp_ge (show mx_Sn _ _ 9 (mx_icmp_ge 22 12) from sn_285 9) (by omega) (by omega) (fun q3 => ?_) (fun q3 => ?_)
        · skip
          exact mx_J.ret (sn_285 22) (fun _ _ => rfl) (hP Z2 h2 hx2 hG2 (fr_tr (M := [(47, (-1))]) fr_rf (hf2) (M1 := []) rfl rfl))
        · skip
          refine mx_J.step (sn_285 12) (fun _ _ => rfl) ?_
          refine mx_J.step (sn_285 13) (fun _ _ => rfl) ?_
          refine mx_J.step (sn_285 14) (fun _ _ => rfl) ?_
          refine JlastL hx2 (show mx_Sn _ _ 15 (mx_last 1 16) from sn_285 15) a47 s47 rfl (by omega) (fun Z4 h4 hx4 hE4 => ?_)
          have hG4 := GI_up hG2 hE4 (show (-9223372036854775808) ≤ x0 ∧ x0 ≤ 9223372036854775807 by omega) trivial rfl
          refine Jiinc (z := w1_3) (cz := 1) (ls2 := [some (.ref 47), some (xL x0), none, some (xI (w1_3 + 1)), some (xI 40)]) (show mx_Sn _ _ 16 (mx_iinc 3 1 19) from sn_285 16) rfl rfl rfl rfl ?_
          refine mx_J.step (sn_285 19) (fun _ _ => rfl) ?_
          exact ih1 (w1_3 + 1) Z4 h4 (by omega) (by omega) hx4 hG4 (fr_tr (M := [(47, (-1))]) (fr_tr (M := [(47, (-1))]) fr_rf (hf2) (M1 := []) rfl rfl) (fr_ua hE4) rfl rfl)
    exact c6 (Int.toNat (40 - 0) + 1) 0 Z h (by omega) (by omega) hx hG fr_rf
theorem ct_285_47 {l : Launch} {D : va_G} {b0 : Nat} {ad : Nat → Nat} {Hb : Heap} {tau : Nat → Int64} {d n s : Nat} {S : Nat → xS} {Z : xZ} {h : mx_H} (hx : XH n s S Z h) (hG : GI n S Z) {x0 : Int} (p0 : (-9223372036854775808) ≤ x0 ∧ x0 ≤ 9223372036854775807) : ∃ (Z' : xZ) (h' : mx_H), mx_Ca (tB l D b0 ad Hb tau) (d + 1) 285 [.ref 47, xL x0] h (none, h') ∧ XH n s S Z' h' ∧ GI n S Z' ∧ fr' [(47, (-1))] Z Z' := by
  obtain ⟨r, hca, Z', h', e, q⟩ := Jmt (B := tB l D b0 ad Hb tau) (M := mt_285) (mi := 285) (as := [.ref 47, xL x0]) (d := d + 0) (ls := [some (.ref 47), some (xL x0), none, none, none]) rfl rfl rfl rfl rfl rfl (cw_285_47 (l := l) (D := D) (b0 := b0) (ad := ad) (Hb := Hb) (tau := tau) (d := d) (Post := fun r => ∃ (Z' : xZ) (h' : mx_H), r = (none, h') ∧ XH n s S Z' h' ∧ GI n S Z' ∧ fr' [(47, (-1))] Z Z') hx hG p0 (fun Z' h' q1 q2 q3 => ⟨Z', h', rfl, q1, q2, q3⟩))
  subst e; exact ⟨Z', h', hca, q⟩
set_option maxRecDepth 100000 in
theorem cw_83_46 {l : Launch} {D : va_G} {b0 : Nat} {ad : Nat → Nat} {Hb : Heap} {tau : Nat → Int64} {d n s : Nat} {S : Nat → xS} {Z : xZ} {h : mx_H} {Post : mx_R → Prop} (hx : XH n s S Z h) (hG : GI n S Z) {x0 x1 : Int} (p0 : 0 ≤ x0 ∧ x0 ≤ 3) (p1 : 0 ≤ x1 ∧ x1 ≤ 40) (hP : ∀ (Z' : xZ) (h' : mx_H), XH n s S Z' h' → GI n S Z' → fr' [(46, 1), (46, 2), (46, 3), (47, (-1))] Z Z' → Post (none, h')) : mx_J (tB l D b0 ad Hb tau) mt_83 (d + 1) 0 [some (.ref 46), some (xI x0), some (xI x1)] [] h Post := by
    have a46 : 46 < n := lt83 hG.1 rfl
    have s46 : S 46 = .inl (10, [2, 0, 0, 0]) := hG.2.1 46 rfl
    refine mx_J.step (sn_83 0) (fun _ _ => rfl) ?_
    refine mx_J.step (sn_83 1) (fun _ _ => rfl) ?_
    refine JputI (g := 1) hx (show mx_Sn _ _ 2 (mx_putf 1 10 1 (.int) 5) from sn_83 2) a46 s46 rfl rfl rfl rfl (fun Z1 h1 hx1 hE1 => ?_)
    have hG1 := GI_up hG hE1 (show 0 ≤ x0 ∧ x0 ≤ 3 by omega) trivial rfl
    refine mx_J.step (sn_83 5) (fun _ _ => rfl) ?_
    refine mx_J.step (sn_83 6) (fun _ _ => rfl) ?_
    refine JputI (g := 2) hx1 (show mx_Sn _ _ 7 (mx_putf 1 10 2 (.int) 10) from sn_83 7) a46 s46 rfl rfl rfl rfl (fun Z2 h2 hx2 hE2 => ?_)
    have hG2 := GI_up hG1 hE2 (show 0 ≤ x1 ∧ x1 ≤ 40 by omega) trivial rfl
    refine mx_J.step (sn_83 10) (fun _ _ => rfl) ?_
    refine JcI (z := 0) (show mx_Sn _ _ 11 (mx_const (.int 0) 12) from sn_83 11) rfl ?_
    refine JputI (g := 3) hx2 (show mx_Sn _ _ 12 (mx_putf 1 10 3 (.boolean) 15) from sn_83 12) a46 s46 rfl rfl (fit_z (by omega)) rfl (fun Z3 h3 hx3 hE3 => ?_)
    have hG3 := GI_up hG2 hE3 (show 0 ≤ 0 ∧ 0 ≤ 1 by omega) trivial rfl
    refine mx_J.step (sn_83 15) (fun _ _ => rfl) ?_
    refine JgetR (g := 0) (b := 47) hx3 (show mx_Sn _ _ 16 (mx_getf 10 0 19) from sn_83 16) a46 s46 rfl rfl (hG3.prr 46 0 rfl) ?_
    refine JcL (z := 0) (show mx_Sn _ _ 19 (mx_const (.long 0) 20) from sn_83 19) rfl ?_
    obtain ⟨Z4, h4, hc4, hx4, hG4, hf4⟩ := ct_285_47 (d := d + 0) (l := l) (D := D) (b0 := b0) (ad := ad) (Hb := Hb) (tau := tau) hx3 hG3 (show (-9223372036854775808) ≤ 0 ∧ 0 ≤ 9223372036854775807 by omega)
    refine Jcs0 (show mx_Sn _ _ 20 (mx_calls 285 2 23) from sn_83 20) hc4 rfl rfl rfl ?_
    exact mx_J.ret (sn_83 23) (fun _ _ => rfl) (hP Z4 h4 hx4 hG4 (fr_tr (M := [(46, 1), (46, 2), (46, 3), (47, (-1))]) (fr_tr (M := [(46, 1), (46, 2), (46, 3), (47, (-1))]) (fr_tr (M := [(46, 1), (46, 2), (46, 3), (47, (-1))]) (fr_tr (M := [(46, 1), (46, 2), (46, 3), (47, (-1))]) fr_rf (fr_up hE1) (M1 := []) rfl rfl) (fr_up hE2) rfl rfl) (fr_up hE3) rfl rfl) (hf4) rfl rfl))
theorem ct_83_46 {l : Launch} {D : va_G} {b0 : Nat} {ad : Nat → Nat} {Hb : Heap} {tau : Nat → Int64} {d n s : Nat} {S : Nat → xS} {Z : xZ} {h : mx_H} (hx : XH n s S Z h) (hG : GI n S Z) {x0 x1 : Int} (p0 : 0 ≤ x0 ∧ x0 ≤ 3) (p1 : 0 ≤ x1 ∧ x1 ≤ 40) : ∃ (Z' : xZ) (h' : mx_H), mx_Ca (tB l D b0 ad Hb tau) (d + 2) 83 [.ref 46, xI x0, xI x1] h (none, h') ∧ XH n s S Z' h' ∧ GI n S Z' ∧ fr' [(46, 1), (46, 2), (46, 3), (47, (-1))] Z Z' := by
  obtain ⟨r, hca, Z', h', e, q⟩ := Jmt (B := tB l D b0 ad Hb tau) (M := mt_83) (mi := 83) (as := [.ref 46, xI x0, xI x1]) (d := d + 1) (ls := [some (.ref 46), some (xI x0), some (xI x1)]) rfl rfl rfl rfl rfl rfl (cw_83_46 (l := l) (D := D) (b0 := b0) (ad := ad) (Hb := Hb) (tau := tau) (d := d) (Post := fun r => ∃ (Z' : xZ) (h' : mx_H), r = (none, h') ∧ XH n s S Z' h' ∧ GI n S Z' ∧ fr' [(46, 1), (46, 2), (46, 3), (47, (-1))] Z Z') hx hG p0 p1 (fun Z' h' q1 q2 q3 => ⟨Z', h', rfl, q1, q2, q3⟩))
  subst e; exact ⟨Z', h', hca, q⟩
set_option maxRecDepth 100000 in
theorem cw_85_48 {l : Launch} {D : va_G} {b0 : Nat} {ad : Nat → Nat} {Hb : Heap} {tau : Nat → Int64} {d n s : Nat} {S : Nat → xS} {Z : xZ} {h : mx_H} {Post : mx_R → Prop} (hx : XH n s S Z h) (hG : GI n S Z) {x0 : Int} (p0 : (-2147483648) ≤ x0 ∧ x0 ≤ 2147483647) (hP : ∀ z : Int, (-9223372036854775808) ≤ z ∧ z ≤ 9223372036854775807 ∧ (0 ≤ x0 → x0 ≤ 39 → z = Z 49 x0) → Post (some (xL z), h)) : mx_J (tB l D b0 ad Hb tau) mt_85 (d + 0) 0 [some (.ref 48), some (xI x0)] [] h Post := by
    have a48 : 48 < n := lt83 hG.1 rfl
    have s48 : S 48 = .inl (10, [2, 0, 0, 0]) := hG.2.1 48 rfl
    have a49 : 49 < n := lt83 hG.1 rfl
    have s49 : S 49 = .inr (.long, 40, 1) := hG.2.1 49 rfl
    refine mx_J.step (sn_85 0) (fun _ _ => rfl) ?_
    have c20 : ∀ (k1_0 : Int), (-9223372036854775808) ≤ k1_0 ∧ k1_0 ≤ 9223372036854775807 → (0 ≤ x0 → x0 ≤ 39 → k1_0 = Z 49 x0) → mx_J (tB l D b0 ad Hb tau) mt_85 (d + 0) 20 [some (.ref 48), some (xI x0)] [xL k1_0] h Post := by
      intro k1_0 f1_0 f1_1
      exact mx_J.ret (sn_85 20) (fun _ _ => rfl) (hP k1_0 (by omega))
    have c10 : mx_J (tB l D b0 ad Hb tau) mt_85 (d + 0) 10 [some (.ref 48), some (xI x0)] [] h Post := by
      refine JcL (z := 0) (show mx_Sn _ _ 10 (mx_const (.long 0) 11) from sn_85 10) rfl ?_
      refine mx_J.step (sn_85 11) (fun _ _ => rfl) ?_
      exact c20 0 (by omega) (by omega)
    refine Jif_lt (show mx_Sn _ _ 1 (mx_if_lt 10 4) from sn_85 1) (by omega) (fun q3 => ?_) (fun q3 => ?_)
    · skip
      exact c10 
    · skip
      refine mx_J.step (sn_85 4) (fun _ _ => rfl) ?_
      refine JcI (z := 40) (show mx_Sn _ _ 5 (mx_const (.int 40) 7) from sn_85 5) rfl ?_
      refine Jicmp_lt (show mx_Sn _ _ 7 (mx_icmp_lt 14 10) from sn_85 7) (by omega) (by omega) (fun q4 => ?_) (fun q4 => ?_)
      · skip
        refine mx_J.step (sn_85 14) (fun _ _ => rfl) ?_
        refine JgetR (g := 0) (b := 49) hx (show mx_Sn _ _ 15 (mx_getf 10 0 18) from sn_85 15) a48 s48 rfl rfl (hG.prr 48 0 rfl) ?_
        refine mx_J.step (sn_85 18) (fun _ _ => rfl) ?_
        have b5 : (-9223372036854775808) ≤ Z 49 x0 ∧ Z 49 x0 ≤ 9223372036854775807 := hG.pr 49 x0
        refine JlaldL (z := Z 49 x0) hx (show mx_Sn _ _ 19 (mx_lald 20) from sn_85 19) a49 s49 (by omega) rfl ?_
        exact c20 (Z 49 x0) (by omega) (by omega)
      · skip
        exact c10 
theorem ct_85_48 {l : Launch} {D : va_G} {b0 : Nat} {ad : Nat → Nat} {Hb : Heap} {tau : Nat → Int64} {d n s : Nat} {S : Nat → xS} {Z : xZ} {h : mx_H} (hx : XH n s S Z h) (hG : GI n S Z) {x0 : Int} (p0 : (-2147483648) ≤ x0 ∧ x0 ≤ 2147483647) : ∃ z : Int, mx_Ca (tB l D b0 ad Hb tau) (d + 1) 85 [.ref 48, xI x0] h (some (xL z), h) ∧ ((-9223372036854775808) ≤ z ∧ z ≤ 9223372036854775807 ∧ (0 ≤ x0 → x0 ≤ 39 → z = Z 49 x0)) := by
  obtain ⟨r, hca, z, e, hp⟩ := Jmt (B := tB l D b0 ad Hb tau) (M := mt_85) (mi := 85) (as := [.ref 48, xI x0]) (d := d + 0) (ls := [some (.ref 48), some (xI x0)]) rfl rfl rfl rfl rfl rfl (cw_85_48 (l := l) (D := D) (b0 := b0) (ad := ad) (Hb := Hb) (tau := tau) (d := d) (Post := fun r => ∃ z : Int, r = (some (xL z), h) ∧ ((-9223372036854775808) ≤ z ∧ z ≤ 9223372036854775807 ∧ (0 ≤ x0 → x0 ≤ 39 → z = Z 49 x0))) hx hG p0 (fun z hz => ⟨z, rfl, hz⟩))
  subst e; exact ⟨z, hca, hp⟩
set_option maxRecDepth 100000 in
theorem cw_86_48 {l : Launch} {D : va_G} {b0 : Nat} {ad : Nat → Nat} {Hb : Heap} {tau : Nat → Int64} {d n s : Nat} {S : Nat → xS} {Z : xZ} {h : mx_H} {Post : mx_R → Prop} (hx : XH n s S Z h) (hG : GI n S Z) {x0 x1 : Int} (p0 : (-9223372036854775808) ≤ x0 ∧ x0 ≤ 9223372036854775807) (p1 : (-9223372036854775808) ≤ x1 ∧ x1 ≤ 9223372036854775807) (hP : ∀ z : Int, 0 ≤ z ∧ z ≤ 1 ∧ (z = 1 → AB Z 49 (Z 48 2) x0 x1) → Post (some (xI z), h)) : mx_J (tB l D b0 ad Hb tau) mt_86 (d + 0) 0 [some (.ref 48), some (xL x0), none, some (xL x1), none, none] [] h Post := by
    have a48 : 48 < n := lt83 hG.1 rfl
    have s48 : S 48 = .inl (10, [2, 0, 0, 0]) := hG.2.1 48 rfl
    have a49 : 49 < n := lt83 hG.1 rfl
    have s49 : S 49 = .inr (.long, 40, 1) := hG.2.1 49 rfl
    refine JcI (z := 0) (show mx_Sn _ _ 0 (mx_const (.int 0) 1) from sn_86 0) rfl ?_
    refine mx_J.step (ls2 := [some (.ref 48), some (xL x0), none, some (xL x1), none, some (xI 0)]) (sn_86 1) (fun _ _ => rfl) ?_
    have c3 : ∀ (m1 : Nat) (w1_5 : Int), 40 - w1_5 < (m1 : Int) → 0 ≤ w1_5 ∧ w1_5 ≤ 40 → AB Z 49 w1_5 x0 x1 → mx_J (tB l D b0 ad Hb tau) mt_86 (d + 0) 3 [some (.ref 48), some (xL x0), none, some (xL x1), none, some (xI w1_5)] [] h Post := by
      intro m1
      induction m1 with
      | zero => intro w1_5 q1 f1_0 f1_1; exact absurd q1 (by omega)
      | succ m1 ih1 =>
        intro w1_5 q1 f1_0 f1_1
        refine mx_J.step (sn_86 3) (fun _ _ => rfl) ?_
        refine mx_J.step (sn_86 5) (fun _ _ => rfl) ?_
        have b2 : 0 ≤ Z 48 2 ∧ Z 48 2 ≤ 40 := hG.pr 48 2
        refine JgetI (g := 2) (z := Z 48 2) hx (show mx_Sn _ _ 6 (mx_getf 10 2 9) from sn_86 6) a48 s48 rfl rfl rfl ?_
        refine Jicmp_ge (show mx_Sn _ _ 9 (mx_icmp_ge 44 12) from sn_86 9) (by omega) (by omega) (fun q3 => ?_) (fun q3 => ?_)
        · skip
          refine JcI (z := 1) (show mx_Sn _ _ 44 (mx_const (.int 1) 45) from sn_86 44) rfl ?_
          exact mx_J.ret (show mx_Sn _ _ 45 (mx_zret) from sn_86 45) (fun _ _ => zr_ok (by omega)) (hP 1 (and3 (by omega) (fun hz => by first | exact absurd hz (by omega) | exact ab_mono (by assumption) (by omega) (by omega) (by omega))))
        · skip
          refine mx_J.step (sn_86 12) (fun _ _ => rfl) ?_
          refine JgetR (g := 0) (b := 49) hx (show mx_Sn _ _ 13 (mx_getf 10 0 16) from sn_86 13) a48 s48 rfl rfl (hG.prr 48 0 rfl) ?_
          refine mx_J.step (sn_86 16) (fun _ _ => rfl) ?_
          have b4 : (-9223372036854775808) ≤ Z 49 w1_5 ∧ Z 49 w1_5 ≤ 9223372036854775807 := hG.pr 49 w1_5
          refine JlaldL (z := Z 49 w1_5) hx (show mx_Sn _ _ 18 (mx_lald 19) from sn_86 18) a49 s49 (by omega) rfl ?_
          refine mx_J.step (sn_86 19) (fun _ _ => rfl) ?_
          have c36 : mx_J (tB l D b0 ad Hb tau) mt_86 (d + 0) 36 [some (.ref 48), some (xL x0), none, some (xL x1), none, some (xI w1_5)] [] h Post := by
            refine JcI (z := 0) (show mx_Sn _ _ 36 (mx_const (.int 0) 37) from sn_86 36) rfl ?_
            exact mx_J.ret (show mx_Sn _ _ 37 (mx_zret) from sn_86 37) (fun _ _ => zr_ok (by omega)) (hP 0 (and3 (by omega) (fun hz => by first | exact absurd hz (by omega) | exact ab_mono (by assumption) (by omega) (by omega) (by omega))))
          refine Jlif_lt (show mx_Sn _ _ 20 (mx_lif_lt 36 24) from sn_86 20) (by omega) (by omega) (fun q6 => ?_) (fun q6 => ?_)
          · skip
            exact c36 
          · skip
            refine mx_J.step (sn_86 24) (fun _ _ => rfl) ?_
            refine JgetR (g := 0) (b := 49) hx (show mx_Sn _ _ 25 (mx_getf 10 0 28) from sn_86 25) a48 s48 rfl rfl (hG.prr 48 0 rfl) ?_
            refine mx_J.step (sn_86 28) (fun _ _ => rfl) ?_
            have b7 : (-9223372036854775808) ≤ Z 49 w1_5 ∧ Z 49 w1_5 ≤ 9223372036854775807 := hG.pr 49 w1_5
            refine JlaldL (z := Z 49 w1_5) hx (show mx_Sn _ _ 30 (mx_lald 31) from sn_86 30) a49 s49 (by omega) rfl ?_
            refine mx_J.step (sn_86 31) (fun _ _ => rfl) ?_
            refine Jlif_le (show mx_Sn _ _ 32 (mx_lif_le 38 36) from sn_86 32) (by omega) (by omega) (fun q8 => ?_) (fun q8 => ?_)
            · skip
              refine Jiinc (z := w1_5) (cz := 1) (ls2 := [some (.ref 48), some (xL x0), none, some (xL x1), none, some (xI (w1_5 + 1))]) (show mx_Sn _ _ 38 (mx_iinc 5 1 41) from sn_86 38) rfl rfl rfl rfl ?_
              refine mx_J.step (sn_86 41) (fun _ _ => rfl) ?_
              exact ih1 (w1_5 + 1) (by omega) (by omega) (by first | exact ab_nil (by omega) | exact ab_ext (by assumption) (by omega))
            · skip
              exact c36 
    exact c3 (Int.toNat (40 - 0) + 1) 0 (by omega) (by omega) (by first | exact ab_nil (by omega) | exact ab_ext (by assumption) (by omega))
theorem ct_86_48 {l : Launch} {D : va_G} {b0 : Nat} {ad : Nat → Nat} {Hb : Heap} {tau : Nat → Int64} {d n s : Nat} {S : Nat → xS} {Z : xZ} {h : mx_H} (hx : XH n s S Z h) (hG : GI n S Z) {x0 x1 : Int} (p0 : (-9223372036854775808) ≤ x0 ∧ x0 ≤ 9223372036854775807) (p1 : (-9223372036854775808) ≤ x1 ∧ x1 ≤ 9223372036854775807) : ∃ z : Int, mx_Ca (tB l D b0 ad Hb tau) (d + 1) 86 [.ref 48, xL x0, xL x1] h (some (xI z), h) ∧ (0 ≤ z ∧ z ≤ 1 ∧ (z = 1 → AB Z 49 (Z 48 2) x0 x1)) := by
  obtain ⟨r, hca, z, e, hp⟩ := Jmt (B := tB l D b0 ad Hb tau) (M := mt_86) (mi := 86) (as := [.ref 48, xL x0, xL x1]) (d := d + 0) (ls := [some (.ref 48), some (xL x0), none, some (xL x1), none, none]) rfl rfl rfl rfl rfl rfl (cw_86_48 (l := l) (D := D) (b0 := b0) (ad := ad) (Hb := Hb) (tau := tau) (d := d) (Post := fun r => ∃ z : Int, r = (some (xI z), h) ∧ (0 ≤ z ∧ z ≤ 1 ∧ (z = 1 → AB Z 49 (Z 48 2) x0 x1))) hx hG p0 p1 (fun z hz => ⟨z, rfl, hz⟩))
  subst e; exact ⟨z, hca, hp⟩
set_option maxRecDepth 100000 in
theorem cw_87_48 {l : Launch} {D : va_G} {b0 : Nat} {ad : Nat → Nat} {Hb : Heap} {tau : Nat → Int64} {d n s : Nat} {S : Nat → xS} {Z : xZ} {h : mx_H} {Post : mx_R → Prop} (hx : XH n s S Z h) (hG : GI n S Z) {x0 : Int} (p0 : (-9223372036854775808) ≤ x0 ∧ x0 ≤ 9223372036854775807) (hP : ∀ z : Int, 0 ≤ z ∧ z ≤ 1 → Post (some (xI z), h)) : mx_J (tB l D b0 ad Hb tau) mt_87 (d + 0) 0 [some (.ref 48), some (xL x0), none, none] [] h Post := by
    have a48 : 48 < n := lt83 hG.1 rfl
    have s48 : S 48 = .inl (10, [2, 0, 0, 0]) := hG.2.1 48 rfl
    have a49 : 49 < n := lt83 hG.1 rfl
    have s49 : S 49 = .inr (.long, 40, 1) := hG.2.1 49 rfl
    refine JcI (z := 0) (show mx_Sn _ _ 0 (mx_const (.int 0) 1) from sn_87 0) rfl ?_
    refine mx_J.step (ls2 := [some (.ref 48), some (xL x0), none, some (xI 0)]) (sn_87 1) (fun _ _ => rfl) ?_
    have c2 : ∀ (m1 : Nat) (w1_3 : Int), 40 - w1_3 < (m1 : Int) → 0 ≤ w1_3 ∧ w1_3 ≤ 40 → mx_J (tB l D b0 ad Hb tau) mt_87 (d + 0) 2 [some (.ref 48), some (xL x0), none, some (xI w1_3)] [] h Post := by
      intro m1
      induction m1 with
      | zero => intro w1_3 q1 f1_0; exact absurd q1 (by omega)
      | succ m1 ih1 =>
        intro w1_3 q1 f1_0
        refine mx_J.step (sn_87 2) (fun _ _ => rfl) ?_
        refine mx_J.step (sn_87 3) (fun _ _ => rfl) ?_
        have b2 : 0 ≤ Z 48 2 ∧ Z 48 2 ≤ 40 := hG.pr 48 2
        refine JgetI (g := 2) (z := Z 48 2) hx (show mx_Sn _ _ 4 (mx_getf 10 2 7) from sn_87 4) a48 s48 rfl rfl rfl ?_
        refine Jicmp_ge (show mx_Sn _ _ 7 (mx_icmp_ge 29 10) from sn_87 7) (by omega) (by omega) (fun q3 => ?_) (fun q3 => ?_)
        · skip
          refine JcI (z := 0) (show mx_Sn _ _ 29 (mx_const (.int 0) 30) from sn_87 29) rfl ?_
          exact mx_J.ret (show mx_Sn _ _ 30 (mx_zret) from sn_87 30) (fun _ _ => zr_ok (by omega)) (hP 0 (by omega))
        · skip
          refine mx_J.step (sn_87 10) (fun _ _ => rfl) ?_
          refine JgetR (g := 0) (b := 49) hx (show mx_Sn _ _ 11 (mx_getf 10 0 14) from sn_87 11) a48 s48 rfl rfl (hG.prr 48 0 rfl) ?_
          refine mx_J.step (sn_87 14) (fun _ _ => rfl) ?_
          have b4 : (-9223372036854775808) ≤ Z 49 w1_3 ∧ Z 49 w1_3 ≤ 9223372036854775807 := hG.pr 49 w1_3
          refine JlaldL (z := Z 49 w1_3) hx (show mx_Sn _ _ 15 (mx_lald 16) from sn_87 15) a49 s49 (by omega) rfl ?_
          refine mx_J.step (sn_87 16) (fun _ _ => rfl) ?_
          refine Jlif_ne (show mx_Sn _ _ 17 (mx_lif_ne 23 21) from sn_87 17) (by omega) (by omega) (fun q5 => ?_) (fun q5 => ?_)
          · skip
            refine Jiinc (z := w1_3) (cz := 1) (ls2 := [some (.ref 48), some (xL x0), none, some (xI (w1_3 + 1))]) (show mx_Sn _ _ 23 (mx_iinc 3 1 26) from sn_87 23) rfl rfl rfl rfl ?_
            refine mx_J.step (sn_87 26) (fun _ _ => rfl) ?_
            exact ih1 (w1_3 + 1) (by omega) (by omega)
          · skip
            refine JcI (z := 1) (show mx_Sn _ _ 21 (mx_const (.int 1) 22) from sn_87 21) rfl ?_
            exact mx_J.ret (show mx_Sn _ _ 22 (mx_zret) from sn_87 22) (fun _ _ => zr_ok (by omega)) (hP 1 (by omega))
    exact c2 (Int.toNat (40 - 0) + 1) 0 (by omega) (by omega)
theorem ct_87_48 {l : Launch} {D : va_G} {b0 : Nat} {ad : Nat → Nat} {Hb : Heap} {tau : Nat → Int64} {d n s : Nat} {S : Nat → xS} {Z : xZ} {h : mx_H} (hx : XH n s S Z h) (hG : GI n S Z) {x0 : Int} (p0 : (-9223372036854775808) ≤ x0 ∧ x0 ≤ 9223372036854775807) : ∃ z : Int, mx_Ca (tB l D b0 ad Hb tau) (d + 1) 87 [.ref 48, xL x0] h (some (xI z), h) ∧ (0 ≤ z ∧ z ≤ 1) := by
  obtain ⟨r, hca, z, e, hp⟩ := Jmt (B := tB l D b0 ad Hb tau) (M := mt_87) (mi := 87) (as := [.ref 48, xL x0]) (d := d + 0) (ls := [some (.ref 48), some (xL x0), none, none]) rfl rfl rfl rfl rfl rfl (cw_87_48 (l := l) (D := D) (b0 := b0) (ad := ad) (Hb := Hb) (tau := tau) (d := d) (Post := fun r => ∃ z : Int, r = (some (xI z), h) ∧ (0 ≤ z ∧ z ≤ 1)) hx hG p0 (fun z hz => ⟨z, rfl, hz⟩))
  subst e; exact ⟨z, hca, hp⟩
set_option maxRecDepth 100000 in
theorem cw_84_48 {l : Launch} {D : va_G} {b0 : Nat} {ad : Nat → Nat} {Hb : Heap} {tau : Nat → Int64} {d n s : Nat} {S : Nat → xS} {Z : xZ} {h : mx_H} {Post : mx_R → Prop} (hx : XH n s S Z h) (hG : GI n S Z) {x0 x1 : Int} (p0 : (-2147483648) ≤ x0 ∧ x0 ≤ 2147483647) (p1 : (-9223372036854775808) ≤ x1 ∧ x1 ≤ 9223372036854775807) (hP : ∀ (Z' : xZ) (h' : mx_H), XH n s S Z' h' → GI n S Z' → fr' [(49, (-1))] Z Z' → Post (none, h')) : mx_J (tB l D b0 ad Hb tau) mt_84 (d + 0) 0 [some (.ref 48), some (xI x0), some (xL x1), none] [] h Post := by
    have a48 : 48 < n := lt83 hG.1 rfl
    have s48 : S 48 = .inl (10, [2, 0, 0, 0]) := hG.2.1 48 rfl
    have a49 : 49 < n := lt83 hG.1 rfl
    have s49 : S 49 = .inr (.long, 40, 1) := hG.2.1 49 rfl
    refine mx_J.step (sn_84 0) (fun _ _ => rfl) ?_
    have c10 : mx_J (tB l D b0 ad Hb tau) mt_84 (d + 0) 10 [some (.ref 48), some (xI x0), some (xL x1), none] [] h Post := by
      exact mx_J.ret (sn_84 10) (fun _ _ => rfl) (hP Z h hx hG fr_rf)
    refine Jif_lt (show mx_Sn _ _ 1 (mx_if_lt 10 4) from sn_84 1) (by omega) (fun q2 => ?_) (fun q2 => ?_)
    · skip
      exact c10 
    · skip
      refine mx_J.step (sn_84 4) (fun _ _ => rfl) ?_
      refine JcI (z := 40) (show mx_Sn _ _ 5 (mx_const (.int 40) 7) from sn_84 5) rfl ?_
      refine Jicmp_lt (show mx_Sn _ _ 7 (mx_icmp_lt 11 10) from sn_84 7) (by omega) (by omega) (fun q3 => ?_) (fun q3 => ?_)
      · skip
        refine mx_J.step (sn_84 11) (fun _ _ => rfl) ?_
        have b4 : 0 ≤ Z 48 1 ∧ Z 48 1 ≤ 3 := hG.pr 48 1
        refine JgetI (g := 1) (z := Z 48 1) hx (show mx_Sn _ _ 12 (mx_getf 10 1 15) from sn_84 12) a48 s48 rfl rfl rfl ?_
        have c85 : ∀  (Z6 : xZ) (h6 : mx_H), XH n s S Z6 h6 → GI n S Z6 → fr' [(49, (-1))] Z Z6 → mx_J (tB l D b0 ad Hb tau) mt_84 (d + 0) 85 [some (.ref 48), some (xI x0), some (xL x1), none] [] h6 Post := by
          intro Z6 h6 hx6 hG6 hf6
          exact mx_J.ret (sn_84 85) (fun _ _ => rfl) (hP Z6 h6 hx6 hG6 (fr_tr (M := [(49, (-1))]) fr_rf (hf6) (M1 := []) rfl rfl))
        refine Jtsw (z := Z 48 1) (show mx_Sn _ _ 15 (mx_tsw 0 2 [40, 53, 66] 78) from sn_84 15) (by omega) (fun q7 => ?_) (fun q7 => ?_)
        · skip
          refine mx_J.step (sn_84 78) (fun _ _ => rfl) ?_
          refine JgetR (g := 0) (b := 49) hx (show mx_Sn _ _ 79 (mx_getf 10 0 82) from sn_84 79) a48 s48 rfl rfl (hG.prr 48 0 rfl) ?_
          refine mx_J.step (sn_84 82) (fun _ _ => rfl) ?_
          refine mx_J.step (sn_84 83) (fun _ _ => rfl) ?_
          refine JlastL hx (show mx_Sn _ _ 84 (mx_last 1 85) from sn_84 84) a49 s49 rfl (by omega) (fun Z8 h8 hx8 hE8 => ?_)
          have hG8 := GI_up hG hE8 (show (-9223372036854775808) ≤ x1 ∧ x1 ≤ 9223372036854775807 by omega) trivial rfl
          exact c85 Z8 h8 hx8 hG8 (fr_tr (M := [(49, (-1))]) fr_rf (fr_ua hE8) (M1 := []) rfl rfl)
        · skip
          have e7 : Z 48 1 = 0 ∨ Z 48 1 = 1 ∨ Z 48 1 = 2 := by omega
          rcases e7 with e7 | e7 | e7
          · refine ⟨40, by rw [e7]; rfl, ?_⟩
            refine mx_J.step (sn_84 40) (fun _ _ => rfl) ?_
            refine JgetR (g := 0) (b := 49) hx (show mx_Sn _ _ 41 (mx_getf 10 0 44) from sn_84 41) a48 s48 rfl rfl (hG.prr 48 0 rfl) ?_
            refine mx_J.step (sn_84 44) (fun _ _ => rfl) ?_
            refine mx_J.step (sn_84 45) (fun _ _ => rfl) ?_
            refine Jl2i (show mx_Sn _ _ 46 (mx_l2i 47) from sn_84 46) (Jnorm fun y9 hy9 hq9 => ?_)
            refine Ji2bX (show mx_Sn _ _ 47 (mx_i2b 48) from sn_84 47) (fun y10 hy10 => ?_)
            refine Ji2l (show mx_Sn _ _ 48 (mx_i2l 49) from sn_84 48) (by omega) ?_
            refine JlastL hx (show mx_Sn _ _ 49 (mx_last 1 50) from sn_84 49) a49 s49 rfl (by omega) (fun Z11 h11 hx11 hE11 => ?_)
            have hG11 := GI_up hG hE11 (show (-9223372036854775808) ≤ y10 ∧ y10 ≤ 9223372036854775807 by omega) trivial rfl
            refine mx_J.step (sn_84 50) (fun _ _ => rfl) ?_
            exact c85 Z11 h11 hx11 hG11 (fr_tr (M := [(49, (-1))]) fr_rf (fr_ua hE11) (M1 := []) rfl rfl)
          · refine ⟨53, by rw [e7]; rfl, ?_⟩
            refine mx_J.step (sn_84 53) (fun _ _ => rfl) ?_
            refine JgetR (g := 0) (b := 49) hx (show mx_Sn _ _ 54 (mx_getf 10 0 57) from sn_84 54) a48 s48 rfl rfl (hG.prr 48 0 rfl) ?_
            refine mx_J.step (sn_84 57) (fun _ _ => rfl) ?_
            refine mx_J.step (sn_84 58) (fun _ _ => rfl) ?_
            refine Jl2i (show mx_Sn _ _ 59 (mx_l2i 60) from sn_84 59) (Jnorm fun y12 hy12 hq12 => ?_)
            refine Ji2sX (show mx_Sn _ _ 60 (mx_i2s 61) from sn_84 60) (fun y13 hy13 => ?_)
            refine Ji2l (show mx_Sn _ _ 61 (mx_i2l 62) from sn_84 61) (by omega) ?_
            refine JlastL hx (show mx_Sn _ _ 62 (mx_last 1 63) from sn_84 62) a49 s49 rfl (by omega) (fun Z14 h14 hx14 hE14 => ?_)
            have hG14 := GI_up hG hE14 (show (-9223372036854775808) ≤ y13 ∧ y13 ≤ 9223372036854775807 by omega) trivial rfl
            refine mx_J.step (sn_84 63) (fun _ _ => rfl) ?_
            exact c85 Z14 h14 hx14 hG14 (fr_tr (M := [(49, (-1))]) fr_rf (fr_ua hE14) (M1 := []) rfl rfl)
          · refine ⟨66, by rw [e7]; rfl, ?_⟩
            refine mx_J.step (sn_84 66) (fun _ _ => rfl) ?_
            refine JgetR (g := 0) (b := 49) hx (show mx_Sn _ _ 67 (mx_getf 10 0 70) from sn_84 67) a48 s48 rfl rfl (hG.prr 48 0 rfl) ?_
            refine mx_J.step (sn_84 70) (fun _ _ => rfl) ?_
            refine mx_J.step (sn_84 71) (fun _ _ => rfl) ?_
            refine Jl2i (show mx_Sn _ _ 72 (mx_l2i 73) from sn_84 72) (Jnorm fun y15 hy15 hq15 => ?_)
            refine Ji2l (show mx_Sn _ _ 73 (mx_i2l 74) from sn_84 73) (by omega) ?_
            refine JlastL hx (show mx_Sn _ _ 74 (mx_last 1 75) from sn_84 74) a49 s49 rfl (by omega) (fun Z16 h16 hx16 hE16 => ?_)
            have hG16 := GI_up hG hE16 (show (-9223372036854775808) ≤ y15 ∧ y15 ≤ 9223372036854775807 by omega) trivial rfl
            refine mx_J.step (sn_84 75) (fun _ _ => rfl) ?_
            exact c85 Z16 h16 hx16 hG16 (fr_tr (M := [(49, (-1))]) fr_rf (fr_ua hE16) (M1 := []) rfl rfl)
      · skip
        exact c10 
theorem ct_84_48 {l : Launch} {D : va_G} {b0 : Nat} {ad : Nat → Nat} {Hb : Heap} {tau : Nat → Int64} {d n s : Nat} {S : Nat → xS} {Z : xZ} {h : mx_H} (hx : XH n s S Z h) (hG : GI n S Z) {x0 x1 : Int} (p0 : (-2147483648) ≤ x0 ∧ x0 ≤ 2147483647) (p1 : (-9223372036854775808) ≤ x1 ∧ x1 ≤ 9223372036854775807) : ∃ (Z' : xZ) (h' : mx_H), mx_Ca (tB l D b0 ad Hb tau) (d + 1) 84 [.ref 48, xI x0, xL x1] h (none, h') ∧ XH n s S Z' h' ∧ GI n S Z' ∧ fr' [(49, (-1))] Z Z' := by
  obtain ⟨r, hca, Z', h', e, q⟩ := Jmt (B := tB l D b0 ad Hb tau) (M := mt_84) (mi := 84) (as := [.ref 48, xI x0, xL x1]) (d := d + 0) (ls := [some (.ref 48), some (xI x0), some (xL x1), none]) rfl rfl rfl rfl rfl rfl (cw_84_48 (l := l) (D := D) (b0 := b0) (ad := ad) (Hb := Hb) (tau := tau) (d := d) (Post := fun r => ∃ (Z' : xZ) (h' : mx_H), r = (none, h') ∧ XH n s S Z' h' ∧ GI n S Z' ∧ fr' [(49, (-1))] Z Z') hx hG p0 p1 (fun Z' h' q1 q2 q3 => ⟨Z', h', rfl, q1, q2, q3⟩))
  subst e; exact ⟨Z', h', hca, q⟩
set_option maxRecDepth 100000 in
theorem cw_285_49 {l : Launch} {D : va_G} {b0 : Nat} {ad : Nat → Nat} {Hb : Heap} {tau : Nat → Int64} {d n s : Nat} {S : Nat → xS} {Z : xZ} {h : mx_H} {Post : mx_R → Prop} (hx : XH n s S Z h) (hG : GI n S Z) {x0 : Int} (p0 : (-9223372036854775808) ≤ x0 ∧ x0 ≤ 9223372036854775807) (hP : ∀ (Z' : xZ) (h' : mx_H), XH n s S Z' h' → GI n S Z' → fr' [(49, (-1))] Z Z' → Post (none, h')) : mx_J (tB l D b0 ad Hb tau) mt_285 (d + 0) 0 [some (.ref 49), some (xL x0), none, none, none] [] h Post := by
    have a49 : 49 < n := lt83 hG.1 rfl
    have s49 : S 49 = .inr (.long, 40, 1) := hG.2.1 49 rfl
    refine JcI (z := 0) (show mx_Sn _ _ 0 (mx_const (.int 0) 1) from sn_285 0) rfl ?_
    refine mx_J.step (ls2 := [some (.ref 49), some (xL x0), none, some (xI 0), none]) (sn_285 1) (fun _ _ => rfl) ?_
    refine mx_J.step (sn_285 2) (fun _ _ => rfl) ?_
    refine JalenI (z := 40) hx (show mx_Sn _ _ 3 (mx_alen 4) from sn_285 3) a49 s49 (by decide) rfl ?_
    refine mx_J.step (ls2 := [some (.ref 49), some (xL x0), none, some (xI 0), some (xI 40)]) (sn_285 4) (fun _ _ => rfl) ?_
    have c6 : ∀ (m1 : Nat) (w1_3 : Int) (Z2 : xZ) (h2 : mx_H), 40 - w1_3 < (m1 : Int) → 0 ≤ w1_3 ∧ w1_3 ≤ 40 → XH n s S Z2 h2 → GI n S Z2 → fr' [(49, (-1))] Z Z2 → mx_J (tB l D b0 ad Hb tau) mt_285 (d + 0) 6 [some (.ref 49), some (xL x0), none, some (xI w1_3), some (xI 40)] [] h2 Post := by
      intro m1
      induction m1 with
      | zero => intro w1_3 Z2 h2 q1 f1_0 hx2 hG2 hf2; exact absurd q1 (by omega)
      | succ m1 ih1 =>
        intro w1_3 Z2 h2 q1 f1_0 hx2 hG2 hf2
        refine mx_J.step (sn_285 6) (fun _ _ => rfl) ?_
        refine mx_J.step (sn_285 7) (fun _ _ => rfl) ?_
        refine Jicmp_ge (show mx_Sn _ _ 9 (mx_icmp_ge 22 12) from sn_285 9) (by omega) (by omega) (fun q3 => ?_) (fun q3 => ?_)
        · skip
          exact mx_J.ret (sn_285 22) (fun _ _ => rfl) (hP Z2 h2 hx2 hG2 (fr_tr (M := [(49, (-1))]) fr_rf (hf2) (M1 := []) rfl rfl))
        · skip
          refine mx_J.step (sn_285 12) (fun _ _ => rfl) ?_
          refine mx_J.step (sn_285 13) (fun _ _ => rfl) ?_
          refine mx_J.step (sn_285 14) (fun _ _ => rfl) ?_
          refine JlastL hx2 (show mx_Sn _ _ 15 (mx_last 1 16) from sn_285 15) a49 s49 rfl (by omega) (fun Z4 h4 hx4 hE4 => ?_)
          have hG4 := GI_up hG2 hE4 (show (-9223372036854775808) ≤ x0 ∧ x0 ≤ 9223372036854775807 by omega) trivial rfl
          refine Jiinc (z := w1_3) (cz := 1) (ls2 := [some (.ref 49), some (xL x0), none, some (xI (w1_3 + 1)), some (xI 40)]) (show mx_Sn _ _ 16 (mx_iinc 3 1 19) from sn_285 16) rfl rfl rfl rfl ?_
          refine mx_J.step (sn_285 19) (fun _ _ => rfl) ?_
          exact ih1 (w1_3 + 1) Z4 h4 (by omega) (by omega) hx4 hG4 (fr_tr (M := [(49, (-1))]) (fr_tr (M := [(49, (-1))]) fr_rf (hf2) (M1 := []) rfl rfl) (fr_ua hE4) rfl rfl)
    exact c6 (Int.toNat (40 - 0) + 1) 0 Z h (by omega) (by omega) hx hG fr_rf
theorem ct_285_49 {l : Launch} {D : va_G} {b0 : Nat} {ad : Nat → Nat} {Hb : Heap} {tau : Nat → Int64} {d n s : Nat} {S : Nat → xS} {Z : xZ} {h : mx_H} (hx : XH n s S Z h) (hG : GI n S Z) {x0 : Int} (p0 : (-9223372036854775808) ≤ x0 ∧ x0 ≤ 9223372036854775807) : ∃ (Z' : xZ) (h' : mx_H), mx_Ca (tB l D b0 ad Hb tau) (d + 1) 285 [.ref 49, xL x0] h (none, h') ∧ XH n s S Z' h' ∧ GI n S Z' ∧ fr' [(49, (-1))] Z Z' := by
  obtain ⟨r, hca, Z', h', e, q⟩ := Jmt (B := tB l D b0 ad Hb tau) (M := mt_285) (mi := 285) (as := [.ref 49, xL x0]) (d := d + 0) (ls := [some (.ref 49), some (xL x0), none, none, none]) rfl rfl rfl rfl rfl rfl (cw_285_49 (l := l) (D := D) (b0 := b0) (ad := ad) (Hb := Hb) (tau := tau) (d := d) (Post := fun r => ∃ (Z' : xZ) (h' : mx_H), r = (none, h') ∧ XH n s S Z' h' ∧ GI n S Z' ∧ fr' [(49, (-1))] Z Z') hx hG p0 (fun Z' h' q1 q2 q3 => ⟨Z', h', rfl, q1, q2, q3⟩))
  subst e; exact ⟨Z', h', hca, q⟩
set_option maxRecDepth 100000 in
theorem cw_83_48 {l : Launch} {D : va_G} {b0 : Nat} {ad : Nat → Nat} {Hb : Heap} {tau : Nat → Int64} {d n s : Nat} {S : Nat → xS} {Z : xZ} {h : mx_H} {Post : mx_R → Prop} (hx : XH n s S Z h) (hG : GI n S Z) {x0 x1 : Int} (p0 : 0 ≤ x0 ∧ x0 ≤ 3) (p1 : 0 ≤ x1 ∧ x1 ≤ 40) (hP : ∀ (Z' : xZ) (h' : mx_H), XH n s S Z' h' → GI n S Z' → fr' [(48, 1), (48, 2), (48, 3), (49, (-1))] Z Z' → Post (none, h')) : mx_J (tB l D b0 ad Hb tau) mt_83 (d + 1) 0 [some (.ref 48), some (xI x0), some (xI x1)] [] h Post := by
    have a48 : 48 < n := lt83 hG.1 rfl
    have s48 : S 48 = .inl (10, [2, 0, 0, 0]) := hG.2.1 48 rfl
    refine mx_J.step (sn_83 0) (fun _ _ => rfl) ?_
    refine mx_J.step (sn_83 1) (fun _ _ => rfl) ?_
    refine JputI (g := 1) hx (show mx_Sn _ _ 2 (mx_putf 1 10 1 (.int) 5) from sn_83 2) a48 s48 rfl rfl rfl rfl (fun Z1 h1 hx1 hE1 => ?_)
    have hG1 := GI_up hG hE1 (show 0 ≤ x0 ∧ x0 ≤ 3 by omega) trivial rfl
    refine mx_J.step (sn_83 5) (fun _ _ => rfl) ?_
    refine mx_J.step (sn_83 6) (fun _ _ => rfl) ?_
    refine JputI (g := 2) hx1 (show mx_Sn _ _ 7 (mx_putf 1 10 2 (.int) 10) from sn_83 7) a48 s48 rfl rfl rfl rfl (fun Z2 h2 hx2 hE2 => ?_)
    have hG2 := GI_up hG1 hE2 (show 0 ≤ x1 ∧ x1 ≤ 40 by omega) trivial rfl
    refine mx_J.step (sn_83 10) (fun _ _ => rfl) ?_
    refine JcI (z := 0) (show mx_Sn _ _ 11 (mx_const (.int 0) 12) from sn_83 11) rfl ?_
    refine JputI (g := 3) hx2 (show mx_Sn _ _ 12 (mx_putf 1 10 3 (.boolean) 15) from sn_83 12) a48 s48 rfl rfl (fit_z (by omega)) rfl (fun Z3 h3 hx3 hE3 => ?_)
    have hG3 := GI_up hG2 hE3 (show 0 ≤ 0 ∧ 0 ≤ 1 by omega) trivial rfl
    refine mx_J.step (sn_83 15) (fun _ _ => rfl) ?_
    refine JgetR (g := 0) (b := 49) hx3 (show mx_Sn _ _ 16 (mx_getf 10 0 19) from sn_83 16) a48 s48 rfl rfl (hG3.prr 48 0 rfl) ?_
    refine JcL (z := 0) (show mx_Sn _ _ 19 (mx_const (.long 0) 20) from sn_83 19) rfl ?_
    obtain ⟨Z4, h4, hc4, hx4, hG4, hf4⟩ := ct_285_49 (d := d + 0) (l := l) (D := D) (b0 := b0) (ad := ad) (Hb := Hb) (tau := tau) hx3 hG3 (show (-9223372036854775808) ≤ 0 ∧ 0 ≤ 9223372036854775807 by omega)
    refine Jcs0 (show mx_Sn _ _ 20 (mx_calls 285 2 23) from sn_83 20) hc4 rfl rfl rfl ?_
    exact mx_J.ret (sn_83 23) (fun _ _ => rfl) (hP Z4 h4 hx4 hG4 (fr_tr (M := [(48, 1), (48, 2), (48, 3), (49, (-1))]) (fr_tr (M := [(48, 1), (48, 2), (48, 3), (49, (-1))]) (fr_tr (M := [(48, 1), (48, 2), (48, 3), (49, (-1))]) (fr_tr (M := [(48, 1), (48, 2), (48, 3), (49, (-1))]) fr_rf (fr_up hE1) (M1 := []) rfl rfl) (fr_up hE2) rfl rfl) (fr_up hE3) rfl rfl) (hf4) rfl rfl))
theorem ct_83_48 {l : Launch} {D : va_G} {b0 : Nat} {ad : Nat → Nat} {Hb : Heap} {tau : Nat → Int64} {d n s : Nat} {S : Nat → xS} {Z : xZ} {h : mx_H} (hx : XH n s S Z h) (hG : GI n S Z) {x0 x1 : Int} (p0 : 0 ≤ x0 ∧ x0 ≤ 3) (p1 : 0 ≤ x1 ∧ x1 ≤ 40) : ∃ (Z' : xZ) (h' : mx_H), mx_Ca (tB l D b0 ad Hb tau) (d + 2) 83 [.ref 48, xI x0, xI x1] h (none, h') ∧ XH n s S Z' h' ∧ GI n S Z' ∧ fr' [(48, 1), (48, 2), (48, 3), (49, (-1))] Z Z' := by
  obtain ⟨r, hca, Z', h', e, q⟩ := Jmt (B := tB l D b0 ad Hb tau) (M := mt_83) (mi := 83) (as := [.ref 48, xI x0, xI x1]) (d := d + 1) (ls := [some (.ref 48), some (xI x0), some (xI x1)]) rfl rfl rfl rfl rfl rfl (cw_83_48 (l := l) (D := D) (b0 := b0) (ad := ad) (Hb := Hb) (tau := tau) (d := d) (Post := fun r => ∃ (Z' : xZ) (h' : mx_H), r = (none, h') ∧ XH n s S Z' h' ∧ GI n S Z' ∧ fr' [(48, 1), (48, 2), (48, 3), (49, (-1))] Z Z') hx hG p0 p1 (fun Z' h' q1 q2 q3 => ⟨Z', h', rfl, q1, q2, q3⟩))
  subst e; exact ⟨Z', h', hca, q⟩
set_option maxRecDepth 100000 in
theorem cw_85_50 {l : Launch} {D : va_G} {b0 : Nat} {ad : Nat → Nat} {Hb : Heap} {tau : Nat → Int64} {d n s : Nat} {S : Nat → xS} {Z : xZ} {h : mx_H} {Post : mx_R → Prop} (hx : XH n s S Z h) (hG : GI n S Z) {x0 : Int} (p0 : (-2147483648) ≤ x0 ∧ x0 ≤ 2147483647) (hP : ∀ z : Int, (-9223372036854775808) ≤ z ∧ z ≤ 9223372036854775807 ∧ (0 ≤ x0 → x0 ≤ 39 → z = Z 51 x0) → Post (some (xL z), h)) : mx_J (tB l D b0 ad Hb tau) mt_85 (d + 0) 0 [some (.ref 50), some (xI x0)] [] h Post := by
    have a50 : 50 < n := lt83 hG.1 rfl
    have s50 : S 50 = .inl (10, [2, 0, 0, 0]) := hG.2.1 50 rfl
    have a51 : 51 < n := lt83 hG.1 rfl
    have s51 : S 51 = .inr (.long, 40, 1) := hG.2.1 51 rfl
    refine mx_J.step (sn_85 0) (fun _ _ => rfl) ?_
    have c20 : ∀ (k1_0 : Int), (-9223372036854775808) ≤ k1_0 ∧ k1_0 ≤ 9223372036854775807 → (0 ≤ x0 → x0 ≤ 39 → k1_0 = Z 51 x0) → mx_J (tB l D b0 ad Hb tau) mt_85 (d + 0) 20 [some (.ref 50), some (xI x0)] [xL k1_0] h Post := by
      intro k1_0 f1_0 f1_1
      exact mx_J.ret (sn_85 20) (fun _ _ => rfl) (hP k1_0 (by omega))
    have c10 : mx_J (tB l D b0 ad Hb tau) mt_85 (d + 0) 10 [some (.ref 50), some (xI x0)] [] h Post := by
      refine JcL (z := 0) (show mx_Sn _ _ 10 (mx_const (.long 0) 11) from sn_85 10) rfl ?_
      refine mx_J.step (sn_85 11) (fun _ _ => rfl) ?_
      exact c20 0 (by omega) (by omega)
    refine Jif_lt (show mx_Sn _ _ 1 (mx_if_lt 10 4) from sn_85 1) (by omega) (fun q3 => ?_) (fun q3 => ?_)
    · skip
      exact c10 
    · skip
      refine mx_J.step (sn_85 4) (fun _ _ => rfl) ?_
      refine JcI (z := 40) (show mx_Sn _ _ 5 (mx_const (.int 40) 7) from sn_85 5) rfl ?_
      refine Jicmp_lt (show mx_Sn _ _ 7 (mx_icmp_lt 14 10) from sn_85 7) (by omega) (by omega) (fun q4 => ?_) (fun q4 => ?_)
      · skip
        refine mx_J.step (sn_85 14) (fun _ _ => rfl) ?_
        refine JgetR (g := 0) (b := 51) hx (show mx_Sn _ _ 15 (mx_getf 10 0 18) from sn_85 15) a50 s50 rfl rfl (hG.prr 50 0 rfl) ?_
        refine mx_J.step (sn_85 18) (fun _ _ => rfl) ?_
        have b5 : (-9223372036854775808) ≤ Z 51 x0 ∧ Z 51 x0 ≤ 9223372036854775807 := hG.pr 51 x0
        refine JlaldL (z := Z 51 x0) hx (show mx_Sn _ _ 19 (mx_lald 20) from sn_85 19) a51 s51 (by omega) rfl ?_
        exact c20 (Z 51 x0) (by omega) (by omega)
      · skip
        exact c10 
theorem ct_85_50 {l : Launch} {D : va_G} {b0 : Nat} {ad : Nat → Nat} {Hb : Heap} {tau : Nat → Int64} {d n s : Nat} {S : Nat → xS} {Z : xZ} {h : mx_H} (hx : XH n s S Z h) (hG : GI n S Z) {x0 : Int} (p0 : (-2147483648) ≤ x0 ∧ x0 ≤ 2147483647) : ∃ z : Int, mx_Ca (tB l D b0 ad Hb tau) (d + 1) 85 [.ref 50, xI x0] h (some (xL z), h) ∧ ((-9223372036854775808) ≤ z ∧ z ≤ 9223372036854775807 ∧ (0 ≤ x0 → x0 ≤ 39 → z = Z 51 x0)) := by
  obtain ⟨r, hca, z, e, hp⟩ := Jmt (B := tB l D b0 ad Hb tau) (M := mt_85) (mi := 85) (as := [.ref 50, xI x0]) (d := d + 0) (ls := [some (.ref 50), some (xI x0)]) rfl rfl rfl rfl rfl rfl (cw_85_50 (l := l) (D := D) (b0 := b0) (ad := ad) (Hb := Hb) (tau := tau) (d := d) (Post := fun r => ∃ z : Int, r = (some (xL z), h) ∧ ((-9223372036854775808) ≤ z ∧ z ≤ 9223372036854775807 ∧ (0 ≤ x0 → x0 ≤ 39 → z = Z 51 x0))) hx hG p0 (fun z hz => ⟨z, rfl, hz⟩))
  subst e; exact ⟨z, hca, hp⟩
set_option maxRecDepth 100000 in
theorem cw_86_50 {l : Launch} {D : va_G} {b0 : Nat} {ad : Nat → Nat} {Hb : Heap} {tau : Nat → Int64} {d n s : Nat} {S : Nat → xS} {Z : xZ} {h : mx_H} {Post : mx_R → Prop} (hx : XH n s S Z h) (hG : GI n S Z) {x0 x1 : Int} (p0 : (-9223372036854775808) ≤ x0 ∧ x0 ≤ 9223372036854775807) (p1 : (-9223372036854775808) ≤ x1 ∧ x1 ≤ 9223372036854775807) (hP : ∀ z : Int, 0 ≤ z ∧ z ≤ 1 ∧ (z = 1 → AB Z 51 (Z 50 2) x0 x1) → Post (some (xI z), h)) : mx_J (tB l D b0 ad Hb tau) mt_86 (d + 0) 0 [some (.ref 50), some (xL x0), none, some (xL x1), none, none] [] h Post := by
    have a50 : 50 < n := lt83 hG.1 rfl
    have s50 : S 50 = .inl (10, [2, 0, 0, 0]) := hG.2.1 50 rfl
    have a51 : 51 < n := lt83 hG.1 rfl
    have s51 : S 51 = .inr (.long, 40, 1) := hG.2.1 51 rfl
    refine JcI (z := 0) (show mx_Sn _ _ 0 (mx_const (.int 0) 1) from sn_86 0) rfl ?_
    refine mx_J.step (ls2 := [some (.ref 50), some (xL x0), none, some (xL x1), none, some (xI 0)]) (sn_86 1) (fun _ _ => rfl) ?_
    have c3 : ∀ (m1 : Nat) (w1_5 : Int), 40 - w1_5 < (m1 : Int) → 0 ≤ w1_5 ∧ w1_5 ≤ 40 → AB Z 51 w1_5 x0 x1 → mx_J (tB l D b0 ad Hb tau) mt_86 (d + 0) 3 [some (.ref 50), some (xL x0), none, some (xL x1), none, some (xI w1_5)] [] h Post := by
      intro m1
      induction m1 with
      | zero => intro w1_5 q1 f1_0 f1_1; exact absurd q1 (by omega)
      | succ m1 ih1 =>
        intro w1_5 q1 f1_0 f1_1
        refine mx_J.step (sn_86 3) (fun _ _ => rfl) ?_
        refine mx_J.step (sn_86 5) (fun _ _ => rfl) ?_
        have b2 : 0 ≤ Z 50 2 ∧ Z 50 2 ≤ 40 := hG.pr 50 2
        refine JgetI (g := 2) (z := Z 50 2) hx (show mx_Sn _ _ 6 (mx_getf 10 2 9) from sn_86 6) a50 s50 rfl rfl rfl ?_
        refine Jicmp_ge (show mx_Sn _ _ 9 (mx_icmp_ge 44 12) from sn_86 9) (by omega) (by omega) (fun q3 => ?_) (fun q3 => ?_)
        · skip
          refine JcI (z := 1) (show mx_Sn _ _ 44 (mx_const (.int 1) 45) from sn_86 44) rfl ?_
          exact mx_J.ret (show mx_Sn _ _ 45 (mx_zret) from sn_86 45) (fun _ _ => zr_ok (by omega)) (hP 1 (and3 (by omega) (fun hz => by first | exact absurd hz (by omega) | exact ab_mono (by assumption) (by omega) (by omega) (by omega))))
        · skip
          refine mx_J.step (sn_86 12) (fun _ _ => rfl) ?_
          refine JgetR (g := 0) (b := 51) hx (show mx_Sn _ _ 13 (mx_getf 10 0 16) from sn_86 13) a50 s50 rfl rfl (hG.prr 50 0 rfl) ?_
          refine mx_J.step (sn_86 16) (fun _ _ => rfl) ?_
          have b4 : (-9223372036854775808) ≤ Z 51 w1_5 ∧ Z 51 w1_5 ≤ 9223372036854775807 := hG.pr 51 w1_5
          refine JlaldL (z := Z 51 w1_5) hx (show mx_Sn _ _ 18 (mx_lald 19) from sn_86 18) a51 s51 (by omega) rfl ?_
          refine mx_J.step (sn_86 19) (fun _ _ => rfl) ?_
          have c36 : mx_J (tB l D b0 ad Hb tau) mt_86 (d + 0) 36 [some (.ref 50), some (xL x0), none, some (xL x1), none, some (xI w1_5)] [] h Post := by
            refine JcI (z := 0) (show mx_Sn _ _ 36 (mx_const (.int 0) 37) from sn_86 36) rfl ?_
            exact mx_J.ret (show mx_Sn _ _ 37 (mx_zret) from sn_86 37) (fun _ _ => zr_ok (by omega)) (hP 0 (and3 (by omega) (fun hz => by first | exact absurd hz (by omega) | exact ab_mono (by assumption) (by omega) (by omega) (by omega))))
          refine Jlif_lt (show mx_Sn _ _ 20 (mx_lif_lt 36 24) from sn_86 20) (by omega) (by omega) (fun q6 => ?_) (fun q6 => ?_)
          · skip
            exact c36 
          · skip
            refine mx_J.step (sn_86 24) (fun _ _ => rfl) ?_
            refine JgetR (g := 0) (b := 51) hx (show mx_Sn _ _ 25 (mx_getf 10 0 28) from sn_86 25) a50 s50 rfl rfl (hG.prr 50 0 rfl) ?_
            refine mx_J.step (sn_86 28) (fun _ _ => rfl) ?_
            have b7 : (-9223372036854775808) ≤ Z 51 w1_5 ∧ Z 51 w1_5 ≤ 9223372036854775807 := hG.pr 51 w1_5
            refine JlaldL (z := Z 51 w1_5) hx (show mx_Sn _ _ 30 (mx_lald 31) from sn_86 30) a51 s51 (by omega) rfl ?_
            refine mx_J.step (sn_86 31) (fun _ _ => rfl) ?_
            refine Jlif_le (show mx_Sn _ _ 32 (mx_lif_le 38 36) from sn_86 32) (by omega) (by omega) (fun q8 => ?_) (fun q8 => ?_)
            · skip
              refine Jiinc (z := w1_5) (cz := 1) (ls2 := [some (.ref 50), some (xL x0), none, some (xL x1), none, some (xI (w1_5 + 1))]) (show mx_Sn _ _ 38 (mx_iinc 5 1 41) from sn_86 38) rfl rfl rfl rfl ?_
              refine mx_J.step (sn_86 41) (fun _ _ => rfl) ?_
              exact ih1 (w1_5 + 1) (by omega) (by omega) (by first | exact ab_nil (by omega) | exact ab_ext (by assumption) (by omega))
            · skip
              exact c36 
    exact c3 (Int.toNat (40 - 0) + 1) 0 (by omega) (by omega) (by first | exact ab_nil (by omega) | exact ab_ext (by assumption) (by omega))
theorem ct_86_50 {l : Launch} {D : va_G} {b0 : Nat} {ad : Nat → Nat} {Hb : Heap} {tau : Nat → Int64} {d n s : Nat} {S : Nat → xS} {Z : xZ} {h : mx_H} (hx : XH n s S Z h) (hG : GI n S Z) {x0 x1 : Int} (p0 : (-9223372036854775808) ≤ x0 ∧ x0 ≤ 9223372036854775807) (p1 : (-9223372036854775808) ≤ x1 ∧ x1 ≤ 9223372036854775807) : ∃ z : Int, mx_Ca (tB l D b0 ad Hb tau) (d + 1) 86 [.ref 50, xL x0, xL x1] h (some (xI z), h) ∧ (0 ≤ z ∧ z ≤ 1 ∧ (z = 1 → AB Z 51 (Z 50 2) x0 x1)) := by
  obtain ⟨r, hca, z, e, hp⟩ := Jmt (B := tB l D b0 ad Hb tau) (M := mt_86) (mi := 86) (as := [.ref 50, xL x0, xL x1]) (d := d + 0) (ls := [some (.ref 50), some (xL x0), none, some (xL x1), none, none]) rfl rfl rfl rfl rfl rfl (cw_86_50 (l := l) (D := D) (b0 := b0) (ad := ad) (Hb := Hb) (tau := tau) (d := d) (Post := fun r => ∃ z : Int, r = (some (xI z), h) ∧ (0 ≤ z ∧ z ≤ 1 ∧ (z = 1 → AB Z 51 (Z 50 2) x0 x1))) hx hG p0 p1 (fun z hz => ⟨z, rfl, hz⟩))
  subst e; exact ⟨z, hca, hp⟩
set_option maxRecDepth 100000 in
theorem cw_87_50 {l : Launch} {D : va_G} {b0 : Nat} {ad : Nat → Nat} {Hb : Heap} {tau : Nat → Int64} {d n s : Nat} {S : Nat → xS} {Z : xZ} {h : mx_H} {Post : mx_R → Prop} (hx : XH n s S Z h) (hG : GI n S Z) {x0 : Int} (p0 : (-9223372036854775808) ≤ x0 ∧ x0 ≤ 9223372036854775807) (hP : ∀ z : Int, 0 ≤ z ∧ z ≤ 1 → Post (some (xI z), h)) : mx_J (tB l D b0 ad Hb tau) mt_87 (d + 0) 0 [some (.ref 50), some (xL x0), none, none] [] h Post := by
    have a50 : 50 < n := lt83 hG.1 rfl
    have s50 : S 50 = .inl (10, [2, 0, 0, 0]) := hG.2.1 50 rfl
    have a51 : 51 < n := lt83 hG.1 rfl
    have s51 : S 51 = .inr (.long, 40, 1) := hG.2.1 51 rfl
    refine JcI (z := 0) (show mx_Sn _ _ 0 (mx_const (.int 0) 1) from sn_87 0) rfl ?_
    refine mx_J.step (ls2 := [some (.ref 50), some (xL x0), none, some (xI 0)]) (sn_87 1) (fun _ _ => rfl) ?_
    have c2 : ∀ (m1 : Nat) (w1_3 : Int), 40 - w1_3 < (m1 : Int) → 0 ≤ w1_3 ∧ w1_3 ≤ 40 → mx_J (tB l D b0 ad Hb tau) mt_87 (d + 0) 2 [some (.ref 50), some (xL x0), none, some (xI w1_3)] [] h Post := by
      intro m1
      induction m1 with
      | zero => intro w1_3 q1 f1_0; exact absurd q1 (by omega)
      | succ m1 ih1 =>
        intro w1_3 q1 f1_0
        refine mx_J.step (sn_87 2) (fun _ _ => rfl) ?_
        refine mx_J.step (sn_87 3) (fun _ _ => rfl) ?_
        have b2 : 0 ≤ Z 50 2 ∧ Z 50 2 ≤ 40 := hG.pr 50 2
        refine JgetI (g := 2) (z := Z 50 2) hx (show mx_Sn _ _ 4 (mx_getf 10 2 7) from sn_87 4) a50 s50 rfl rfl rfl ?_
        refine Jicmp_ge (show mx_Sn _ _ 7 (mx_icmp_ge 29 10) from sn_87 7) (by omega) (by omega) (fun q3 => ?_) (fun q3 => ?_)
        · skip
          refine JcI (z := 0) (show mx_Sn _ _ 29 (mx_const (.int 0) 30) from sn_87 29) rfl ?_
          exact mx_J.ret (show mx_Sn _ _ 30 (mx_zret) from sn_87 30) (fun _ _ => zr_ok (by omega)) (hP 0 (by omega))
        · skip
          refine mx_J.step (sn_87 10) (fun _ _ => rfl) ?_
          refine JgetR (g := 0) (b := 51) hx (show mx_Sn _ _ 11 (mx_getf 10 0 14) from sn_87 11) a50 s50 rfl rfl (hG.prr 50 0 rfl) ?_
          refine mx_J.step (sn_87 14) (fun _ _ => rfl) ?_
          have b4 : (-9223372036854775808) ≤ Z 51 w1_3 ∧ Z 51 w1_3 ≤ 9223372036854775807 := hG.pr 51 w1_3
          refine JlaldL (z := Z 51 w1_3) hx (show mx_Sn _ _ 15 (mx_lald 16) from sn_87 15) a51 s51 (by omega) rfl ?_
          refine mx_J.step (sn_87 16) (fun _ _ => rfl) ?_
          refine Jlif_ne (show mx_Sn _ _ 17 (mx_lif_ne 23 21) from sn_87 17) (by omega) (by omega) (fun q5 => ?_) (fun q5 => ?_)
          · skip
            refine Jiinc (z := w1_3) (cz := 1) (ls2 := [some (.ref 50), some (xL x0), none, some (xI (w1_3 + 1))]) (show mx_Sn _ _ 23 (mx_iinc 3 1 26) from sn_87 23) rfl rfl rfl rfl ?_
            refine mx_J.step (sn_87 26) (fun _ _ => rfl) ?_
            exact ih1 (w1_3 + 1) (by omega) (by omega)
          · skip
            refine JcI (z := 1) (show mx_Sn _ _ 21 (mx_const (.int 1) 22) from sn_87 21) rfl ?_
            exact mx_J.ret (show mx_Sn _ _ 22 (mx_zret) from sn_87 22) (fun _ _ => zr_ok (by omega)) (hP 1 (by omega))
    exact c2 (Int.toNat (40 - 0) + 1) 0 (by omega) (by omega)
theorem ct_87_50 {l : Launch} {D : va_G} {b0 : Nat} {ad : Nat → Nat} {Hb : Heap} {tau : Nat → Int64} {d n s : Nat} {S : Nat → xS} {Z : xZ} {h : mx_H} (hx : XH n s S Z h) (hG : GI n S Z) {x0 : Int} (p0 : (-9223372036854775808) ≤ x0 ∧ x0 ≤ 9223372036854775807) : ∃ z : Int, mx_Ca (tB l D b0 ad Hb tau) (d + 1) 87 [.ref 50, xL x0] h (some (xI z), h) ∧ (0 ≤ z ∧ z ≤ 1) := by
  obtain ⟨r, hca, z, e, hp⟩ := Jmt (B := tB l D b0 ad Hb tau) (M := mt_87) (mi := 87) (as := [.ref 50, xL x0]) (d := d + 0) (ls := [some (.ref 50), some (xL x0), none, none]) rfl rfl rfl rfl rfl rfl (cw_87_50 (l := l) (D := D) (b0 := b0) (ad := ad) (Hb := Hb) (tau := tau) (d := d) (Post := fun r => ∃ z : Int, r = (some (xI z), h) ∧ (0 ≤ z ∧ z ≤ 1)) hx hG p0 (fun z hz => ⟨z, rfl, hz⟩))
  subst e; exact ⟨z, hca, hp⟩
set_option maxRecDepth 100000 in
theorem cw_84_50 {l : Launch} {D : va_G} {b0 : Nat} {ad : Nat → Nat} {Hb : Heap} {tau : Nat → Int64} {d n s : Nat} {S : Nat → xS} {Z : xZ} {h : mx_H} {Post : mx_R → Prop} (hx : XH n s S Z h) (hG : GI n S Z) {x0 x1 : Int} (p0 : (-2147483648) ≤ x0 ∧ x0 ≤ 2147483647) (p1 : (-9223372036854775808) ≤ x1 ∧ x1 ≤ 9223372036854775807) (hP : ∀ (Z' : xZ) (h' : mx_H), XH n s S Z' h' → GI n S Z' → fr' [(51, (-1))] Z Z' → Post (none, h')) : mx_J (tB l D b0 ad Hb tau) mt_84 (d + 0) 0 [some (.ref 50), some (xI x0), some (xL x1), none] [] h Post := by
    have a50 : 50 < n := lt83 hG.1 rfl
    have s50 : S 50 = .inl (10, [2, 0, 0, 0]) := hG.2.1 50 rfl
    have a51 : 51 < n := lt83 hG.1 rfl
    have s51 : S 51 = .inr (.long, 40, 1) := hG.2.1 51 rfl
    refine mx_J.step (sn_84 0) (fun _ _ => rfl) ?_
    have c10 : mx_J (tB l D b0 ad Hb tau) mt_84 (d + 0) 10 [some (.ref 50), some (xI x0), some (xL x1), none] [] h Post := by
      exact mx_J.ret (sn_84 10) (fun _ _ => rfl) (hP Z h hx hG fr_rf)
    refine Jif_lt (show mx_Sn _ _ 1 (mx_if_lt 10 4) from sn_84 1) (by omega) (fun q2 => ?_) (fun q2 => ?_)
    · skip
      exact c10 
    · skip
      refine mx_J.step (sn_84 4) (fun _ _ => rfl) ?_
      refine JcI (z := 40) (show mx_Sn _ _ 5 (mx_const (.int 40) 7) from sn_84 5) rfl ?_
      refine Jicmp_lt (show mx_Sn _ _ 7 (mx_icmp_lt 11 10) from sn_84 7) (by omega) (by omega) (fun q3 => ?_) (fun q3 => ?_)
      · skip
        refine mx_J.step (sn_84 11) (fun _ _ => rfl) ?_
        have b4 : 0 ≤ Z 50 1 ∧ Z 50 1 ≤ 3 := hG.pr 50 1
        refine JgetI (g := 1) (z := Z 50 1) hx (show mx_Sn _ _ 12 (mx_getf 10 1 15) from sn_84 12) a50 s50 rfl rfl rfl ?_
        have c85 : ∀  (Z6 : xZ) (h6 : mx_H), XH n s S Z6 h6 → GI n S Z6 → fr' [(51, (-1))] Z Z6 → mx_J (tB l D b0 ad Hb tau) mt_84 (d + 0) 85 [some (.ref 50), some (xI x0), some (xL x1), none] [] h6 Post := by
          intro Z6 h6 hx6 hG6 hf6
          exact mx_J.ret (sn_84 85) (fun _ _ => rfl) (hP Z6 h6 hx6 hG6 (fr_tr (M := [(51, (-1))]) fr_rf (hf6) (M1 := []) rfl rfl))
        refine Jtsw (z := Z 50 1) (show mx_Sn _ _ 15 (mx_tsw 0 2 [40, 53, 66] 78) from sn_84 15) (by omega) (fun q7 => ?_) (fun q7 => ?_)
        · skip
          refine mx_J.step (sn_84 78) (fun _ _ => rfl) ?_
          refine JgetR (g := 0) (b := 51) hx (show mx_Sn _ _ 79 (mx_getf 10 0 82) from sn_84 79) a50 s50 rfl rfl (hG.prr 50 0 rfl) ?_
          refine mx_J.step (sn_84 82) (fun _ _ => rfl) ?_
          refine mx_J.step (sn_84 83) (fun _ _ => rfl) ?_
          refine JlastL hx (show mx_Sn _ _ 84 (mx_last 1 85) from sn_84 84) a51 s51 rfl (by omega) (fun Z8 h8 hx8 hE8 => ?_)
          have hG8 := GI_up hG hE8 (show (-9223372036854775808) ≤ x1 ∧ x1 ≤ 9223372036854775807 by omega) trivial rfl
          exact c85 Z8 h8 hx8 hG8 (fr_tr (M := [(51, (-1))]) fr_rf (fr_ua hE8) (M1 := []) rfl rfl)
        · skip
          have e7 : Z 50 1 = 0 ∨ Z 50 1 = 1 ∨ Z 50 1 = 2 := by omega
          rcases e7 with e7 | e7 | e7
          · refine ⟨40, by rw [e7]; rfl, ?_⟩
            refine mx_J.step (sn_84 40) (fun _ _ => rfl) ?_
            refine JgetR (g := 0) (b := 51) hx (show mx_Sn _ _ 41 (mx_getf 10 0 44) from sn_84 41) a50 s50 rfl rfl (hG.prr 50 0 rfl) ?_
            refine mx_J.step (sn_84 44) (fun _ _ => rfl) ?_
            refine mx_J.step (sn_84 45) (fun _ _ => rfl) ?_
            refine Jl2i (show mx_Sn _ _ 46 (mx_l2i 47) from sn_84 46) (Jnorm fun y9 hy9 hq9 => ?_)
            refine Ji2bX (show mx_Sn _ _ 47 (mx_i2b 48) from sn_84 47) (fun y10 hy10 => ?_)
            refine Ji2l (show mx_Sn _ _ 48 (mx_i2l 49) from sn_84 48) (by omega) ?_
            refine JlastL hx (show mx_Sn _ _ 49 (mx_last 1 50) from sn_84 49) a51 s51 rfl (by omega) (fun Z11 h11 hx11 hE11 => ?_)
            have hG11 := GI_up hG hE11 (show (-9223372036854775808) ≤ y10 ∧ y10 ≤ 9223372036854775807 by omega) trivial rfl
            refine mx_J.step (sn_84 50) (fun _ _ => rfl) ?_
            exact c85 Z11 h11 hx11 hG11 (fr_tr (M := [(51, (-1))]) fr_rf (fr_ua hE11) (M1 := []) rfl rfl)
          · refine ⟨53, by rw [e7]; rfl, ?_⟩
            refine mx_J.step (sn_84 53) (fun _ _ => rfl) ?_
            refine JgetR (g := 0) (b := 51) hx (show mx_Sn _ _ 54 (mx_getf 10 0 57) from sn_84 54) a50 s50 rfl rfl (hG.prr 50 0 rfl) ?_
            refine mx_J.step (sn_84 57) (fun _ _ => rfl) ?_
            refine mx_J.step (sn_84 58) (fun _ _ => rfl) ?_
            refine Jl2i (show mx_Sn _ _ 59 (mx_l2i 60) from sn_84 59) (Jnorm fun y12 hy12 hq12 => ?_)
            refine Ji2sX (show mx_Sn _ _ 60 (mx_i2s 61) from sn_84 60) (fun y13 hy13 => ?_)
            refine Ji2l (show mx_Sn _ _ 61 (mx_i2l 62) from sn_84 61) (by omega) ?_
            refine JlastL hx (show mx_Sn _ _ 62 (mx_last 1 63) from sn_84 62) a51 s51 rfl (by omega) (fun Z14 h14 hx14 hE14 => ?_)
            have hG14 := GI_up hG hE14 (show (-9223372036854775808) ≤ y13 ∧ y13 ≤ 9223372036854775807 by omega) trivial rfl
            refine mx_J.step (sn_84 63) (fun _ _ => rfl) ?_
            exact c85 Z14 h14 hx14 hG14 (fr_tr (M := [(51, (-1))]) fr_rf (fr_ua hE14) (M1 := []) rfl rfl)
          · refine ⟨66, by rw [e7]; rfl, ?_⟩
            refine mx_J.step (sn_84 66) (fun _ _ => rfl) ?_
            refine JgetR (g := 0) (b := 51) hx (show mx_Sn _ _ 67 (mx_getf 10 0 70) from sn_84 67) a50 s50 rfl rfl (hG.prr 50 0 rfl) ?_
            refine mx_J.step (sn_84 70) (fun _ _ => rfl) ?_
            refine mx_J.step (sn_84 71) (fun _ _ => rfl) ?_
            refine Jl2i (show mx_Sn _ _ 72 (mx_l2i 73) from sn_84 72) (Jnorm fun y15 hy15 hq15 => ?_)
            refine Ji2l (show mx_Sn _ _ 73 (mx_i2l 74) from sn_84 73) (by omega) ?_
            refine JlastL hx (show mx_Sn _ _ 74 (mx_last 1 75) from sn_84 74) a51 s51 rfl (by omega) (fun Z16 h16 hx16 hE16 => ?_)
            have hG16 := GI_up hG hE16 (show (-9223372036854775808) ≤ y15 ∧ y15 ≤ 9223372036854775807 by omega) trivial rfl
            refine mx_J.step (sn_84 75) (fun _ _ => rfl) ?_
            exact c85 Z16 h16 hx16 hG16 (fr_tr (M := [(51, (-1))]) fr_rf (fr_ua hE16) (M1 := []) rfl rfl)
      · skip
        exact c10 
theorem ct_84_50 {l : Launch} {D : va_G} {b0 : Nat} {ad : Nat → Nat} {Hb : Heap} {tau : Nat → Int64} {d n s : Nat} {S : Nat → xS} {Z : xZ} {h : mx_H} (hx : XH n s S Z h) (hG : GI n S Z) {x0 x1 : Int} (p0 : (-2147483648) ≤ x0 ∧ x0 ≤ 2147483647) (p1 : (-9223372036854775808) ≤ x1 ∧ x1 ≤ 9223372036854775807) : ∃ (Z' : xZ) (h' : mx_H), mx_Ca (tB l D b0 ad Hb tau) (d + 1) 84 [.ref 50, xI x0, xL x1] h (none, h') ∧ XH n s S Z' h' ∧ GI n S Z' ∧ fr' [(51, (-1))] Z Z' := by
  obtain ⟨r, hca, Z', h', e, q⟩ := Jmt (B := tB l D b0 ad Hb tau) (M := mt_84) (mi := 84) (as := [.ref 50, xI x0, xL x1]) (d := d + 0) (ls := [some (.ref 50), some (xI x0), some (xL x1), none]) rfl rfl rfl rfl rfl rfl (cw_84_50 (l := l) (D := D) (b0 := b0) (ad := ad) (Hb := Hb) (tau := tau) (d := d) (Post := fun r => ∃ (Z' : xZ) (h' : mx_H), r = (none, h') ∧ XH n s S Z' h' ∧ GI n S Z' ∧ fr' [(51, (-1))] Z Z') hx hG p0 p1 (fun Z' h' q1 q2 q3 => ⟨Z', h', rfl, q1, q2, q3⟩))
  subst e; exact ⟨Z', h', hca, q⟩
set_option maxRecDepth 100000 in
theorem cw_285_51 {l : Launch} {D : va_G} {b0 : Nat} {ad : Nat → Nat} {Hb : Heap} {tau : Nat → Int64} {d n s : Nat} {S : Nat → xS} {Z : xZ} {h : mx_H} {Post : mx_R → Prop} (hx : XH n s S Z h) (hG : GI n S Z) {x0 : Int} (p0 : (-9223372036854775808) ≤ x0 ∧ x0 ≤ 9223372036854775807) (hP : ∀ (Z' : xZ) (h' : mx_H), XH n s S Z' h' → GI n S Z' → fr' [(51, (-1))] Z Z' → Post (none, h')) : mx_J (tB l D b0 ad Hb tau) mt_285 (d + 0) 0 [some (.ref 51), some (xL x0), none, none, none] [] h Post := by
    have a51 : 51 < n := lt83 hG.1 rfl
    have s51 : S 51 = .inr (.long, 40, 1) := hG.2.1 51 rfl
    refine JcI (z := 0) (show mx_Sn _ _ 0 (mx_const (.int 0) 1) from sn_285 0) rfl ?_
    refine mx_J.step (ls2 := [some (.ref 51), some (xL x0), none, some (xI 0), none]) (sn_285 1) (fun _ _ => rfl) ?_
    refine mx_J.step (sn_285 2) (fun _ _ => rfl) ?_
    refine JalenI (z := 40) hx (show mx_Sn _ _ 3 (mx_alen 4) from sn_285 3) a51 s51 (by decide) rfl ?_
    refine mx_J.step (ls2 := [some (.ref 51), some (xL x0), none, some (xI 0), some (xI 40)]) (sn_285 4) (fun _ _ => rfl) ?_
    have c6 : ∀ (m1 : Nat) (w1_3 : Int) (Z2 : xZ) (h2 : mx_H), 40 - w1_3 < (m1 : Int) → 0 ≤ w1_3 ∧ w1_3 ≤ 40 → XH n s S Z2 h2 → GI n S Z2 → fr' [(51, (-1))] Z Z2 → mx_J (tB l D b0 ad Hb tau) mt_285 (d + 0) 6 [some (.ref 51), some (xL x0), none, some (xI w1_3), some (xI 40)] [] h2 Post := by
      intro m1
      induction m1 with
      | zero => intro w1_3 Z2 h2 q1 f1_0 hx2 hG2 hf2; exact absurd q1 (by omega)
      | succ m1 ih1 =>
        intro w1_3 Z2 h2 q1 f1_0 hx2 hG2 hf2
        refine mx_J.step (sn_285 6) (fun _ _ => rfl) ?_
        refine mx_J.step (sn_285 7) (fun _ _ => rfl) ?_
        refine Jicmp_ge (show mx_Sn _ _ 9 (mx_icmp_ge 22 12) from sn_285 9) (by omega) (by omega) (fun q3 => ?_) (fun q3 => ?_)
        · skip
          exact mx_J.ret (sn_285 22) (fun _ _ => rfl) (hP Z2 h2 hx2 hG2 (fr_tr (M := [(51, (-1))]) fr_rf (hf2) (M1 := []) rfl rfl))
        · skip
          refine mx_J.step (sn_285 12) (fun _ _ => rfl) ?_
          refine mx_J.step (sn_285 13) (fun _ _ => rfl) ?_
          refine mx_J.step (sn_285 14) (fun _ _ => rfl) ?_
          refine JlastL hx2 (show mx_Sn _ _ 15 (mx_last 1 16) from sn_285 15) a51 s51 rfl (by omega) (fun Z4 h4 hx4 hE4 => ?_)
          have hG4 := GI_up hG2 hE4 (show (-9223372036854775808) ≤ x0 ∧ x0 ≤ 9223372036854775807 by omega) trivial rfl
          refine Jiinc (z := w1_3) (cz := 1) (ls2 := [some (.ref 51), some (xL x0), none, some (xI (w1_3 + 1)), some (xI 40)]) (show mx_Sn _ _ 16 (mx_iinc 3 1 19) from sn_285 16) rfl rfl rfl rfl ?_
          refine mx_J.step (sn_285 19) (fun _ _ => rfl) ?_
          exact ih1 (w1_3 + 1) Z4 h4 (by omega) (by omega) hx4 hG4 (fr_tr (M := [(51, (-1))]) (fr_tr (M := [(51, (-1))]) fr_rf (hf2) (M1 := []) rfl rfl) (fr_ua hE4) rfl rfl)
    exact c6 (Int.toNat (40 - 0) + 1) 0 Z h (by omega) (by omega) hx hG fr_rf
theorem ct_285_51 {l : Launch} {D : va_G} {b0 : Nat} {ad : Nat → Nat} {Hb : Heap} {tau : Nat → Int64} {d n s : Nat} {S : Nat → xS} {Z : xZ} {h : mx_H} (hx : XH n s S Z h) (hG : GI n S Z) {x0 : Int} (p0 : (-9223372036854775808) ≤ x0 ∧ x0 ≤ 9223372036854775807) : ∃ (Z' : xZ) (h' : mx_H), mx_Ca (tB l D b0 ad Hb tau) (d + 1) 285 [.ref 51, xL x0] h (none, h') ∧ XH n s S Z' h' ∧ GI n S Z' ∧ fr' [(51, (-1))] Z Z' := by
  obtain ⟨r, hca, Z', h', e, q⟩ := Jmt (B := tB l D b0 ad Hb tau) (M := mt_285) (mi := 285) (as := [.ref 51, xL x0]) (d := d + 0) (ls := [some (.ref 51), some (xL x0), none, none, none]) rfl rfl rfl rfl rfl rfl (cw_285_51 (l := l) (D := D) (b0 := b0) (ad := ad) (Hb := Hb) (tau := tau) (d := d) (Post := fun r => ∃ (Z' : xZ) (h' : mx_H), r = (none, h') ∧ XH n s S Z' h' ∧ GI n S Z' ∧ fr' [(51, (-1))] Z Z') hx hG p0 (fun Z' h' q1 q2 q3 => ⟨Z', h', rfl, q1, q2, q3⟩))
  subst e; exact ⟨Z', h', hca, q⟩
set_option maxRecDepth 100000 in
theorem cw_83_50 {l : Launch} {D : va_G} {b0 : Nat} {ad : Nat → Nat} {Hb : Heap} {tau : Nat → Int64} {d n s : Nat} {S : Nat → xS} {Z : xZ} {h : mx_H} {Post : mx_R → Prop} (hx : XH n s S Z h) (hG : GI n S Z) {x0 x1 : Int} (p0 : 0 ≤ x0 ∧ x0 ≤ 3) (p1 : 0 ≤ x1 ∧ x1 ≤ 40) (hP : ∀ (Z' : xZ) (h' : mx_H), XH n s S Z' h' → GI n S Z' → fr' [(50, 1), (50, 2), (50, 3), (51, (-1))] Z Z' → Post (none, h')) : mx_J (tB l D b0 ad Hb tau) mt_83 (d + 1) 0 [some (.ref 50), some (xI x0), some (xI x1)] [] h Post := by
    have a50 : 50 < n := lt83 hG.1 rfl
    have s50 : S 50 = .inl (10, [2, 0, 0, 0]) := hG.2.1 50 rfl
    refine mx_J.step (sn_83 0) (fun _ _ => rfl) ?_
    refine mx_J.step (sn_83 1) (fun _ _ => rfl) ?_
    refine JputI (g := 1) hx (show mx_Sn _ _ 2 (mx_putf 1 10 1 (.int) 5) from sn_83 2) a50 s50 rfl rfl rfl rfl (fun Z1 h1 hx1 hE1 => ?_)
    have hG1 := GI_up hG hE1 (show 0 ≤ x0 ∧ x0 ≤ 3 by omega) trivial rfl
    refine mx_J.step (sn_83 5) (fun _ _ => rfl) ?_
    refine mx_J.step (sn_83 6) (fun _ _ => rfl) ?_
    refine JputI (g := 2) hx1 (show mx_Sn _ _ 7 (mx_putf 1 10 2 (.int) 10) from sn_83 7) a50 s50 rfl rfl rfl rfl (fun Z2 h2 hx2 hE2 => ?_)
    have hG2 := GI_up hG1 hE2 (show 0 ≤ x1 ∧ x1 ≤ 40 by omega) trivial rfl
    refine mx_J.step (sn_83 10) (fun _ _ => rfl) ?_
    refine JcI (z := 0) (show mx_Sn _ _ 11 (mx_const (.int 0) 12) from sn_83 11) rfl ?_
    refine JputI (g := 3) hx2 (show mx_Sn _ _ 12 (mx_putf 1 10 3 (.boolean) 15) from sn_83 12) a50 s50 rfl rfl (fit_z (by omega)) rfl (fun Z3 h3 hx3 hE3 => ?_)
    have hG3 := GI_up hG2 hE3 (show 0 ≤ 0 ∧ 0 ≤ 1 by omega) trivial rfl
    refine mx_J.step (sn_83 15) (fun _ _ => rfl) ?_
    refine JgetR (g := 0) (b := 51) hx3 (show mx_Sn _ _ 16 (mx_getf 10 0 19) from sn_83 16) a50 s50 rfl rfl (hG3.prr 50 0 rfl) ?_
    refine JcL (z := 0) (show mx_Sn _ _ 19 (mx_const (.long 0) 20) from sn_83 19) rfl ?_
    obtain ⟨Z4, h4, hc4, hx4, hG4, hf4⟩ := ct_285_51 (d := d + 0) (l := l) (D := D) (b0 := b0) (ad := ad) (Hb := Hb) (tau := tau) hx3 hG3 (show (-9223372036854775808) ≤ 0 ∧ 0 ≤ 9223372036854775807 by omega)
    refine Jcs0 (show mx_Sn _ _ 20 (mx_calls 285 2 23) from sn_83 20) hc4 rfl rfl rfl ?_
    exact mx_J.ret (sn_83 23) (fun _ _ => rfl) (hP Z4 h4 hx4 hG4 (fr_tr (M := [(50, 1), (50, 2), (50, 3), (51, (-1))]) (fr_tr (M := [(50, 1), (50, 2), (50, 3), (51, (-1))]) (fr_tr (M := [(50, 1), (50, 2), (50, 3), (51, (-1))]) (fr_tr (M := [(50, 1), (50, 2), (50, 3), (51, (-1))]) fr_rf (fr_up hE1) (M1 := []) rfl rfl) (fr_up hE2) rfl rfl) (fr_up hE3) rfl rfl) (hf4) rfl rfl))
theorem ct_83_50 {l : Launch} {D : va_G} {b0 : Nat} {ad : Nat → Nat} {Hb : Heap} {tau : Nat → Int64} {d n s : Nat} {S : Nat → xS} {Z : xZ} {h : mx_H} (hx : XH n s S Z h) (hG : GI n S Z) {x0 x1 : Int} (p0 : 0 ≤ x0 ∧ x0 ≤ 3) (p1 : 0 ≤ x1 ∧ x1 ≤ 40) : ∃ (Z' : xZ) (h' : mx_H), mx_Ca (tB l D b0 ad Hb tau) (d + 2) 83 [.ref 50, xI x0, xI x1] h (none, h') ∧ XH n s S Z' h' ∧ GI n S Z' ∧ fr' [(50, 1), (50, 2), (50, 3), (51, (-1))] Z Z' := by
  obtain ⟨r, hca, Z', h', e, q⟩ := Jmt (B := tB l D b0 ad Hb tau) (M := mt_83) (mi := 83) (as := [.ref 50, xI x0, xI x1]) (d := d + 1) (ls := [some (.ref 50), some (xI x0), some (xI x1)]) rfl rfl rfl rfl rfl rfl (cw_83_50 (l := l) (D := D) (b0 := b0) (ad := ad) (Hb := Hb) (tau := tau) (d := d) (Post := fun r => ∃ (Z' : xZ) (h' : mx_H), r = (none, h') ∧ XH n s S Z' h' ∧ GI n S Z' ∧ fr' [(50, 1), (50, 2), (50, 3), (51, (-1))] Z Z') hx hG p0 p1 (fun Z' h' q1 q2 q3 => ⟨Z', h', rfl, q1, q2, q3⟩))
  subst e; exact ⟨Z', h', hca, q⟩
set_option maxRecDepth 100000 in
theorem cw_284_6_i0 {l : Launch} {D : va_G} {b0 : Nat} {ad : Nat → Nat} {Hb : Heap} {tau : Nat → Int64} {d n s : Nat} {S : Nat → xS} {Z : xZ} {h : mx_H} {Post : mx_R → Prop} (hx : XH n s S Z h) (hG : GI n S Z)  (hP : ∀ (Z' : xZ) (h' : mx_H), XH n s S Z' h' → GI n S Z' → fr' [(6, (-1))] Z Z' → AB Z' 6 19 0 0 → Post (none, h')) : mx_J (tB l D b0 ad Hb tau) mt_284 (d + 0) 0 [some (.ref 6), some (xI 0), none, none] [] h Post := by
    have a6 : 6 < n := lt83 hG.1 rfl
    have s6 : S 6 = .inr (.int, 19, 0) := hG.2.1 6 rfl
    refine JcI (z := 0) (show mx_Sn _ _ 0 (mx_const (.int 0) 1) from sn_284 0) rfl ?_
    refine mx_J.step (ls2 := [some (.ref 6), some (xI 0), some (xI 0), none]) (sn_284 1) (fun _ _ => rfl) ?_
    refine mx_J.step (sn_284 2) (fun _ _ => rfl) ?_
    refine JalenI (z := 19) hx (show mx_Sn _ _ 3 (mx_alen 4) from sn_284 3) a6 s6 (by decide) rfl ?_
    refine mx_J.step (ls2 := [some (.ref 6), some (xI 0), some (xI 0), some (xI 19)]) (sn_284 4) (fun _ _ => rfl) ?_
    have c5 : ∀ (m1 : Nat) (w1_2 : Int) (Z2 : xZ) (h2 : mx_H), 19 - w1_2 < (m1 : Int) → 0 ≤ w1_2 ∧ w1_2 ≤ 19 → AB Z2 6 (w1_2) (0) (0) → XH n s S Z2 h2 → GI n S Z2 → fr' [(6, (-1))] Z Z2 → mx_J (tB l D b0 ad Hb tau) mt_284 (d + 0) 5 [some (.ref 6), some (xI 0), some (xI w1_2), some (xI 19)] [] h2 Post := by
      intro m1
      induction m1 with
      | zero => intro w1_2 Z2 h2 q1 f1_0 f1_1 hx2 hG2 hf2; exact absurd q1 (by omega)
      | succ m1 ih1 =>
        intro w1_2 Z2 h2 q1 f1_0 f1_1 hx2 hG2 hf2
        refine mx_J.step (sn_284 5) (fun _ _ => rfl) ?_
        refine mx_J.step (sn_284 6) (fun _ _ => rfl) ?_
        refine Jicmp_ge (show mx_Sn _ _ 7 (mx_icmp_ge 20 10) from sn_284 7) (by omega) (by omega) (fun q3 => ?_) (fun q3 => ?_)
        · skip
          exact mx_J.ret (sn_284 20) (fun _ _ => rfl) (hP Z2 h2 hx2 hG2 (fr_tr (M := [(6, (-1))]) fr_rf (hf2) (M1 := []) rfl rfl) (ab_mono f1_1 (by omega) (by omega) (by omega)))
        · skip
          refine mx_J.step (sn_284 10) (fun _ _ => rfl) ?_
          refine mx_J.step (sn_284 11) (fun _ _ => rfl) ?_
          refine mx_J.step (sn_284 12) (fun _ _ => rfl) ?_
          refine JiastI hx2 (show mx_Sn _ _ 13 (mx_iast 1 14) from sn_284 13) a6 s6 rfl (by omega) (fun Z4 h4 hx4 hE4 => ?_)
          have hG4 := GI_up hG2 hE4 (show (-2147483648) ≤ 0 ∧ 0 ≤ 2147483647 by omega) trivial rfl
          have m4 := fill_up hE4 f1_1 (by omega)
          refine Jiinc (z := w1_2) (cz := 1) (ls2 := [some (.ref 6), some (xI 0), some (xI (w1_2 + 1)), some (xI 19)]) (show mx_Sn _ _ 14 (mx_iinc 2 1 17) from sn_284 14) rfl rfl rfl rfl ?_
          refine mx_J.step (sn_284 17) (fun _ _ => rfl) ?_
          exact ih1 (w1_2 + 1) Z4 h4 (by omega) (by omega) (ab_mono m4 (by omega) (by omega) (by omega)) hx4 hG4 (fr_tr (M := [(6, (-1))]) (fr_tr (M := [(6, (-1))]) fr_rf (hf2) (M1 := []) rfl rfl) (fr_ua hE4) rfl rfl)
    exact c5 (Int.toNat (19 - 0) + 1) 0 Z h (by omega) (by omega) (ab_nil (by omega)) hx hG fr_rf
theorem ct_284_6_i0 {l : Launch} {D : va_G} {b0 : Nat} {ad : Nat → Nat} {Hb : Heap} {tau : Nat → Int64} {d n s : Nat} {S : Nat → xS} {Z : xZ} {h : mx_H} (hx : XH n s S Z h) (hG : GI n S Z)  : ∃ (Z' : xZ) (h' : mx_H), mx_Ca (tB l D b0 ad Hb tau) (d + 1) 284 [.ref 6, xI 0] h (none, h') ∧ XH n s S Z' h' ∧ GI n S Z' ∧ fr' [(6, (-1))] Z Z' ∧ (AB Z' 6 19 0 0) := by
  obtain ⟨r, hca, Z', h', e, q⟩ := Jmt (B := tB l D b0 ad Hb tau) (M := mt_284) (mi := 284) (as := [.ref 6, xI 0]) (d := d + 0) (ls := [some (.ref 6), some (xI 0), none, none]) rfl rfl rfl rfl rfl rfl (cw_284_6_i0 (l := l) (D := D) (b0 := b0) (ad := ad) (Hb := Hb) (tau := tau) (d := d) (Post := fun r => ∃ (Z' : xZ) (h' : mx_H), r = (none, h') ∧ XH n s S Z' h' ∧ GI n S Z' ∧ fr' [(6, (-1))] Z Z' ∧ (AB Z' 6 19 0 0)) hx hG  (fun Z' h' q1 q2 q3 q5_6 => ⟨Z', h', rfl, q1, q2, q3, q5_6⟩))
  subst e; exact ⟨Z', h', hca, q⟩
set_option maxRecDepth 100000 in
theorem cw_284_19_i0 {l : Launch} {D : va_G} {b0 : Nat} {ad : Nat → Nat} {Hb : Heap} {tau : Nat → Int64} {d n s : Nat} {S : Nat → xS} {Z : xZ} {h : mx_H} {Post : mx_R → Prop} (hx : XH n s S Z h) (hG : GI n S Z)  (hP : ∀ (Z' : xZ) (h' : mx_H), XH n s S Z' h' → GI n S Z' → fr' [(19, (-1))] Z Z' → AB Z' 19 19 0 0 → Post (none, h')) : mx_J (tB l D b0 ad Hb tau) mt_284 (d + 0) 0 [some (.ref 19), some (xI 0), none, none] [] h Post := by
    have a19 : 19 < n := lt83 hG.1 rfl
    have s19 : S 19 = .inr (.int, 19, 0) := hG.2.1 19 rfl
    refine JcI (z := 0) (show mx_Sn _ _ 0 (mx_const (.int 0) 1) from sn_284 0) rfl ?_
    refine mx_J.step (ls2 := [some (.ref 19), some (xI 0), some (xI 0), none]) (sn_284 1) (fun _ _ => rfl) ?_
    refine mx_J.step (sn_284 2) (fun _ _ => rfl) ?_
    refine JalenI (z := 19) hx (show mx_Sn _ _ 3 (mx_alen 4) from sn_284 3) a19 s19 (by decide) rfl ?_
    refine mx_J.step (ls2 := [some (.ref 19), some (xI 0), some (xI 0), some (xI 19)]) (sn_284 4) (fun _ _ => rfl) ?_
    have c5 : ∀ (m1 : Nat) (w1_2 : Int) (Z2 : xZ) (h2 : mx_H), 19 - w1_2 < (m1 : Int) → 0 ≤ w1_2 ∧ w1_2 ≤ 19 → AB Z2 19 (w1_2) (0) (0) → XH n s S Z2 h2 → GI n S Z2 → fr' [(19, (-1))] Z Z2 → mx_J (tB l D b0 ad Hb tau) mt_284 (d + 0) 5 [some (.ref 19), some (xI 0), some (xI w1_2), some (xI 19)] [] h2 Post := by
      intro m1
      induction m1 with
      | zero => intro w1_2 Z2 h2 q1 f1_0 f1_1 hx2 hG2 hf2; exact absurd q1 (by omega)
      | succ m1 ih1 =>
        intro w1_2 Z2 h2 q1 f1_0 f1_1 hx2 hG2 hf2
        refine mx_J.step (sn_284 5) (fun _ _ => rfl) ?_
        refine mx_J.step (sn_284 6) (fun _ _ => rfl) ?_
        refine Jicmp_ge (show mx_Sn _ _ 7 (mx_icmp_ge 20 10) from sn_284 7) (by omega) (by omega) (fun q3 => ?_) (fun q3 => ?_)
        · skip
          exact mx_J.ret (sn_284 20) (fun _ _ => rfl) (hP Z2 h2 hx2 hG2 (fr_tr (M := [(19, (-1))]) fr_rf (hf2) (M1 := []) rfl rfl) (ab_mono f1_1 (by omega) (by omega) (by omega)))
        · skip
          refine mx_J.step (sn_284 10) (fun _ _ => rfl) ?_
          refine mx_J.step (sn_284 11) (fun _ _ => rfl) ?_
          refine mx_J.step (sn_284 12) (fun _ _ => rfl) ?_
          refine JiastI hx2 (show mx_Sn _ _ 13 (mx_iast 1 14) from sn_284 13) a19 s19 rfl (by omega) (fun Z4 h4 hx4 hE4 => ?_)
          have hG4 := GI_up hG2 hE4 (show (-2147483648) ≤ 0 ∧ 0 ≤ 2147483647 by omega) trivial rfl
          have m4 := fill_up hE4 f1_1 (by omega)
          refine Jiinc (z := w1_2) (cz := 1) (ls2 := [some (.ref 19), some (xI 0), some (xI (w1_2 + 1)), some (xI 19)]) (show mx_Sn _ _ 14 (mx_iinc 2 1 17) from sn_284 14) rfl rfl rfl rfl ?_
          refine mx_J.step (sn_284 17) (fun _ _ => rfl) ?_
          exact ih1 (w1_2 + 1) Z4 h4 (by omega) (by omega) (ab_mono m4 (by omega) (by omega) (by omega)) hx4 hG4 (fr_tr (M := [(19, (-1))]) (fr_tr (M := [(19, (-1))]) fr_rf (hf2) (M1 := []) rfl rfl) (fr_ua hE4) rfl rfl)
    exact c5 (Int.toNat (19 - 0) + 1) 0 Z h (by omega) (by omega) (ab_nil (by omega)) hx hG fr_rf
theorem ct_284_19_i0 {l : Launch} {D : va_G} {b0 : Nat} {ad : Nat → Nat} {Hb : Heap} {tau : Nat → Int64} {d n s : Nat} {S : Nat → xS} {Z : xZ} {h : mx_H} (hx : XH n s S Z h) (hG : GI n S Z)  : ∃ (Z' : xZ) (h' : mx_H), mx_Ca (tB l D b0 ad Hb tau) (d + 1) 284 [.ref 19, xI 0] h (none, h') ∧ XH n s S Z' h' ∧ GI n S Z' ∧ fr' [(19, (-1))] Z Z' ∧ (AB Z' 19 19 0 0) := by
  obtain ⟨r, hca, Z', h', e, q⟩ := Jmt (B := tB l D b0 ad Hb tau) (M := mt_284) (mi := 284) (as := [.ref 19, xI 0]) (d := d + 0) (ls := [some (.ref 19), some (xI 0), none, none]) rfl rfl rfl rfl rfl rfl (cw_284_19_i0 (l := l) (D := D) (b0 := b0) (ad := ad) (Hb := Hb) (tau := tau) (d := d) (Post := fun r => ∃ (Z' : xZ) (h' : mx_H), r = (none, h') ∧ XH n s S Z' h' ∧ GI n S Z' ∧ fr' [(19, (-1))] Z Z' ∧ (AB Z' 19 19 0 0)) hx hG  (fun Z' h' q1 q2 q3 q5_19 => ⟨Z', h', rfl, q1, q2, q3, q5_19⟩))
  subst e; exact ⟨Z', h', hca, q⟩
set_option maxRecDepth 100000 in
theorem cw_284_42_i0 {l : Launch} {D : va_G} {b0 : Nat} {ad : Nat → Nat} {Hb : Heap} {tau : Nat → Int64} {d n s : Nat} {S : Nat → xS} {Z : xZ} {h : mx_H} {Post : mx_R → Prop} (hx : XH n s S Z h) (hG : GI n S Z)  (hP : ∀ (Z' : xZ) (h' : mx_H), XH n s S Z' h' → GI n S Z' → fr' [(42, (-1))] Z Z' → AB Z' 42 19 0 0 → Post (none, h')) : mx_J (tB l D b0 ad Hb tau) mt_284 (d + 0) 0 [some (.ref 42), some (xI 0), none, none] [] h Post := by
    have a42 : 42 < n := lt83 hG.1 rfl
    have s42 : S 42 = .inr (.int, 19, 0) := hG.2.1 42 rfl
    refine JcI (z := 0) (show mx_Sn _ _ 0 (mx_const (.int 0) 1) from sn_284 0) rfl ?_
    refine mx_J.step (ls2 := [some (.ref 42), some (xI 0), some (xI 0), none]) (sn_284 1) (fun _ _ => rfl) ?_
    refine mx_J.step (sn_284 2) (fun _ _ => rfl) ?_
    refine JalenI (z := 19) hx (show mx_Sn _ _ 3 (mx_alen 4) from sn_284 3) a42 s42 (by decide) rfl ?_
    refine mx_J.step (ls2 := [some (.ref 42), some (xI 0), some (xI 0), some (xI 19)]) (sn_284 4) (fun _ _ => rfl) ?_
    have c5 : ∀ (m1 : Nat) (w1_2 : Int) (Z2 : xZ) (h2 : mx_H), 19 - w1_2 < (m1 : Int) → 0 ≤ w1_2 ∧ w1_2 ≤ 19 → AB Z2 42 (w1_2) (0) (0) → XH n s S Z2 h2 → GI n S Z2 → fr' [(42, (-1))] Z Z2 → mx_J (tB l D b0 ad Hb tau) mt_284 (d + 0) 5 [some (.ref 42), some (xI 0), some (xI w1_2), some (xI 19)] [] h2 Post := by
      intro m1
      induction m1 with
      | zero => intro w1_2 Z2 h2 q1 f1_0 f1_1 hx2 hG2 hf2; exact absurd q1 (by omega)
      | succ m1 ih1 =>
        intro w1_2 Z2 h2 q1 f1_0 f1_1 hx2 hG2 hf2
        refine mx_J.step (sn_284 5) (fun _ _ => rfl) ?_
        refine mx_J.step (sn_284 6) (fun _ _ => rfl) ?_
        refine Jicmp_ge (show mx_Sn _ _ 7 (mx_icmp_ge 20 10) from sn_284 7) (by omega) (by omega) (fun q3 => ?_) (fun q3 => ?_)
        · skip
          exact mx_J.ret (sn_284 20) (fun _ _ => rfl) (hP Z2 h2 hx2 hG2 (fr_tr (M := [(42, (-1))]) fr_rf (hf2) (M1 := []) rfl rfl) (ab_mono f1_1 (by omega) (by omega) (by omega)))
        · skip
          refine mx_J.step (sn_284 10) (fun _ _ => rfl) ?_
          refine mx_J.step (sn_284 11) (fun _ _ => rfl) ?_
          refine mx_J.step (sn_284 12) (fun _ _ => rfl) ?_
          refine JiastI hx2 (show mx_Sn _ _ 13 (mx_iast 1 14) from sn_284 13) a42 s42 rfl (by omega) (fun Z4 h4 hx4 hE4 => ?_)
          have hG4 := GI_up hG2 hE4 (show (-2147483648) ≤ 0 ∧ 0 ≤ 2147483647 by omega) trivial rfl
          have m4 := fill_up hE4 f1_1 (by omega)
          refine Jiinc (z := w1_2) (cz := 1) (ls2 := [some (.ref 42), some (xI 0), some (xI (w1_2 + 1)), some (xI 19)]) (show mx_Sn _ _ 14 (mx_iinc 2 1 17) from sn_284 14) rfl rfl rfl rfl ?_
          refine mx_J.step (sn_284 17) (fun _ _ => rfl) ?_
          exact ih1 (w1_2 + 1) Z4 h4 (by omega) (by omega) (ab_mono m4 (by omega) (by omega) (by omega)) hx4 hG4 (fr_tr (M := [(42, (-1))]) (fr_tr (M := [(42, (-1))]) fr_rf (hf2) (M1 := []) rfl rfl) (fr_ua hE4) rfl rfl)
    exact c5 (Int.toNat (19 - 0) + 1) 0 Z h (by omega) (by omega) (ab_nil (by omega)) hx hG fr_rf
theorem ct_284_42_i0 {l : Launch} {D : va_G} {b0 : Nat} {ad : Nat → Nat} {Hb : Heap} {tau : Nat → Int64} {d n s : Nat} {S : Nat → xS} {Z : xZ} {h : mx_H} (hx : XH n s S Z h) (hG : GI n S Z)  : ∃ (Z' : xZ) (h' : mx_H), mx_Ca (tB l D b0 ad Hb tau) (d + 1) 284 [.ref 42, xI 0] h (none, h') ∧ XH n s S Z' h' ∧ GI n S Z' ∧ fr' [(42, (-1))] Z Z' ∧ (AB Z' 42 19 0 0) := by
  obtain ⟨r, hca, Z', h', e, q⟩ := Jmt (B := tB l D b0 ad Hb tau) (M := mt_284) (mi := 284) (as := [.ref 42, xI 0]) (d := d + 0) (ls := [some (.ref 42), some (xI 0), none, none]) rfl rfl rfl rfl rfl rfl (cw_284_42_i0 (l := l) (D := D) (b0 := b0) (ad := ad) (Hb := Hb) (tau := tau) (d := d) (Post := fun r => ∃ (Z' : xZ) (h' : mx_H), r = (none, h') ∧ XH n s S Z' h' ∧ GI n S Z' ∧ fr' [(42, (-1))] Z Z' ∧ (AB Z' 42 19 0 0)) hx hG  (fun Z' h' q1 q2 q3 q5_42 => ⟨Z', h', rfl, q1, q2, q3, q5_42⟩))
  subst e; exact ⟨Z', h', hca, q⟩
set_option maxRecDepth 100000 in
theorem cw_284_22_m1 {l : Launch} {D : va_G} {b0 : Nat} {ad : Nat → Nat} {Hb : Heap} {tau : Nat → Int64} {d n s : Nat} {S : Nat → xS} {Z : xZ} {h : mx_H} {Post : mx_R → Prop} (hx : XH n s S Z h) (hG : GI n S Z)  (hP : ∀ (Z' : xZ) (h' : mx_H), XH n s S Z' h' → GI n S Z' → fr' [(22, (-1))] Z Z' → Post (none, h')) : mx_J (tB l D b0 ad Hb tau) mt_284 (d + 0) 0 [some (.ref 22), some (xI (-1)), none, none] [] h Post := by
    have a22 : 22 < n := lt83 hG.1 rfl
    have s22 : S 22 = .inr (.int, 385, 0) := hG.2.1 22 rfl
    refine JcI (z := 0) (show mx_Sn _ _ 0 (mx_const (.int 0) 1) from sn_284 0) rfl ?_
    refine mx_J.step (ls2 := [some (.ref 22), some (xI (-1)), some (xI 0), none]) (sn_284 1) (fun _ _ => rfl) ?_
    refine mx_J.step (sn_284 2) (fun _ _ => rfl) ?_
    refine JalenI (z := 385) hx (show mx_Sn _ _ 3 (mx_alen 4) from sn_284 3) a22 s22 (by decide) rfl ?_
    refine mx_J.step (ls2 := [some (.ref 22), some (xI (-1)), some (xI 0), some (xI 385)]) (sn_284 4) (fun _ _ => rfl) ?_
    have c5 : ∀ (m1 : Nat) (w1_2 : Int) (Z2 : xZ) (h2 : mx_H), 385 - w1_2 < (m1 : Int) → 0 ≤ w1_2 ∧ w1_2 ≤ 385 → XH n s S Z2 h2 → GI n S Z2 → fr' [(22, (-1))] Z Z2 → mx_J (tB l D b0 ad Hb tau) mt_284 (d + 0) 5 [some (.ref 22), some (xI (-1)), some (xI w1_2), some (xI 385)] [] h2 Post := by
      intro m1
      induction m1 with
      | zero => intro w1_2 Z2 h2 q1 f1_0 hx2 hG2 hf2; exact absurd q1 (by omega)
      | succ m1 ih1 =>
        intro w1_2 Z2 h2 q1 f1_0 hx2 hG2 hf2
        refine mx_J.step (sn_284 5) (fun _ _ => rfl) ?_
        refine mx_J.step (sn_284 6) (fun _ _ => rfl) ?_
        refine Jicmp_ge (show mx_Sn _ _ 7 (mx_icmp_ge 20 10) from sn_284 7) (by omega) (by omega) (fun q3 => ?_) (fun q3 => ?_)
        · skip
          exact mx_J.ret (sn_284 20) (fun _ _ => rfl) (hP Z2 h2 hx2 hG2 (fr_tr (M := [(22, (-1))]) fr_rf (hf2) (M1 := []) rfl rfl))
        · skip
          refine mx_J.step (sn_284 10) (fun _ _ => rfl) ?_
          refine mx_J.step (sn_284 11) (fun _ _ => rfl) ?_
          refine mx_J.step (sn_284 12) (fun _ _ => rfl) ?_
          refine JiastI hx2 (show mx_Sn _ _ 13 (mx_iast 1 14) from sn_284 13) a22 s22 rfl (by omega) (fun Z4 h4 hx4 hE4 => ?_)
          have hG4 := GI_up hG2 hE4 (show (-2147483648) ≤ (-1) ∧ (-1) ≤ 2147483647 by omega) trivial rfl
          refine Jiinc (z := w1_2) (cz := 1) (ls2 := [some (.ref 22), some (xI (-1)), some (xI (w1_2 + 1)), some (xI 385)]) (show mx_Sn _ _ 14 (mx_iinc 2 1 17) from sn_284 14) rfl rfl rfl rfl ?_
          refine mx_J.step (sn_284 17) (fun _ _ => rfl) ?_
          exact ih1 (w1_2 + 1) Z4 h4 (by omega) (by omega) hx4 hG4 (fr_tr (M := [(22, (-1))]) (fr_tr (M := [(22, (-1))]) fr_rf (hf2) (M1 := []) rfl rfl) (fr_ua hE4) rfl rfl)
    exact c5 (Int.toNat (385 - 0) + 1) 0 Z h (by omega) (by omega) hx hG fr_rf
theorem ct_284_22_m1 {l : Launch} {D : va_G} {b0 : Nat} {ad : Nat → Nat} {Hb : Heap} {tau : Nat → Int64} {d n s : Nat} {S : Nat → xS} {Z : xZ} {h : mx_H} (hx : XH n s S Z h) (hG : GI n S Z)  : ∃ (Z' : xZ) (h' : mx_H), mx_Ca (tB l D b0 ad Hb tau) (d + 1) 284 [.ref 22, xI (-1)] h (none, h') ∧ XH n s S Z' h' ∧ GI n S Z' ∧ fr' [(22, (-1))] Z Z' := by
  obtain ⟨r, hca, Z', h', e, q⟩ := Jmt (B := tB l D b0 ad Hb tau) (M := mt_284) (mi := 284) (as := [.ref 22, xI (-1)]) (d := d + 0) (ls := [some (.ref 22), some (xI (-1)), none, none]) rfl rfl rfl rfl rfl rfl (cw_284_22_m1 (l := l) (D := D) (b0 := b0) (ad := ad) (Hb := Hb) (tau := tau) (d := d) (Post := fun r => ∃ (Z' : xZ) (h' : mx_H), r = (none, h') ∧ XH n s S Z' h' ∧ GI n S Z' ∧ fr' [(22, (-1))] Z Z') hx hG  (fun Z' h' q1 q2 q3 => ⟨Z', h', rfl, q1, q2, q3⟩))
  subst e; exact ⟨Z', h', hca, q⟩
set_option maxRecDepth 100000 in
theorem cw_284_29_m1 {l : Launch} {D : va_G} {b0 : Nat} {ad : Nat → Nat} {Hb : Heap} {tau : Nat → Int64} {d n s : Nat} {S : Nat → xS} {Z : xZ} {h : mx_H} {Post : mx_R → Prop} (hx : XH n s S Z h) (hG : GI n S Z)  (hP : ∀ (Z' : xZ) (h' : mx_H), XH n s S Z' h' → GI n S Z' → fr' [(29, (-1))] Z Z' → Post (none, h')) : mx_J (tB l D b0 ad Hb tau) mt_284 (d + 0) 0 [some (.ref 29), some (xI (-1)), none, none] [] h Post := by
    have a29 : 29 < n := lt83 hG.1 rfl
    have s29 : S 29 = .inr (.int, 385, 0) := hG.2.1 29 rfl
    refine JcI (z := 0) (show mx_Sn _ _ 0 (mx_const (.int 0) 1) from sn_284 0) rfl ?_
    refine mx_J.step (ls2 := [some (.ref 29), some (xI (-1)), some (xI 0), none]) (sn_284 1) (fun _ _ => rfl) ?_
    refine mx_J.step (sn_284 2) (fun _ _ => rfl) ?_
    refine JalenI (z := 385) hx (show mx_Sn _ _ 3 (mx_alen 4) from sn_284 3) a29 s29 (by decide) rfl ?_
    refine mx_J.step (ls2 := [some (.ref 29), some (xI (-1)), some (xI 0), some (xI 385)]) (sn_284 4) (fun _ _ => rfl) ?_
    have c5 : ∀ (m1 : Nat) (w1_2 : Int) (Z2 : xZ) (h2 : mx_H), 385 - w1_2 < (m1 : Int) → 0 ≤ w1_2 ∧ w1_2 ≤ 385 → XH n s S Z2 h2 → GI n S Z2 → fr' [(29, (-1))] Z Z2 → mx_J (tB l D b0 ad Hb tau) mt_284 (d + 0) 5 [some (.ref 29), some (xI (-1)), some (xI w1_2), some (xI 385)] [] h2 Post := by
      intro m1
      induction m1 with
      | zero => intro w1_2 Z2 h2 q1 f1_0 hx2 hG2 hf2; exact absurd q1 (by omega)
      | succ m1 ih1 =>
        intro w1_2 Z2 h2 q1 f1_0 hx2 hG2 hf2
        refine mx_J.step (sn_284 5) (fun _ _ => rfl) ?_
        refine mx_J.step (sn_284 6) (fun _ _ => rfl) ?_
        refine Jicmp_ge (show mx_Sn _ _ 7 (mx_icmp_ge 20 10) from sn_284 7) (by omega) (by omega) (fun q3 => ?_) (fun q3 => ?_)
        · skip
          exact mx_J.ret (sn_284 20) (fun _ _ => rfl) (hP Z2 h2 hx2 hG2 (fr_tr (M := [(29, (-1))]) fr_rf (hf2) (M1 := []) rfl rfl))
        · skip
          refine mx_J.step (sn_284 10) (fun _ _ => rfl) ?_
          refine mx_J.step (sn_284 11) (fun _ _ => rfl) ?_
          refine mx_J.step (sn_284 12) (fun _ _ => rfl) ?_
          refine JiastI hx2 (show mx_Sn _ _ 13 (mx_iast 1 14) from sn_284 13) a29 s29 rfl (by omega) (fun Z4 h4 hx4 hE4 => ?_)
          have hG4 := GI_up hG2 hE4 (show (-2147483648) ≤ (-1) ∧ (-1) ≤ 2147483647 by omega) trivial rfl
          refine Jiinc (z := w1_2) (cz := 1) (ls2 := [some (.ref 29), some (xI (-1)), some (xI (w1_2 + 1)), some (xI 385)]) (show mx_Sn _ _ 14 (mx_iinc 2 1 17) from sn_284 14) rfl rfl rfl rfl ?_
          refine mx_J.step (sn_284 17) (fun _ _ => rfl) ?_
          exact ih1 (w1_2 + 1) Z4 h4 (by omega) (by omega) hx4 hG4 (fr_tr (M := [(29, (-1))]) (fr_tr (M := [(29, (-1))]) fr_rf (hf2) (M1 := []) rfl rfl) (fr_ua hE4) rfl rfl)
    exact c5 (Int.toNat (385 - 0) + 1) 0 Z h (by omega) (by omega) hx hG fr_rf
theorem ct_284_29_m1 {l : Launch} {D : va_G} {b0 : Nat} {ad : Nat → Nat} {Hb : Heap} {tau : Nat → Int64} {d n s : Nat} {S : Nat → xS} {Z : xZ} {h : mx_H} (hx : XH n s S Z h) (hG : GI n S Z)  : ∃ (Z' : xZ) (h' : mx_H), mx_Ca (tB l D b0 ad Hb tau) (d + 1) 284 [.ref 29, xI (-1)] h (none, h') ∧ XH n s S Z' h' ∧ GI n S Z' ∧ fr' [(29, (-1))] Z Z' := by
  obtain ⟨r, hca, Z', h', e, q⟩ := Jmt (B := tB l D b0 ad Hb tau) (M := mt_284) (mi := 284) (as := [.ref 29, xI (-1)]) (d := d + 0) (ls := [some (.ref 29), some (xI (-1)), none, none]) rfl rfl rfl rfl rfl rfl (cw_284_29_m1 (l := l) (D := D) (b0 := b0) (ad := ad) (Hb := Hb) (tau := tau) (d := d) (Post := fun r => ∃ (Z' : xZ) (h' : mx_H), r = (none, h') ∧ XH n s S Z' h' ∧ GI n S Z' ∧ fr' [(29, (-1))] Z Z') hx hG  (fun Z' h' q1 q2 q3 => ⟨Z', h', rfl, q1, q2, q3⟩))
  subst e; exact ⟨Z', h', hca, q⟩
set_option maxRecDepth 100000 in
theorem cw_284_23_i0 {l : Launch} {D : va_G} {b0 : Nat} {ad : Nat → Nat} {Hb : Heap} {tau : Nat → Int64} {d n s : Nat} {S : Nat → xS} {Z : xZ} {h : mx_H} {Post : mx_R → Prop} (hx : XH n s S Z h) (hG : GI n S Z)  (hP : ∀ (Z' : xZ) (h' : mx_H), XH n s S Z' h' → GI n S Z' → fr' [(23, (-1))] Z Z' → Post (none, h')) : mx_J (tB l D b0 ad Hb tau) mt_284 (d + 0) 0 [some (.ref 23), some (xI 0), none, none] [] h Post := by
    have a23 : 23 < n := lt83 hG.1 rfl
    have s23 : S 23 = .inr (.int, 385, 0) := hG.2.1 23 rfl
    refine JcI (z := 0) (show mx_Sn _ _ 0 (mx_const (.int 0) 1) from sn_284 0) rfl ?_
    refine mx_J.step (ls2 := [some (.ref 23), some (xI 0), some (xI 0), none]) (sn_284 1) (fun _ _ => rfl) ?_
    refine mx_J.step (sn_284 2) (fun _ _ => rfl) ?_
    refine JalenI (z := 385) hx (show mx_Sn _ _ 3 (mx_alen 4) from sn_284 3) a23 s23 (by decide) rfl ?_
    refine mx_J.step (ls2 := [some (.ref 23), some (xI 0), some (xI 0), some (xI 385)]) (sn_284 4) (fun _ _ => rfl) ?_
    have c5 : ∀ (m1 : Nat) (w1_2 : Int) (Z2 : xZ) (h2 : mx_H), 385 - w1_2 < (m1 : Int) → 0 ≤ w1_2 ∧ w1_2 ≤ 385 → XH n s S Z2 h2 → GI n S Z2 → fr' [(23, (-1))] Z Z2 → mx_J (tB l D b0 ad Hb tau) mt_284 (d + 0) 5 [some (.ref 23), some (xI 0), some (xI w1_2), some (xI 385)] [] h2 Post := by
      intro m1
      induction m1 with
      | zero => intro w1_2 Z2 h2 q1 f1_0 hx2 hG2 hf2; exact absurd q1 (by omega)
      | succ m1 ih1 =>
        intro w1_2 Z2 h2 q1 f1_0 hx2 hG2 hf2
        refine mx_J.step (sn_284 5) (fun _ _ => rfl) ?_
        refine mx_J.step (sn_284 6) (fun _ _ => rfl) ?_
        refine Jicmp_ge (show mx_Sn _ _ 7 (mx_icmp_ge 20 10) from sn_284 7) (by omega) (by omega) (fun q3 => ?_) (fun q3 => ?_)
        · skip
          exact mx_J.ret (sn_284 20) (fun _ _ => rfl) (hP Z2 h2 hx2 hG2 (fr_tr (M := [(23, (-1))]) fr_rf (hf2) (M1 := []) rfl rfl))
        · skip
          refine mx_J.step (sn_284 10) (fun _ _ => rfl) ?_
          refine mx_J.step (sn_284 11) (fun _ _ => rfl) ?_
          refine mx_J.step (sn_284 12) (fun _ _ => rfl) ?_
          refine JiastI hx2 (show mx_Sn _ _ 13 (mx_iast 1 14) from sn_284 13) a23 s23 rfl (by omega) (fun Z4 h4 hx4 hE4 => ?_)
          have hG4 := GI_up hG2 hE4 (show (-2147483648) ≤ 0 ∧ 0 ≤ 2147483647 by omega) trivial rfl
          refine Jiinc (z := w1_2) (cz := 1) (ls2 := [some (.ref 23), some (xI 0), some (xI (w1_2 + 1)), some (xI 385)]) (show mx_Sn _ _ 14 (mx_iinc 2 1 17) from sn_284 14) rfl rfl rfl rfl ?_
          refine mx_J.step (sn_284 17) (fun _ _ => rfl) ?_
          exact ih1 (w1_2 + 1) Z4 h4 (by omega) (by omega) hx4 hG4 (fr_tr (M := [(23, (-1))]) (fr_tr (M := [(23, (-1))]) fr_rf (hf2) (M1 := []) rfl rfl) (fr_ua hE4) rfl rfl)
    exact c5 (Int.toNat (385 - 0) + 1) 0 Z h (by omega) (by omega) hx hG fr_rf
theorem ct_284_23_i0 {l : Launch} {D : va_G} {b0 : Nat} {ad : Nat → Nat} {Hb : Heap} {tau : Nat → Int64} {d n s : Nat} {S : Nat → xS} {Z : xZ} {h : mx_H} (hx : XH n s S Z h) (hG : GI n S Z)  : ∃ (Z' : xZ) (h' : mx_H), mx_Ca (tB l D b0 ad Hb tau) (d + 1) 284 [.ref 23, xI 0] h (none, h') ∧ XH n s S Z' h' ∧ GI n S Z' ∧ fr' [(23, (-1))] Z Z' := by
  obtain ⟨r, hca, Z', h', e, q⟩ := Jmt (B := tB l D b0 ad Hb tau) (M := mt_284) (mi := 284) (as := [.ref 23, xI 0]) (d := d + 0) (ls := [some (.ref 23), some (xI 0), none, none]) rfl rfl rfl rfl rfl rfl (cw_284_23_i0 (l := l) (D := D) (b0 := b0) (ad := ad) (Hb := Hb) (tau := tau) (d := d) (Post := fun r => ∃ (Z' : xZ) (h' : mx_H), r = (none, h') ∧ XH n s S Z' h' ∧ GI n S Z' ∧ fr' [(23, (-1))] Z Z') hx hG  (fun Z' h' q1 q2 q3 => ⟨Z', h', rfl, q1, q2, q3⟩))
  subst e; exact ⟨Z', h', hca, q⟩
set_option maxRecDepth 100000 in
theorem cw_284_24_i0 {l : Launch} {D : va_G} {b0 : Nat} {ad : Nat → Nat} {Hb : Heap} {tau : Nat → Int64} {d n s : Nat} {S : Nat → xS} {Z : xZ} {h : mx_H} {Post : mx_R → Prop} (hx : XH n s S Z h) (hG : GI n S Z)  (hP : ∀ (Z' : xZ) (h' : mx_H), XH n s S Z' h' → GI n S Z' → fr' [(24, (-1))] Z Z' → Post (none, h')) : mx_J (tB l D b0 ad Hb tau) mt_284 (d + 0) 0 [some (.ref 24), some (xI 0), none, none] [] h Post := by
    have a24 : 24 < n := lt83 hG.1 rfl
    have s24 : S 24 = .inr (.int, 385, 0) := hG.2.1 24 rfl
    refine JcI (z := 0) (show mx_Sn _ _ 0 (mx_const (.int 0) 1) from sn_284 0) rfl ?_
    refine mx_J.step (ls2 := [some (.ref 24), some (xI 0), some (xI 0), none]) (sn_284 1) (fun _ _ => rfl) ?_
    refine mx_J.step (sn_284 2) (fun _ _ => rfl) ?_
    refine JalenI (z := 385) hx (show mx_Sn _ _ 3 (mx_alen 4) from sn_284 3) a24 s24 (by decide) rfl ?_
    refine mx_J.step (ls2 := [some (.ref 24), some (xI 0), some (xI 0), some (xI 385)]) (sn_284 4) (fun _ _ => rfl) ?_
    have c5 : ∀ (m1 : Nat) (w1_2 : Int) (Z2 : xZ) (h2 : mx_H), 385 - w1_2 < (m1 : Int) → 0 ≤ w1_2 ∧ w1_2 ≤ 385 → XH n s S Z2 h2 → GI n S Z2 → fr' [(24, (-1))] Z Z2 → mx_J (tB l D b0 ad Hb tau) mt_284 (d + 0) 5 [some (.ref 24), some (xI 0), some (xI w1_2), some (xI 385)] [] h2 Post := by
      intro m1
      induction m1 with
      | zero => intro w1_2 Z2 h2 q1 f1_0 hx2 hG2 hf2; exact absurd q1 (by omega)
      | succ m1 ih1 =>
        intro w1_2 Z2 h2 q1 f1_0 hx2 hG2 hf2
        refine mx_J.step (sn_284 5) (fun _ _ => rfl) ?_
        refine mx_J.step (sn_284 6) (fun _ _ => rfl) ?_
        refine Jicmp_ge (show mx_Sn _ _ 7 (mx_icmp_ge 20 10) from sn_284 7) (by omega) (by omega) (fun q3 => ?_) (fun q3 => ?_)
        · skip
          exact mx_J.ret (sn_284 20) (fun _ _ => rfl) (hP Z2 h2 hx2 hG2 (fr_tr (M := [(24, (-1))]) fr_rf (hf2) (M1 := []) rfl rfl))
        · skip
          refine mx_J.step (sn_284 10) (fun _ _ => rfl) ?_
          refine mx_J.step (sn_284 11) (fun _ _ => rfl) ?_
          refine mx_J.step (sn_284 12) (fun _ _ => rfl) ?_
          refine JiastI hx2 (show mx_Sn _ _ 13 (mx_iast 1 14) from sn_284 13) a24 s24 rfl (by omega) (fun Z4 h4 hx4 hE4 => ?_)
          have hG4 := GI_up hG2 hE4 (show (-2147483648) ≤ 0 ∧ 0 ≤ 2147483647 by omega) trivial rfl
          refine Jiinc (z := w1_2) (cz := 1) (ls2 := [some (.ref 24), some (xI 0), some (xI (w1_2 + 1)), some (xI 385)]) (show mx_Sn _ _ 14 (mx_iinc 2 1 17) from sn_284 14) rfl rfl rfl rfl ?_
          refine mx_J.step (sn_284 17) (fun _ _ => rfl) ?_
          exact ih1 (w1_2 + 1) Z4 h4 (by omega) (by omega) hx4 hG4 (fr_tr (M := [(24, (-1))]) (fr_tr (M := [(24, (-1))]) fr_rf (hf2) (M1 := []) rfl rfl) (fr_ua hE4) rfl rfl)
    exact c5 (Int.toNat (385 - 0) + 1) 0 Z h (by omega) (by omega) hx hG fr_rf
theorem ct_284_24_i0 {l : Launch} {D : va_G} {b0 : Nat} {ad : Nat → Nat} {Hb : Heap} {tau : Nat → Int64} {d n s : Nat} {S : Nat → xS} {Z : xZ} {h : mx_H} (hx : XH n s S Z h) (hG : GI n S Z)  : ∃ (Z' : xZ) (h' : mx_H), mx_Ca (tB l D b0 ad Hb tau) (d + 1) 284 [.ref 24, xI 0] h (none, h') ∧ XH n s S Z' h' ∧ GI n S Z' ∧ fr' [(24, (-1))] Z Z' := by
  obtain ⟨r, hca, Z', h', e, q⟩ := Jmt (B := tB l D b0 ad Hb tau) (M := mt_284) (mi := 284) (as := [.ref 24, xI 0]) (d := d + 0) (ls := [some (.ref 24), some (xI 0), none, none]) rfl rfl rfl rfl rfl rfl (cw_284_24_i0 (l := l) (D := D) (b0 := b0) (ad := ad) (Hb := Hb) (tau := tau) (d := d) (Post := fun r => ∃ (Z' : xZ) (h' : mx_H), r = (none, h') ∧ XH n s S Z' h' ∧ GI n S Z' ∧ fr' [(24, (-1))] Z Z') hx hG  (fun Z' h' q1 q2 q3 => ⟨Z', h', rfl, q1, q2, q3⟩))
  subst e; exact ⟨Z', h', hca, q⟩
set_option maxRecDepth 100000 in
theorem cw_25_12 {l : Launch} {D : va_G} {b0 : Nat} {ad : Nat → Nat} {Hb : Heap} {tau : Nat → Int64} {d n s : Nat} {S : Nat → xS} {Z : xZ} {h : mx_H} {Post : mx_R → Prop} (hx : XH n s S Z h) (hG : GI n S Z) {x0 : Int} (p0 : 0 ≤ x0 ∧ x0 ≤ 9) (hP : ∀ (Z' : xZ) (h' : mx_H), XH n s S Z' h' → GI n S Z' → fr' [(12, 2), (17, (-1))] Z Z' → Post (none, h')) : mx_J (tB l D b0 ad Hb tau) mt_25 (d + 0) 0 [some (.ref 12), some (xI x0)] [] h Post := by
    have a12 : 12 < n := lt83 hG.1 rfl
    have s12 : S 12 = .inl (4, [2, 2, 0, 2, 2, 2, 2, 2, 2]) := hG.2.1 12 rfl
    have a17 : 17 < n := lt83 hG.1 rfl
    have s17 : S 17 = .inr (.int, 5, 0) := hG.2.1 17 rfl
    refine mx_J.step (sn_25 0) (fun _ _ => rfl) ?_
    refine JgetR (g := 6) (b := 17) hx (show mx_Sn _ _ 1 (mx_getf 4 6 4) from sn_25 1) a12 s12 rfl rfl (hG.prr 12 6 rfl) ?_
    refine JcI (z := 4) (show mx_Sn _ _ 4 (mx_const (.int 4) 5) from sn_25 4) rfl ?_
    have b1 : (-2147483648) ≤ Z 17 4 ∧ Z 17 4 ≤ 2147483647 := hG.pr 17 4
    refine JialdI (z := Z 17 4) hx (show mx_Sn _ _ 5 (mx_iald 6) from sn_25 5) a17 s17 (by omega) rfl ?_
    refine mx_J.step (sn_25 6) (fun _ _ => rfl) ?_
    have c27 : ∀  (Z3 : xZ) (h3 : mx_H), XH n s S Z3 h3 → GI n S Z3 → fr' [(12, 2), (17, (-1))] Z Z3 → mx_J (tB l D b0 ad Hb tau) mt_25 (d + 0) 27 [some (.ref 12), some (xI x0)] [] h3 Post := by
      intro Z3 h3 hx3 hG3 hf3
      exact mx_J.ret (sn_25 27) (fun _ _ => rfl) (hP Z3 h3 hx3 hG3 (fr_tr (M := [(12, 2), (17, (-1))]) fr_rf (hf3) (M1 := []) rfl rfl))
    refine Jicmp_eq (show mx_Sn _ _ 7 (mx_icmp_eq 27 10) from sn_25 7) (by omega) (by omega) (fun q4 => ?_) (fun q4 => ?_)
    · skip
      exact c27 Z h hx hG fr_rf
    · skip
      refine mx_J.step (sn_25 10) (fun _ _ => rfl) ?_
      refine JgetR (g := 6) (b := 17) hx (show mx_Sn _ _ 11 (mx_getf 4 6 14) from sn_25 11) a12 s12 rfl rfl (hG.prr 12 6 rfl) ?_
      refine JcI (z := 4) (show mx_Sn _ _ 14 (mx_const (.int 4) 15) from sn_25 14) rfl ?_
      refine mx_J.step (sn_25 15) (fun _ _ => rfl) ?_
      refine JiastI hx (show mx_Sn _ _ 16 (mx_iast 1 17) from sn_25 16) a17 s17 rfl (by omega) (fun Z5 h5 hx5 hE5 => ?_)
      have hG5 := GI_up hG hE5 (show (-2147483648) ≤ x0 ∧ x0 ≤ 2147483647 by omega) trivial rfl
      refine mx_J.step (sn_25 17) (fun _ _ => rfl) ?_
      refine mx_J.step (sn_25 18) (fun _ _ => rfl) ?_
      have b6 : (-2147483648) ≤ Z 12 2 ∧ Z 12 2 ≤ 2147483647 := hG.pr 12 2
      refine JgetI (g := 2) (z := Z 12 2) hx5 (show mx_Sn _ _ 19 (mx_getf 4 2 22) from sn_25 19) a12 s12 rfl rfl (up_nk hE5 rfl) ?_
      refine JcI (z := 1) (show mx_Sn _ _ 22 (mx_const (.int 1) 23) from sn_25 22) rfl ?_
      refine JiaddN (show mx_Sn _ _ 23 (mx_iadd 24) from sn_25 23) (fun y7 hy7 hq7 => ?_)
      refine JputI (g := 2) hx5 (show mx_Sn _ _ 24 (mx_putf 1 4 2 (.int) 27) from sn_25 24) a12 s12 rfl rfl rfl rfl (fun Z8 h8 hx8 hE8 => ?_)
      have hG8 := GI_up hG5 hE8 (show (-2147483648) ≤ y7 ∧ y7 ≤ 2147483647 by omega) trivial rfl
      exact c27 Z8 h8 hx8 hG8 (fr_tr (M := [(12, 2), (17, (-1))]) (fr_tr (M := [(12, 2), (17, (-1))]) fr_rf (fr_ua hE5) (M1 := []) rfl rfl) (fr_up hE8) rfl rfl)
theorem ct_25_12 {l : Launch} {D : va_G} {b0 : Nat} {ad : Nat → Nat} {Hb : Heap} {tau : Nat → Int64} {d n s : Nat} {S : Nat → xS} {Z : xZ} {h : mx_H} (hx : XH n s S Z h) (hG : GI n S Z) {x0 : Int} (p0 : 0 ≤ x0 ∧ x0 ≤ 9) : ∃ (Z' : xZ) (h' : mx_H), mx_Ca (tB l D b0 ad Hb tau) (d + 1) 25 [.ref 12, xI x0] h (none, h') ∧ XH n s S Z' h' ∧ GI n S Z' ∧ fr' [(12, 2), (17, (-1))] Z Z' := by
  obtain ⟨r, hca, Z', h', e, q⟩ := Jmt (B := tB l D b0 ad Hb tau) (M := mt_25) (mi := 25) (as := [.ref 12, xI x0]) (d := d + 0) (ls := [some (.ref 12), some (xI x0)]) rfl rfl rfl rfl rfl rfl (cw_25_12 (l := l) (D := D) (b0 := b0) (ad := ad) (Hb := Hb) (tau := tau) (d := d) (Post := fun r => ∃ (Z' : xZ) (h' : mx_H), r = (none, h') ∧ XH n s S Z' h' ∧ GI n S Z' ∧ fr' [(12, 2), (17, (-1))] Z Z') hx hG p0 (fun Z' h' q1 q2 q3 => ⟨Z', h', rfl, q1, q2, q3⟩))
  subst e; exact ⟨Z', h', hca, q⟩
set_option maxRecDepth 100000 in
theorem cw_134_1 {l : Launch} {D : va_G} {b0 : Nat} {ad : Nat → Nat} {Hb : Heap} {tau : Nat → Int64} {d n s : Nat} {S : Nat → xS} {Z : xZ} {h : mx_H} {Post : mx_R → Prop} (hx : XH n s S Z h) (hG : GI n S Z) {x0 : Int} (p0 : (-2147483648) ≤ x0 ∧ x0 ≤ 2147483647) (hP : ∀ (Z' : xZ) (h' : mx_H), XH n s S Z' h' → GI n S Z' → fr' [(1, 1), (2, (-1))] Z Z' → Post (none, h')) : mx_J (tB l D b0 ad Hb tau) mt_134 (d + 0) 0 [some (.ref 1), some (xI x0), none] [] h Post := by
    have a1 : 1 < n := lt83 hG.1 rfl
    have s1 : S 1 = .inl (11, [2, 0, 0, 0, 2, 2, 2, 2, 2, 2, 2, 2, 2, 2, 2, 2, 2]) := hG.2.1 1 rfl
    have a2 : 2 < n := lt83 hG.1 rfl
    have s2 : S 2 = .inr (.byte, 900, 0) := hG.2.1 2 rfl
    refine JcI (z := 24) (show mx_Sn _ _ 0 (mx_const (.int 24) 2) from sn_134 0) rfl ?_
    refine mx_J.step (ls2 := [some (.ref 1), some (xI x0), some (xI 24)]) (sn_134 2) (fun _ _ => rfl) ?_
    have c3 : ∀ (m1 : Nat) (w1_2 : Int) (Z2 : xZ) (h2 : mx_H), w1_2 - (-8) < (m1 : Int) → (-8) ≤ w1_2 ∧ w1_2 ≤ 24 → XH n s S Z2 h2 → GI n S Z2 → fr' [(1, 1), (2, (-1))] Z Z2 → mx_J (tB l D b0 ad Hb tau) mt_134 (d + 0) 3 [some (.ref 1), some (xI x0), some (xI w1_2)] [] h2 Post := by
      intro m1
      induction m1 with
      | zero => intro w1_2 Z2 h2 q1 f1_0 hx2 hG2 hf2; exact absurd q1 (by omega)
      | succ m1 ih1 =>
        intro w1_2 Z2 h2 q1 f1_0 hx2 hG2 hf2
        refine mx_J.step (sn_134 3) (fun _ _ => rfl) ?_
        have c46 : mx_J (tB l D b0 ad Hb tau) mt_134 (d + 0) 46 [some (.ref 1), some (xI x0), some (xI w1_2)] [] h2 Post := by
          exact mx_J.ret (sn_134 46) (fun _ _ => rfl) (hP Z2 h2 hx2 hG2 (fr_tr (M := [(1, 1), (2, (-1))]) fr_rf (hf2) (M1 := []) rfl rfl))
        refine Jif_lt (show mx_Sn _ _ 4 (mx_if_lt 46 7) from sn_134 4) (by omega) (fun q4 => ?_) (fun q4 => ?_)
        · skip
          exact c46 
        · skip
          refine mx_J.step (sn_134 7) (fun _ _ => rfl) ?_
          have b5 : 0 ≤ Z2 1 1 ∧ Z2 1 1 ≤ 900 := hG2.pr 1 1
          refine JgetI (g := 1) (z := Z2 1 1) hx2 (show mx_Sn _ _ 8 (mx_getf 11 1 11) from sn_134 8) a1 s1 rfl rfl rfl ?_
          refine JcI (z := 900) (show mx_Sn _ _ 11 (mx_const (.int 900) 14) from sn_134 11) rfl ?_
          refine Jicmp_ge (show mx_Sn _ _ 14 (mx_icmp_ge 46 17) from sn_134 14) (by omega) (by omega) (fun q6 => ?_) (fun q6 => ?_)
          · skip
            exact c46 
          · skip
            refine mx_J.step (sn_134 17) (fun _ _ => rfl) ?_
            refine JgetR (g := 0) (b := 2) hx2 (show mx_Sn _ _ 18 (mx_getf 11 0 21) from sn_134 18) a1 s1 rfl rfl (hG2.prr 1 0 rfl) ?_
            refine mx_J.step (sn_134 21) (fun _ _ => rfl) ?_
            have b7 : 0 ≤ Z2 1 1 ∧ Z2 1 1 ≤ 900 := hG2.pr 1 1
            refine JgetI (g := 1) (z := Z2 1 1) hx2 (show mx_Sn _ _ 22 (mx_getf 11 1 25) from sn_134 22) a1 s1 rfl rfl rfl ?_
            refine mx_J.step (sn_134 25) (fun _ _ => rfl) ?_
            refine mx_J.step (sn_134 26) (fun _ _ => rfl) ?_
            refine JiushrX (show mx_Sn _ _ 27 (mx_iushr 28) from sn_134 27) (fun y8 hy8 => ?_)
            refine Ji2bX (show mx_Sn _ _ 28 (mx_i2b 29) from sn_134 28) (fun y9 hy9 => ?_)
            refine JbastI hx2 (show mx_Sn _ _ 29 (mx_bast 1 30) from sn_134 29) a2 s2 rfl (by omega) (by omega) (fun Z10 h10 hx10 hE10 => ?_)
            have hG10 := GI_up hG2 hE10 (show (-128) ≤ y9 ∧ y9 ≤ 127 by omega) trivial rfl
            refine mx_J.step (sn_134 30) (fun _ _ => rfl) ?_
            refine mx_J.step (sn_134 31) (fun _ _ => rfl) ?_
            have b11 : 0 ≤ Z2 1 1 ∧ Z2 1 1 ≤ 900 := hG2.pr 1 1
            refine JgetI (g := 1) (z := Z2 1 1) hx10 (show mx_Sn _ _ 32 (mx_getf 11 1 35) from sn_134 32) a1 s1 rfl rfl (up_nk hE10 rfl) ?_
            refine JcI (z := 1) (show mx_Sn _ _ 35 (mx_const (.int 1) 36) from sn_134 35) rfl ?_
            refine Jiadd (show mx_Sn _ _ 36 (mx_iadd 37) from sn_134 36) ?_
            refine JputI (g := 1) hx10 (show mx_Sn _ _ 37 (mx_putf 1 11 1 (.int) 40) from sn_134 37) a1 s1 rfl rfl rfl rfl (fun Z12 h12 hx12 hE12 => ?_)
            have hG12 := GI_up hG10 hE12 (show 0 ≤ (Z2 1 1) + 1 ∧ (Z2 1 1) + 1 ≤ 900 by omega) trivial rfl
            refine Jiinc (z := w1_2) (cz := (-8)) (ls2 := [some (.ref 1), some (xI x0), some (xI (w1_2 + (-8)))]) (show mx_Sn _ _ 40 (mx_iinc 2 (-8) 43) from sn_134 40) rfl rfl rfl rfl ?_
            refine mx_J.step (sn_134 43) (fun _ _ => rfl) ?_
            exact ih1 (w1_2 + (-8)) Z12 h12 (by omega) (by omega) hx12 hG12 (fr_tr (M := [(1, 1), (2, (-1))]) (fr_tr (M := [(1, 1), (2, (-1))]) (fr_tr (M := [(1, 1), (2, (-1))]) fr_rf (hf2) (M1 := []) rfl rfl) (fr_ua hE10) rfl rfl) (fr_up hE12) rfl rfl)
    exact c3 (Int.toNat (24 - (-8)) + 1) 24 Z h (by omega) (by omega) hx hG fr_rf
theorem ct_134_1 {l : Launch} {D : va_G} {b0 : Nat} {ad : Nat → Nat} {Hb : Heap} {tau : Nat → Int64} {d n s : Nat} {S : Nat → xS} {Z : xZ} {h : mx_H} (hx : XH n s S Z h) (hG : GI n S Z) {x0 : Int} (p0 : (-2147483648) ≤ x0 ∧ x0 ≤ 2147483647) : ∃ (Z' : xZ) (h' : mx_H), mx_Ca (tB l D b0 ad Hb tau) (d + 1) 134 [.ref 1, xI x0] h (none, h') ∧ XH n s S Z' h' ∧ GI n S Z' ∧ fr' [(1, 1), (2, (-1))] Z Z' := by
  obtain ⟨r, hca, Z', h', e, q⟩ := Jmt (B := tB l D b0 ad Hb tau) (M := mt_134) (mi := 134) (as := [.ref 1, xI x0]) (d := d + 0) (ls := [some (.ref 1), some (xI x0), none]) rfl rfl rfl rfl rfl rfl (cw_134_1 (l := l) (D := D) (b0 := b0) (ad := ad) (Hb := Hb) (tau := tau) (d := d) (Post := fun r => ∃ (Z' : xZ) (h' : mx_H), r = (none, h') ∧ XH n s S Z' h' ∧ GI n S Z' ∧ fr' [(1, 1), (2, (-1))] Z Z') hx hG p0 (fun Z' h' q1 q2 q3 => ⟨Z', h', rfl, q1, q2, q3⟩))
  subst e; exact ⟨Z', h', hca, q⟩
set_option maxRecDepth 100000 in
theorem cw_89_1 {l : Launch} {D : va_G} {b0 : Nat} {ad : Nat → Nat} {Hb : Heap} {tau : Nat → Int64} {d n s : Nat} {S : Nat → xS} {Z : xZ} {h : mx_H} {Post : mx_R → Prop} (hx : XH n s S Z h) (hG : GI n S Z) {x0 x1 x2 x3 x4 : Int} (p0 : (-2147483648) ≤ x0 ∧ x0 ≤ 2147483647) (p1 : (-2147483648) ≤ x1 ∧ x1 ≤ 2147483647) (p2 : (-2147483648) ≤ x2 ∧ x2 ≤ 2147483647) (p3 : (-2147483648) ≤ x3 ∧ x3 ≤ 2147483647) (p4 : (-2147483648) ≤ x4 ∧ x4 ≤ 2147483647) (hP : ∀ (z : Int) (Z' : xZ) (h' : mx_H), XH n s S Z' h' → GI n S Z' → fr' [(1, 1), (2, (-1))] Z Z' → (-5) ≤ z ∧ z ≤ 900 → Post (some (xI z), h')) : mx_J (tB l D b0 ad Hb tau) mt_89 (d + 1) 0 [some (.ref 1), some (xI x0), some (xI x1), some (xI x2), some (xI x3), some (xI x4)] [] h Post := by
    have a1 : 1 < n := lt83 hG.1 rfl
    have s1 : S 1 = .inl (11, [2, 0, 0, 0, 2, 2, 2, 2, 2, 2, 2, 2, 2, 2, 2, 2, 2]) := hG.2.1 1 rfl
    refine mx_J.step (sn_89 0) (fun _ _ => rfl) ?_
    have b1 : 0 ≤ Z 1 1 ∧ Z 1 1 ≤ 900 := hG.pr 1 1
    refine JgetI (g := 1) (z := Z 1 1) hx (show mx_Sn _ _ 1 (mx_getf 11 1 4) from sn_89 1) a1 s1 rfl rfl rfl ?_
    refine JcI (z := 880) (show mx_Sn _ _ 4 (mx_const (.int 880) 7) from sn_89 4) rfl ?_
    refine Jicmp_le (show mx_Sn _ _ 7 (mx_icmp_le 13 10) from sn_89 7) (by omega) (by omega) (fun q2 => ?_) (fun q2 => ?_)
    · skip
      refine mx_J.step (sn_89 13) (fun _ _ => rfl) ?_
      refine mx_J.step (sn_89 14) (fun _ _ => rfl) ?_
      obtain ⟨Z3, h3, hc3, hx3, hG3, hf3⟩ := ct_134_1 (d := d + 0) (l := l) (D := D) (b0 := b0) (ad := ad) (Hb := Hb) (tau := tau) hx hG (show (-2147483648) ≤ x0 ∧ x0 ≤ 2147483647 by omega)
      refine Jcv0 hx (show mx_Sn _ _ 15 (mx_callv 134 2 11 18) from sn_89 15) a1 s1 hc3 rfl rfl rfl ?_
      refine mx_J.step (sn_89 18) (fun _ _ => rfl) ?_
      refine mx_J.step (sn_89 19) (fun _ _ => rfl) ?_
      obtain ⟨Z4, h4, hc4, hx4, hG4, hf4⟩ := ct_134_1 (d := d + 0) (l := l) (D := D) (b0 := b0) (ad := ad) (Hb := Hb) (tau := tau) hx3 hG3 (show (-2147483648) ≤ x1 ∧ x1 ≤ 2147483647 by omega)
      refine Jcv0 hx3 (show mx_Sn _ _ 20 (mx_callv 134 2 11 23) from sn_89 20) a1 s1 hc4 rfl rfl rfl ?_
      refine mx_J.step (sn_89 23) (fun _ _ => rfl) ?_
      refine mx_J.step (sn_89 24) (fun _ _ => rfl) ?_
      obtain ⟨Z5, h5, hc5, hx5, hG5, hf5⟩ := ct_134_1 (d := d + 0) (l := l) (D := D) (b0 := b0) (ad := ad) (Hb := Hb) (tau := tau) hx4 hG4 (show (-2147483648) ≤ x2 ∧ x2 ≤ 2147483647 by omega)
      refine Jcv0 hx4 (show mx_Sn _ _ 25 (mx_callv 134 2 11 28) from sn_89 25) a1 s1 hc5 rfl rfl rfl ?_
      refine mx_J.step (sn_89 28) (fun _ _ => rfl) ?_
      refine mx_J.step (sn_89 29) (fun _ _ => rfl) ?_
      obtain ⟨Z6, h6, hc6, hx6, hG6, hf6⟩ := ct_134_1 (d := d + 0) (l := l) (D := D) (b0 := b0) (ad := ad) (Hb := Hb) (tau := tau) hx5 hG5 (show (-2147483648) ≤ x3 ∧ x3 ≤ 2147483647 by omega)
      refine Jcv0 hx5 (show mx_Sn _ _ 31 (mx_callv 134 2 11 34) from sn_89 31) a1 s1 hc6 rfl rfl rfl ?_
      refine mx_J.step (sn_89 34) (fun _ _ => rfl) ?_
      refine mx_J.step (sn_89 35) (fun _ _ => rfl) ?_
      obtain ⟨Z7, h7, hc7, hx7, hG7, hf7⟩ := ct_134_1 (d := d + 0) (l := l) (D := D) (b0 := b0) (ad := ad) (Hb := Hb) (tau := tau) hx6 hG6 (show (-2147483648) ≤ x4 ∧ x4 ≤ 2147483647 by omega)
      refine Jcv0 hx6 (show mx_Sn _ _ 37 (mx_callv 134 2 11 40) from sn_89 37) a1 s1 hc7 rfl rfl rfl ?_
      refine mx_J.step (sn_89 40) (fun _ _ => rfl) ?_
      have b8 : 0 ≤ Z7 1 1 ∧ Z7 1 1 ≤ 900 := hG7.pr 1 1
      refine JgetI (g := 1) (z := Z7 1 1) hx7 (show mx_Sn _ _ 41 (mx_getf 11 1 44) from sn_89 41) a1 s1 rfl rfl rfl ?_
      exact mx_J.ret (sn_89 44) (fun _ _ => rfl) (hP (Z7 1 1) Z7 h7 hx7 hG7 (fr_tr (M := [(1, 1), (2, (-1))]) (fr_tr (M := [(1, 1), (2, (-1))]) (fr_tr (M := [(1, 1), (2, (-1))]) (fr_tr (M := [(1, 1), (2, (-1))]) (fr_tr (M := [(1, 1), (2, (-1))]) fr_rf (hf3) (M1 := []) rfl rfl) (hf4) rfl rfl) (hf5) rfl rfl) (hf6) rfl rfl) (hf7) rfl rfl) (by omega))
    · skip
      refine JcI (z := (-5)) (show mx_Sn _ _ 10 (mx_const (.int (-5)) 12) from sn_89 10) rfl ?_
      exact mx_J.ret (sn_89 12) (fun _ _ => rfl) (hP (-5) Z h hx hG fr_rf (by omega))
theorem ct_89_1 {l : Launch} {D : va_G} {b0 : Nat} {ad : Nat → Nat} {Hb : Heap} {tau : Nat → Int64} {d n s : Nat} {S : Nat → xS} {Z : xZ} {h : mx_H} (hx : XH n s S Z h) (hG : GI n S Z) {x0 x1 x2 x3 x4 : Int} (p0 : (-2147483648) ≤ x0 ∧ x0 ≤ 2147483647) (p1 : (-2147483648) ≤ x1 ∧ x1 ≤ 2147483647) (p2 : (-2147483648) ≤ x2 ∧ x2 ≤ 2147483647) (p3 : (-2147483648) ≤ x3 ∧ x3 ≤ 2147483647) (p4 : (-2147483648) ≤ x4 ∧ x4 ≤ 2147483647) : ∃ (z : Int) (Z' : xZ) (h' : mx_H), mx_Ca (tB l D b0 ad Hb tau) (d + 2) 89 [.ref 1, xI x0, xI x1, xI x2, xI x3, xI x4] h (some (xI z), h') ∧ XH n s S Z' h' ∧ GI n S Z' ∧ fr' [(1, 1), (2, (-1))] Z Z' ∧ ((-5) ≤ z ∧ z ≤ 900) := by
  obtain ⟨r, hca, z, Z', h', e, q⟩ := Jmt (B := tB l D b0 ad Hb tau) (M := mt_89) (mi := 89) (as := [.ref 1, xI x0, xI x1, xI x2, xI x3, xI x4]) (d := d + 1) (ls := [some (.ref 1), some (xI x0), some (xI x1), some (xI x2), some (xI x3), some (xI x4)]) rfl rfl rfl rfl rfl rfl (cw_89_1 (l := l) (D := D) (b0 := b0) (ad := ad) (Hb := Hb) (tau := tau) (d := d) (Post := fun r => ∃ (z : Int) (Z' : xZ) (h' : mx_H), r = (some (xI z), h') ∧ XH n s S Z' h' ∧ GI n S Z' ∧ fr' [(1, 1), (2, (-1))] Z Z' ∧ ((-5) ≤ z ∧ z ≤ 900)) hx hG p0 p1 p2 p3 p4 (fun z Z' h' q1 q2 q3 q4 => ⟨z, Z', h', rfl, q1, q2, q3, q4⟩))
  subst e; exact ⟨z, Z', h', hca, q⟩
set_option maxRecDepth 100000 in
theorem cw_91_1 {l : Launch} {D : va_G} {b0 : Nat} {ad : Nat → Nat} {Hb : Heap} {tau : Nat → Int64} {d n s : Nat} {S : Nat → xS} {Z : xZ} {h : mx_H} {Post : mx_R → Prop} (hx : XH n s S Z h) (hG : GI n S Z) {x0 : Int} (p0 : (-2147483648) ≤ x0 ∧ x0 ≤ 2147483647) (hP : ∀ z : Int, (-1) ≤ z ∧ z ≤ 900 → Post (some (xI z), h)) : mx_J (tB l D b0 ad Hb tau) mt_91 (d + 0) 0 [some (.ref 1), some (xI x0)] [] h Post := by
    have a1 : 1 < n := lt83 hG.1 rfl
    have s1 : S 1 = .inl (11, [2, 0, 0, 0, 2, 2, 2, 2, 2, 2, 2, 2, 2, 2, 2, 2, 2]) := hG.2.1 1 rfl
    refine mx_J.step (sn_91 0) (fun _ _ => rfl) ?_
    refine Jif_ne (show mx_Sn _ _ 1 (mx_if_ne 9 4) from sn_91 1) (by omega) (fun q1 => ?_) (fun q1 => ?_)
    · skip
      refine mx_J.step (sn_91 9) (fun _ _ => rfl) ?_
      refine JcI (z := 1) (show mx_Sn _ _ 10 (mx_const (.int 1) 11) from sn_91 10) rfl ?_
      have c22 : ∀ (k2_0 : Int), (-1) ≤ k2_0 ∧ k2_0 ≤ 900 → mx_J (tB l D b0 ad Hb tau) mt_91 (d + 0) 22 [some (.ref 1), some (xI x0)] [xI k2_0] h Post := by
        intro k2_0 f2_0
        exact mx_J.ret (sn_91 22) (fun _ _ => rfl) (hP k2_0 (by omega))
      refine Jicmp_ne (show mx_Sn _ _ 11 (mx_icmp_ne 21 14) from sn_91 11) (by omega) (by omega) (fun q3 => ?_) (fun q3 => ?_)
      · skip
        refine JcI (z := (-1)) (show mx_Sn _ _ 21 (mx_const (.int (-1)) 22) from sn_91 21) rfl ?_
        exact c22 (-1) (by omega)
      · skip
        refine mx_J.step (sn_91 14) (fun _ _ => rfl) ?_
        have b4 : (-1) ≤ Z 1 3 ∧ Z 1 3 ≤ 900 := hG.pr 1 3
        refine JgetI (g := 3) (z := Z 1 3) hx (show mx_Sn _ _ 15 (mx_getf 11 3 18) from sn_91 15) a1 s1 rfl rfl rfl ?_
        refine mx_J.step (sn_91 18) (fun _ _ => rfl) ?_
        exact c22 (Z 1 3) (by omega)
    · skip
      refine mx_J.step (sn_91 4) (fun _ _ => rfl) ?_
      have b5 : 0 ≤ Z 1 2 ∧ Z 1 2 ≤ 4 := hG.pr 1 2
      refine JgetI (g := 2) (z := Z 1 2) hx (show mx_Sn _ _ 5 (mx_getf 11 2 8) from sn_91 5) a1 s1 rfl rfl rfl ?_
      exact mx_J.ret (sn_91 8) (fun _ _ => rfl) (hP (Z 1 2) (by omega))
theorem ct_91_1 {l : Launch} {D : va_G} {b0 : Nat} {ad : Nat → Nat} {Hb : Heap} {tau : Nat → Int64} {d n s : Nat} {S : Nat → xS} {Z : xZ} {h : mx_H} (hx : XH n s S Z h) (hG : GI n S Z) {x0 : Int} (p0 : (-2147483648) ≤ x0 ∧ x0 ≤ 2147483647) : ∃ z : Int, mx_Ca (tB l D b0 ad Hb tau) (d + 1) 91 [.ref 1, xI x0] h (some (xI z), h) ∧ ((-1) ≤ z ∧ z ≤ 900) := by
  obtain ⟨r, hca, z, e, hp⟩ := Jmt (B := tB l D b0 ad Hb tau) (M := mt_91) (mi := 91) (as := [.ref 1, xI x0]) (d := d + 0) (ls := [some (.ref 1), some (xI x0)]) rfl rfl rfl rfl rfl rfl (cw_91_1 (l := l) (D := D) (b0 := b0) (ad := ad) (Hb := Hb) (tau := tau) (d := d) (Post := fun r => ∃ z : Int, r = (some (xI z), h) ∧ ((-1) ≤ z ∧ z ≤ 900)) hx hG p0 (fun z hz => ⟨z, rfl, hz⟩))
  subst e; exact ⟨z, hca, hp⟩
set_option maxRecDepth 100000 in
theorem cw_92_1 {l : Launch} {D : va_G} {b0 : Nat} {ad : Nat → Nat} {Hb : Heap} {tau : Nat → Int64} {d n s : Nat} {S : Nat → xS} {Z : xZ} {h : mx_H} {Post : mx_R → Prop} (hx : XH n s S Z h) (hG : GI n S Z) {x0 : Int} (p0 : (-2147483648) ≤ x0 ∧ x0 ≤ 2147483647) (hP : ∀ z : Int, (-3) ≤ z ∧ z ≤ 18 → Post (some (xI z), h)) : mx_J (tB l D b0 ad Hb tau) mt_92 (d + 2) 0 [some (.ref 1), some (xI x0)] [] h Post := by
    have a1 : 1 < n := lt83 hG.1 rfl
    have s1 : S 1 = .inl (11, [2, 0, 0, 0, 2, 2, 2, 2, 2, 2, 2, 2, 2, 2, 2, 2, 2]) := hG.2.1 1 rfl
    have a7 : 7 < n := lt83 hG.1 rfl
    have s7 : S 7 = .inl (0, [2, 2, 2, 2, 0, 0]) := hG.2.1 7 rfl
    have a36 : 36 < n := lt83 hG.1 rfl
    have s36 : S 36 = .inl (5, [2, 0, 0, 0, 0, 0]) := hG.2.1 36 rfl
    refine mx_J.step (sn_92 0) (fun _ _ => rfl) ?_
    refine Jif_ge (show mx_Sn _ _ 1 (mx_if_ge 7 4) from sn_92 1) (by omega) (fun q1 => ?_) (fun q1 => ?_)
    · skip
      refine mx_J.step (sn_92 7) (fun _ _ => rfl) ?_
      refine mx_J.step (sn_92 8) (fun _ _ => rfl) ?_
      refine JgetR (g := 5) (b := 7) hx (show mx_Sn _ _ 9 (mx_getf 11 5 12) from sn_92 9) a1 s1 rfl rfl (hG.prr 1 5 rfl) ?_
      refine mx_J.step (sn_92 12) (fun _ _ => rfl) ?_
      refine JgetR (g := 12) (b := 36) hx (show mx_Sn _ _ 13 (mx_getf 11 12 16) from sn_92 13) a1 s1 rfl rfl (hG.prr 1 12 rfl) ?_
      have b2 : 0 ≤ Z 36 2 ∧ Z 36 2 ≤ 384 := hG.pr 36 2
      refine JgetI (g := 2) (z := Z 36 2) hx (show mx_Sn _ _ 16 (mx_getf 5 2 19) from sn_92 16) a36 s36 rfl rfl rfl ?_
      obtain ⟨z3, hc3, b3⟩ := ct_5_7 (d := d + 1) (l := l) (D := D) (b0 := b0) (ad := ad) (Hb := Hb) (tau := tau) hx hG (show (-2147483648) ≤ Z 36 2 ∧ Z 36 2 ≤ 2147483647 by omega)
      refine Jcv hx (show mx_Sn _ _ 19 (mx_callv 5 2 0 22) from sn_92 19) a7 s7 hc3 rfl rfl rfl ?_
      have c44 : ∀ (k4_0 : Int), (-1) ≤ k4_0 ∧ k4_0 ≤ 18 → mx_J (tB l D b0 ad Hb tau) mt_92 (d + 2) 44 [some (.ref 1), some (xI x0)] [xI k4_0] h Post := by
        intro k4_0 f4_0
        exact mx_J.ret (sn_92 44) (fun _ _ => rfl) (hP k4_0 (by omega))
      refine Jicmp_ge (show mx_Sn _ _ 22 (mx_icmp_ge 43 25) from sn_92 22) (by omega) (by omega) (fun q5 => ?_) (fun q5 => ?_)
      · skip
        refine JcI (z := (-1)) (show mx_Sn _ _ 43 (mx_const (.int (-1)) 44) from sn_92 43) rfl ?_
        exact c44 (-1) (by omega)
      · skip
        refine mx_J.step (sn_92 25) (fun _ _ => rfl) ?_
        refine JgetR (g := 5) (b := 7) hx (show mx_Sn _ _ 26 (mx_getf 11 5 29) from sn_92 26) a1 s1 rfl rfl (hG.prr 1 5 rfl) ?_
        refine mx_J.step (sn_92 29) (fun _ _ => rfl) ?_
        refine JgetR (g := 12) (b := 36) hx (show mx_Sn _ _ 30 (mx_getf 11 12 33) from sn_92 30) a1 s1 rfl rfl (hG.prr 1 12 rfl) ?_
        have b6 : 0 ≤ Z 36 2 ∧ Z 36 2 ≤ 384 := hG.pr 36 2
        refine JgetI (g := 2) (z := Z 36 2) hx (show mx_Sn _ _ 33 (mx_getf 5 2 36) from sn_92 33) a36 s36 rfl rfl rfl ?_
        refine mx_J.step (sn_92 36) (fun _ _ => rfl) ?_
        obtain ⟨z7, hc7, b7⟩ := ct_6_7 (d := d + 0) (l := l) (D := D) (b0 := b0) (ad := ad) (Hb := Hb) (tau := tau) hx hG (show (-2147483648) ≤ Z 36 2 ∧ Z 36 2 ≤ 2147483647 by omega) (show (-2147483648) ≤ x0 ∧ x0 ≤ 2147483647 by omega)
        refine Jcv hx (show mx_Sn _ _ 37 (mx_callv 6 3 0 40) from sn_92 37) a7 s7 hc7 rfl rfl rfl ?_
        refine mx_J.step (sn_92 40) (fun _ _ => rfl) ?_
        exact c44 z7 (by omega)
    · skip
      refine JcI (z := (-3)) (show mx_Sn _ _ 4 (mx_const (.int (-3)) 6) from sn_92 4) rfl ?_
      exact mx_J.ret (sn_92 6) (fun _ _ => rfl) (hP (-3) (by omega))
theorem ct_92_1 {l : Launch} {D : va_G} {b0 : Nat} {ad : Nat → Nat} {Hb : Heap} {tau : Nat → Int64} {d n s : Nat} {S : Nat → xS} {Z : xZ} {h : mx_H} (hx : XH n s S Z h) (hG : GI n S Z) {x0 : Int} (p0 : (-2147483648) ≤ x0 ∧ x0 ≤ 2147483647) : ∃ z : Int, mx_Ca (tB l D b0 ad Hb tau) (d + 3) 92 [.ref 1, xI x0] h (some (xI z), h) ∧ ((-3) ≤ z ∧ z ≤ 18) := by
  obtain ⟨r, hca, z, e, hp⟩ := Jmt (B := tB l D b0 ad Hb tau) (M := mt_92) (mi := 92) (as := [.ref 1, xI x0]) (d := d + 2) (ls := [some (.ref 1), some (xI x0)]) rfl rfl rfl rfl rfl rfl (cw_92_1 (l := l) (D := D) (b0 := b0) (ad := ad) (Hb := Hb) (tau := tau) (d := d) (Post := fun r => ∃ z : Int, r = (some (xI z), h) ∧ ((-3) ≤ z ∧ z ≤ 18)) hx hG p0 (fun z hz => ⟨z, rfl, hz⟩))
  subst e; exact ⟨z, hca, hp⟩
theorem ct_30_12 {l : Launch} {D : va_G} {b0 : Nat} {ad : Nat → Nat} {Hb : Heap} {tau : Nat → Int64} {d n s : Nat} {S : Nat → xS} {Z : xZ} {h : mx_H} (hx : XH n s S Z h) (hG : GI n S Z) {x0 x1 x2 : Int} (p0 : 0 ≤ x0 ∧ x0 ≤ 18) (p1 : 0 ≤ x1 ∧ x1 ≤ 17) (p2 : 0 ≤ x2 ∧ x2 ≤ 18) : ∃ (z : Int) (Z' : xZ) (h' : mx_H), mx_Ca (tB l D b0 ad Hb tau) (d + 6) 30 [.ref 12, xI x0, xI x1, xI x2] h (some (xI z), h') ∧ XH n s S Z' h' ∧ GI n S Z' ∧ fr' [(16, (-1)), (17, (-1)), (18, (-1))] Z Z' ∧ (0 ≤ z ∧ z ≤ 18 ∧ z ≤ x0) := sorry
set_option maxRecDepth 100000 in
theorem cw_9_7_6 {l : Launch} {D : va_G} {b0 : Nat} {ad : Nat → Nat} {Hb : Heap} {tau : Nat → Int64} {d n s : Nat} {S : Nat → xS} {Z : xZ} {h : mx_H} {Post : mx_R → Prop} (hx : XH n s S Z h) (hG : GI n S Z) (m6 : AB Z 6 19 (-40) 40) (hP : ∀ z : Int, 0 ≤ z ∧ z ≤ 384 → Post (some (xI z), h)) : mx_J (tB l D b0 ad Hb tau) mt_9 (d + 1) 0 [some (.ref 7), some (.ref 6), none, none, none, none] [] h Post := by
    have a6 : 6 < n := lt83 hG.1 rfl
    have s6 : S 6 = .inr (.int, 19, 0) := hG.2.1 6 rfl
    have a7 : 7 < n := lt83 hG.1 rfl
    have s7 : S 7 = .inl (0, [2, 2, 2, 2, 0, 0]) := hG.2.1 7 rfl
    refine JcI (z := 0) (show mx_Sn _ _ 0 (mx_const (.int 0) 1) from sn_9 0) rfl ?_
    refine mx_J.step (ls2 := [some (.ref 7), some (.ref 6), some (xI 0), none, none, none]) (sn_9 1) (fun _ _ => rfl) ?_
    refine mx_J.step (sn_9 2) (fun _ _ => rfl) ?_
    have b1 : 0 ≤ Z 7 4 ∧ Z 7 4 ≤ 18 := hG.pr 7 4
    refine JgetI (g := 4) (z := Z 7 4) hx (show mx_Sn _ _ 3 (mx_getf 0 4 6) from sn_9 3) a7 s7 rfl rfl rfl ?_
    refine mx_J.step (ls2 := [some (.ref 7), some (.ref 6), some (xI 0), some (xI (Z 7 4)), none, none]) (sn_9 6) (fun _ _ => rfl) ?_
    have wd := W1z (n := (Z 7 4)) (by omega)
    refine JcI (z := 18) (show mx_Sn _ _ 7 (mx_const (.int 18) 9) from sn_9 7) rfl ?_
    refine mx_J.step (ls2 := [some (.ref 7), some (.ref 6), some (xI 0), some (xI (Z 7 4)), some (xI 18), none]) (sn_9 9) (fun _ _ => rfl) ?_
    refine JcI (z := 18) (show mx_Sn _ _ 11 (mx_const (.int 18) 13) from sn_9 11) rfl ?_
    refine mx_J.step (ls2 := [some (.ref 7), some (.ref 6), some (xI 0), some (xI (Z 7 4)), some (xI 18), some (xI 18)]) (sn_9 13) (fun _ _ => rfl) ?_
    have c15 : ∀ (m2 : Nat) (w2_2 : Int) (w2_3 : Int) (w2_4 : Int) (w2_5 : Int), w2_5 - 0 < (m2 : Int) → 0 ≤ w2_2 ∧ w2_2 ≤ 384 → (-719) ≤ w2_3 ∧ w2_3 ≤ 18 → 1 ≤ w2_4 ∧ w2_4 ≤ 18 → 0 ≤ w2_5 ∧ w2_5 ≤ 18 → (w2_3 ≤ 0 ∨ w2_2 + wy (w2_3 * 19 + w2_4) ≤ 385) → w2_5 ≤ w2_4 → mx_J (tB l D b0 ad Hb tau) mt_9 (d + 1) 15 [some (.ref 7), some (.ref 6), some (xI w2_2), some (xI w2_3), some (xI w2_4), some (xI w2_5)] [] h Post := by
      intro m2
      induction m2 with
      | zero => intro w2_2 w2_3 w2_4 w2_5 q2 f2_0 f2_1 f2_2 f2_3 f2_4 f2_5; exact absurd q2 (by omega)
      | succ m2 ih2 =>
        intro w2_2 w2_3 w2_4 w2_5 q2 f2_0 f2_1 f2_2 f2_3 f2_4 f2_5
        refine mx_J.step (sn_9 15) (fun _ _ => rfl) ?_
        have c69 : mx_J (tB l D b0 ad Hb tau) mt_9 (d + 1) 69 [some (.ref 7), some (.ref 6), some (xI w2_2), some (xI w2_3), some (xI w2_4), some (xI w2_5)] [] h Post := by
          refine mx_J.step (sn_9 69) (fun _ _ => rfl) ?_
          exact mx_J.ret (sn_9 70) (fun _ _ => rfl) (hP w2_2 (by omega))
        refine Jif_le (show mx_Sn _ _ 17 (mx_if_le 69 20) from sn_9 17) (by omega) (fun q4 => ?_) (fun q4 => ?_)
        · skip
          exact c69 
        · skip
          refine mx_J.step (sn_9 20) (fun _ _ => rfl) ?_
          refine Jif_le (show mx_Sn _ _ 21 (mx_if_le 69 24) from sn_9 21) (by omega) (fun q5 => ?_) (fun q5 => ?_)
          · skip
            exact c69 
          · skip
            refine mx_J.step (sn_9 24) (fun _ _ => rfl) ?_
            refine mx_J.step (sn_9 25) (fun _ _ => rfl) ?_
            have b6 : (-40) ≤ Z 6 w2_5 ∧ Z 6 w2_5 ≤ 40 := m6 w2_5 (by omega) (by omega)
            have b7 : (-2147483648) ≤ Z 6 w2_5 ∧ Z 6 w2_5 ≤ 2147483647 := hG.pr 6 w2_5
            refine JialdI (z := Z 6 w2_5) hx (show mx_Sn _ _ 27 (mx_iald 28) from sn_9 27) a6 s6 (by omega) rfl ?_
            have c63 : ∀ (w8_2 : Int) (w8_3 : Int) (w8_4 : Int), 0 ≤ w8_2 ∧ w8_2 ≤ 384 → (-719) ≤ w8_3 ∧ w8_3 ≤ 18 → 1 ≤ w8_4 ∧ w8_4 ≤ 18 → (w8_3 ≤ 0 ∨ w8_2 + wy (w8_3 * 19 + w8_4) ≤ 385) → w2_5 ≤ w8_4 → mx_J (tB l D b0 ad Hb tau) mt_9 (d + 1) 63 [some (.ref 7), some (.ref 6), some (xI w8_2), some (xI w8_3), some (xI w8_4), some (xI w2_5)] [] h Post := by
              intro w8_2 w8_3 w8_4 f8_0 f8_1 f8_2 f8_3 f8_4
              refine Jiinc (z := w2_5) (cz := (-1)) (ls2 := [some (.ref 7), some (.ref 6), some (xI w8_2), some (xI w8_3), some (xI w8_4), some (xI (w2_5 + (-1)))]) (show mx_Sn _ _ 63 (mx_iinc 5 (-1) 66) from sn_9 63) rfl rfl rfl rfl ?_
              refine mx_J.step (sn_9 66) (fun _ _ => rfl) ?_
              exact ih2 w8_2 w8_3 w8_4 (w2_5 + (-1)) (by omega) (by omega) (by omega) (by omega) (by omega) (by omega) (by omega)
            refine Jif_le (show mx_Sn _ _ 28 (mx_if_le 63 31) from sn_9 28) (by omega) (fun q9 => ?_) (fun q9 => ?_)
            · skip
              exact c63 w2_2 w2_3 w2_4 (by omega) (by omega) (by omega) (by omega) (by omega)
            · skip
              refine mx_J.step (sn_9 31) (fun _ _ => rfl) ?_
              refine mx_J.step (sn_9 32) (fun _ _ => rfl) ?_
              refine mx_J.step (sn_9 33) (fun _ _ => rfl) ?_
              refine mx_J.step (sn_9 34) (fun _ _ => rfl) ?_
              obtain ⟨z10, hc10, b10⟩ := ct_2_7 (d := d + 0) (l := l) (D := D) (b0 := b0) (ad := ad) (Hb := Hb) (tau := tau) hx hG (show 0 ≤ w2_3 ∧ w2_3 ≤ 18 by omega) (show 0 ≤ w2_4 ∧ w2_4 ≤ 18 by omega)
              refine Jcv hx (show mx_Sn _ _ 36 (mx_callv 2 3 0 39) from sn_9 36) a7 s7 hc10 rfl rfl rfl ?_
              refine mx_J.step (sn_9 39) (fun _ _ => rfl) ?_
              refine mx_J.step (sn_9 40) (fun _ _ => rfl) ?_
              refine mx_J.step (sn_9 41) (fun _ _ => rfl) ?_
              obtain ⟨z11, hc11, b11⟩ := ct_2_7 (d := d + 0) (l := l) (D := D) (b0 := b0) (ad := ad) (Hb := Hb) (tau := tau) hx hG (show 0 ≤ w2_3 ∧ w2_3 ≤ 18 by omega) (show 0 ≤ w2_5 ∧ w2_5 ≤ 18 by omega)
              refine Jcv hx (show mx_Sn _ _ 43 (mx_callv 2 3 0 46) from sn_9 43) a7 s7 hc11 rfl rfl rfl ?_
              refine Jisub (show mx_Sn _ _ 46 (mx_isub 47) from sn_9 46) ?_
              refine Jiadd (show mx_Sn _ _ 47 (mx_iadd 48) from sn_9 47) ?_
              refine mx_J.step (ls2 := [some (.ref 7), some (.ref 6), some (xI (w2_2 + (z10 - z11))), some (xI w2_3), some (xI w2_4), some (xI w2_5)]) (sn_9 48) (fun _ _ => rfl) ?_
              refine mx_J.step (sn_9 49) (fun _ _ => rfl) ?_
              refine mx_J.step (sn_9 50) (fun _ _ => rfl) ?_
              refine mx_J.step (sn_9 52) (fun _ _ => rfl) ?_
              refine mx_J.step (sn_9 53) (fun _ _ => rfl) ?_
              have b12 : (-40) ≤ Z 6 w2_5 ∧ Z 6 w2_5 ≤ 40 := m6 w2_5 (by omega) (by omega)
              have b13 : (-2147483648) ≤ Z 6 w2_5 ∧ Z 6 w2_5 ≤ 2147483647 := hG.pr 6 w2_5
              refine JialdI (z := Z 6 w2_5) hx (show mx_Sn _ _ 55 (mx_iald 56) from sn_9 55) a6 s6 (by omega) rfl ?_
              refine JimulP (A := 18) (C := 40) (show mx_Sn _ _ 56 (mx_imul 57) from sn_9 56) (by omega) (by omega) (by decide) (fun y14 hy14 => ?_)
              refine Jisub (show mx_Sn _ _ 57 (mx_isub 58) from sn_9 57) ?_
              have wa := W1 (n := w2_3) (m := w2_5) (by omega) (by omega)
              have wb : (w2_3 - y14) < 0 ∨ wy ((w2_3 - y14) * 19 + w2_5) ≤ wy (w2_3 * 19 + w2_5) := W2 (by omega) (by omega)
              have wc : wy (w2_3 * 19 + w2_5) ≤ wy (w2_3 * 19 + w2_4) := W3 (by omega) (by omega)
              refine mx_J.step (ls2 := [some (.ref 7), some (.ref 6), some (xI (w2_2 + (z10 - z11))), some (xI (w2_3 - y14)), some (xI w2_4), some (xI w2_5)]) (sn_9 58) (fun _ _ => rfl) ?_
              refine mx_J.step (sn_9 59) (fun _ _ => rfl) ?_
              refine mx_J.step (ls2 := [some (.ref 7), some (.ref 6), some (xI (w2_2 + (z10 - z11))), some (xI (w2_3 - y14)), some (xI w2_5), some (xI w2_5)]) (sn_9 61) (fun _ _ => rfl) ?_
              exact c63 (w2_2 + (z10 - z11)) (w2_3 - y14) w2_5 (by omega) (by omega) (by omega) (by omega) (by omega)
    exact c15 (Int.toNat (18 - 0) + 1) 0 (Z 7 4) 18 18 (by omega) (by omega) (by omega) (by omega) (by omega) (by omega) (by omega)
theorem ct_9_7_6 {l : Launch} {D : va_G} {b0 : Nat} {ad : Nat → Nat} {Hb : Heap} {tau : Nat → Int64} {d n s : Nat} {S : Nat → xS} {Z : xZ} {h : mx_H} (hx : XH n s S Z h) (hG : GI n S Z) (m6 : AB Z 6 19 (-40) 40) : ∃ z : Int, mx_Ca (tB l D b0 ad Hb tau) (d + 2) 9 [.ref 7, .ref 6] h (some (xI z), h) ∧ (0 ≤ z ∧ z ≤ 384) := by
  obtain ⟨r, hca, z, e, hp⟩ := Jmt (B := tB l D b0 ad Hb tau) (M := mt_9) (mi := 9) (as := [.ref 7, .ref 6]) (d := d + 1) (ls := [some (.ref 7), some (.ref 6), none, none, none, none]) rfl rfl rfl rfl rfl rfl (cw_9_7_6 (l := l) (D := D) (b0 := b0) (ad := ad) (Hb := Hb) (tau := tau) (d := d) (Post := fun r => ∃ z : Int, r = (some (xI z), h) ∧ (0 ≤ z ∧ z ≤ 384)) hx hG m6 (fun z hz => ⟨z, rfl, hz⟩))
  subst e; exact ⟨z, hca, hp⟩
set_option maxRecDepth 100000 in
theorem cw_9_7_42 {l : Launch} {D : va_G} {b0 : Nat} {ad : Nat → Nat} {Hb : Heap} {tau : Nat → Int64} {d n s : Nat} {S : Nat → xS} {Z : xZ} {h : mx_H} {Post : mx_R → Prop} (hx : XH n s S Z h) (hG : GI n S Z) (m42 : AB Z 42 19 (-40) 40) (hP : ∀ z : Int, 0 ≤ z ∧ z ≤ 384 → Post (some (xI z), h)) : mx_J (tB l D b0 ad Hb tau) mt_9 (d + 1) 0 [some (.ref 7), some (.ref 42), none, none, none, none] [] h Post := by
    have a7 : 7 < n := lt83 hG.1 rfl
    have s7 : S 7 = .inl (0, [2, 2, 2, 2, 0, 0]) := hG.2.1 7 rfl
    have a42 : 42 < n := lt83 hG.1 rfl
    have s42 : S 42 = .inr (.int, 19, 0) := hG.2.1 42 rfl
    refine JcI (z := 0) (show mx_Sn _ _ 0 (mx_const (.int 0) 1) from sn_9 0) rfl ?_
    refine mx_J.step (ls2 := [some (.ref 7), some (.ref 42), some (xI 0), none, none, none]) (sn_9 1) (fun _ _ => rfl) ?_
    refine mx_J.step (sn_9 2) (fun _ _ => rfl) ?_
    have b1 : 0 ≤ Z 7 4 ∧ Z 7 4 ≤ 18 := hG.pr 7 4
    refine JgetI (g := 4) (z := Z 7 4) hx (show mx_Sn _ _ 3 (mx_getf 0 4 6) from sn_9 3) a7 s7 rfl rfl rfl ?_
    refine mx_J.step (ls2 := [some (.ref 7), some (.ref 42), some (xI 0), some (xI (Z 7 4)), none, none]) (sn_9 6) (fun _ _ => rfl) ?_
    have wd := W1z (n := (Z 7 4)) (by omega)
    refine JcI (z := 18) (show mx_Sn _ _ 7 (mx_const (.int 18) 9) from sn_9 7) rfl ?_
    refine mx_J.step (ls2 := [some (.ref 7), some (.ref 42), some (xI 0), some (xI (Z 7 4)), some (xI 18), none]) (sn_9 9) (fun _ _ => rfl) ?_
    refine JcI (z := 18) (show mx_Sn _ _ 11 (mx_const (.int 18) 13) from sn_9 11) rfl ?_
    refine mx_J.step (ls2 := [some (.ref 7), some (.ref 42), some (xI 0), some (xI (Z 7 4)), some (xI 18), some (xI 18)]) (sn_9 13) (fun _ _ => rfl) ?_
    have c15 : ∀ (m2 : Nat) (w2_2 : Int) (w2_3 : Int) (w2_4 : Int) (w2_5 : Int), w2_5 - 0 < (m2 : Int) → 0 ≤ w2_2 ∧ w2_2 ≤ 384 → (-719) ≤ w2_3 ∧ w2_3 ≤ 18 → 1 ≤ w2_4 ∧ w2_4 ≤ 18 → 0 ≤ w2_5 ∧ w2_5 ≤ 18 → (w2_3 ≤ 0 ∨ w2_2 + wy (w2_3 * 19 + w2_4) ≤ 385) → w2_5 ≤ w2_4 → mx_J (tB l D b0 ad Hb tau) mt_9 (d + 1) 15 [some (.ref 7), some (.ref 42), some (xI w2_2), some (xI w2_3), some (xI w2_4), some (xI w2_5)] [] h Post := by
      intro m2
      induction m2 with
      | zero => intro w2_2 w2_3 w2_4 w2_5 q2 f2_0 f2_1 f2_2 f2_3 f2_4 f2_5; exact absurd q2 (by omega)
      | succ m2 ih2 =>
        intro w2_2 w2_3 w2_4 w2_5 q2 f2_0 f2_1 f2_2 f2_3 f2_4 f2_5
        refine mx_J.step (sn_9 15) (fun _ _ => rfl) ?_
        have c69 : mx_J (tB l D b0 ad Hb tau) mt_9 (d + 1) 69 [some (.ref 7), some (.ref 42), some (xI w2_2), some (xI w2_3), some (xI w2_4), some (xI w2_5)] [] h Post := by
          refine mx_J.step (sn_9 69) (fun _ _ => rfl) ?_
          exact mx_J.ret (sn_9 70) (fun _ _ => rfl) (hP w2_2 (by omega))
        refine Jif_le (show mx_Sn _ _ 17 (mx_if_le 69 20) from sn_9 17) (by omega) (fun q4 => ?_) (fun q4 => ?_)
        · skip
          exact c69 
        · skip
          refine mx_J.step (sn_9 20) (fun _ _ => rfl) ?_
          refine Jif_le (show mx_Sn _ _ 21 (mx_if_le 69 24) from sn_9 21) (by omega) (fun q5 => ?_) (fun q5 => ?_)
          · skip
            exact c69 
          · skip
            refine mx_J.step (sn_9 24) (fun _ _ => rfl) ?_
            refine mx_J.step (sn_9 25) (fun _ _ => rfl) ?_
            have b6 : (-40) ≤ Z 42 w2_5 ∧ Z 42 w2_5 ≤ 40 := m42 w2_5 (by omega) (by omega)
            have b7 : (-2147483648) ≤ Z 42 w2_5 ∧ Z 42 w2_5 ≤ 2147483647 := hG.pr 42 w2_5
            refine JialdI (z := Z 42 w2_5) hx (show mx_Sn _ _ 27 (mx_iald 28) from sn_9 27) a42 s42 (by omega) rfl ?_
            have c63 : ∀ (w8_2 : Int) (w8_3 : Int) (w8_4 : Int), 0 ≤ w8_2 ∧ w8_2 ≤ 384 → (-719) ≤ w8_3 ∧ w8_3 ≤ 18 → 1 ≤ w8_4 ∧ w8_4 ≤ 18 → (w8_3 ≤ 0 ∨ w8_2 + wy (w8_3 * 19 + w8_4) ≤ 385) → w2_5 ≤ w8_4 → mx_J (tB l D b0 ad Hb tau) mt_9 (d + 1) 63 [some (.ref 7), some (.ref 42), some (xI w8_2), some (xI w8_3), some (xI w8_4), some (xI w2_5)] [] h Post := by
              intro w8_2 w8_3 w8_4 f8_0 f8_1 f8_2 f8_3 f8_4
              refine Jiinc (z := w2_5) (cz := (-1)) (ls2 := [some (.ref 7), some (.ref 42), some (xI w8_2), some (xI w8_3), some (xI w8_4), some (xI (w2_5 + (-1)))]) (show mx_Sn _ _ 63 (mx_iinc 5 (-1) 66) from sn_9 63) rfl rfl rfl rfl ?_
              refine mx_J.step (sn_9 66) (fun _ _ => rfl) ?_
              exact ih2 w8_2 w8_3 w8_4 (w2_5 + (-1)) (by omega) (by omega) (by omega) (by omega) (by omega) (by omega) (by omega)
            refine Jif_le (show mx_Sn _ _ 28 (mx_if_le 63 31) from sn_9 28) (by omega) (fun q9 => ?_) (fun q9 => ?_)
            · skip
              exact c63 w2_2 w2_3 w2_4 (by omega) (by omega) (by omega) (by omega) (by omega)
            · skip
              refine mx_J.step (sn_9 31) (fun _ _ => rfl) ?_
              refine mx_J.step (sn_9 32) (fun _ _ => rfl) ?_
              refine mx_J.step (sn_9 33) (fun _ _ => rfl) ?_
              refine mx_J.step (sn_9 34) (fun _ _ => rfl) ?_
              obtain ⟨z10, hc10, b10⟩ := ct_2_7 (d := d + 0) (l := l) (D := D) (b0 := b0) (ad := ad) (Hb := Hb) (tau := tau) hx hG (show 0 ≤ w2_3 ∧ w2_3 ≤ 18 by omega) (show 0 ≤ w2_4 ∧ w2_4 ≤ 18 by omega)
              refine Jcv hx (show mx_Sn _ _ 36 (mx_callv 2 3 0 39) from sn_9 36) a7 s7 hc10 rfl rfl rfl ?_
              refine mx_J.step (sn_9 39) (fun _ _ => rfl) ?_
              refine mx_J.step (sn_9 40) (fun _ _ => rfl) ?_
              refine mx_J.step (sn_9 41) (fun _ _ => rfl) ?_
              obtain ⟨z11, hc11, b11⟩ := ct_2_7 (d := d + 0) (l := l) (D := D) (b0 := b0) (ad := ad) (Hb := Hb) (tau := tau) hx hG (show 0 ≤ w2_3 ∧ w2_3 ≤ 18 by omega) (show 0 ≤ w2_5 ∧ w2_5 ≤ 18 by omega)
              refine Jcv hx (show mx_Sn _ _ 43 (mx_callv 2 3 0 46) from sn_9 43) a7 s7 hc11 rfl rfl rfl ?_
              refine Jisub (show mx_Sn _ _ 46 (mx_isub 47) from sn_9 46) ?_
              refine Jiadd (show mx_Sn _ _ 47 (mx_iadd 48) from sn_9 47) ?_
              refine mx_J.step (ls2 := [some (.ref 7), some (.ref 42), some (xI (w2_2 + (z10 - z11))), some (xI w2_3), some (xI w2_4), some (xI w2_5)]) (sn_9 48) (fun _ _ => rfl) ?_
              refine mx_J.step (sn_9 49) (fun _ _ => rfl) ?_
              refine mx_J.step (sn_9 50) (fun _ _ => rfl) ?_
              refine mx_J.step (sn_9 52) (fun _ _ => rfl) ?_
              refine mx_J.step (sn_9 53) (fun _ _ => rfl) ?_
              have b12 : (-40) ≤ Z 42 w2_5 ∧ Z 42 w2_5 ≤ 40 := m42 w2_5 (by omega) (by omega)
              have b13 : (-2147483648) ≤ Z 42 w2_5 ∧ Z 42 w2_5 ≤ 2147483647 := hG.pr 42 w2_5
              refine JialdI (z := Z 42 w2_5) hx (show mx_Sn _ _ 55 (mx_iald 56) from sn_9 55) a42 s42 (by omega) rfl ?_
              refine JimulP (A := 18) (C := 40) (show mx_Sn _ _ 56 (mx_imul 57) from sn_9 56) (by omega) (by omega) (by decide) (fun y14 hy14 => ?_)
              refine Jisub (show mx_Sn _ _ 57 (mx_isub 58) from sn_9 57) ?_
              have wa := W1 (n := w2_3) (m := w2_5) (by omega) (by omega)
              have wb : (w2_3 - y14) < 0 ∨ wy ((w2_3 - y14) * 19 + w2_5) ≤ wy (w2_3 * 19 + w2_5) := W2 (by omega) (by omega)
              have wc : wy (w2_3 * 19 + w2_5) ≤ wy (w2_3 * 19 + w2_4) := W3 (by omega) (by omega)
              refine mx_J.step (ls2 := [some (.ref 7), some (.ref 42), some (xI (w2_2 + (z10 - z11))), some (xI (w2_3 - y14)), some (xI w2_4), some (xI w2_5)]) (sn_9 58) (fun _ _ => rfl) ?_
              refine mx_J.step (sn_9 59) (fun _ _ => rfl) ?_
              refine mx_J.step (ls2 := [some (.ref 7), some (.ref 42), some (xI (w2_2 + (z10 - z11))), some (xI (w2_3 - y14)), some (xI w2_5), some (xI w2_5)]) (sn_9 61) (fun _ _ => rfl) ?_
              exact c63 (w2_2 + (z10 - z11)) (w2_3 - y14) w2_5 (by omega) (by omega) (by omega) (by omega) (by omega)
    exact c15 (Int.toNat (18 - 0) + 1) 0 (Z 7 4) 18 18 (by omega) (by omega) (by omega) (by omega) (by omega) (by omega) (by omega)
theorem ct_9_7_42 {l : Launch} {D : va_G} {b0 : Nat} {ad : Nat → Nat} {Hb : Heap} {tau : Nat → Int64} {d n s : Nat} {S : Nat → xS} {Z : xZ} {h : mx_H} (hx : XH n s S Z h) (hG : GI n S Z) (m42 : AB Z 42 19 (-40) 40) : ∃ z : Int, mx_Ca (tB l D b0 ad Hb tau) (d + 2) 9 [.ref 7, .ref 42] h (some (xI z), h) ∧ (0 ≤ z ∧ z ≤ 384) := by
  obtain ⟨r, hca, z, e, hp⟩ := Jmt (B := tB l D b0 ad Hb tau) (M := mt_9) (mi := 9) (as := [.ref 7, .ref 42]) (d := d + 1) (ls := [some (.ref 7), some (.ref 42), none, none, none, none]) rfl rfl rfl rfl rfl rfl (cw_9_7_42 (l := l) (D := D) (b0 := b0) (ad := ad) (Hb := Hb) (tau := tau) (d := d) (Post := fun r => ∃ z : Int, r = (some (xI z), h) ∧ (0 ≤ z ∧ z ≤ 384)) hx hG m42 (fun z hz => ⟨z, rfl, hz⟩))
  subst e; exact ⟨z, hca, hp⟩
set_option maxRecDepth 100000 in
theorem cw_9_7_19 {l : Launch} {D : va_G} {b0 : Nat} {ad : Nat → Nat} {Hb : Heap} {tau : Nat → Int64} {d n s : Nat} {S : Nat → xS} {Z : xZ} {h : mx_H} {Post : mx_R → Prop} (hx : XH n s S Z h) (hG : GI n S Z) (m19 : AB Z 19 19 (-40) 40) (hP : ∀ z : Int, 0 ≤ z ∧ z ≤ 384 → Post (some (xI z), h)) : mx_J (tB l D b0 ad Hb tau) mt_9 (d + 1) 0 [some (.ref 7), some (.ref 19), none, none, none, none] [] h Post := by
    have a7 : 7 < n := lt83 hG.1 rfl
    have s7 : S 7 = .inl (0, [2, 2, 2, 2, 0, 0]) := hG.2.1 7 rfl
    have a19 : 19 < n := lt83 hG.1 rfl
    have s19 : S 19 = .inr (.int, 19, 0) := hG.2.1 19 rfl
    refine JcI (z := 0) (show mx_Sn _ _ 0 (mx_const (.int 0) 1) from sn_9 0) rfl ?_
    refine mx_J.step (ls2 := [some (.ref 7), some (.ref 19), some (xI 0), none, none, none]) (sn_9 1) (fun _ _ => rfl) ?_
    refine mx_J.step (sn_9 2) (fun _ _ => rfl) ?_
    have b1 : 0 ≤ Z 7 4 ∧ Z 7 4 ≤ 18 := hG.pr 7 4
    refine JgetI (g := 4) (z := Z 7 4) hx (show mx_Sn _ _ 3 (mx_getf 0 4 6) from sn_9 3) a7 s7 rfl rfl rfl ?_
    refine mx_J.step (ls2 := [some (.ref 7), some (.ref 19), some (xI 0), some (xI (Z 7 4)), none, none]) (sn_9 6) (fun _ _ => rfl) ?_
    have wd := W1z (n := (Z 7 4)) (by omega)
    refine JcI (z := 18) (show mx_Sn _ _ 7 (mx_const (.int 18) 9) from sn_9 7) rfl ?_
    refine mx_J.step (ls2 := [some (.ref 7), some (.ref 19), some (xI 0), some (xI (Z 7 4)), some (xI 18), none]) (sn_9 9) (fun _ _ => rfl) ?_
    refine JcI (z := 18) (show mx_Sn _ _ 11 (mx_const (.int 18) 13) from sn_9 11) rfl ?_
    refine mx_J.step (ls2 := [some (.ref 7), some (.ref 19), some (xI 0), some (xI (Z 7 4)), some (xI 18), some (xI 18)]) (sn_9 13) (fun _ _ => rfl) ?_
    have c15 : ∀ (m2 : Nat) (w2_2 : Int) (w2_3 : Int) (w2_4 : Int) (w2_5 : Int), w2_5 - 0 < (m2 : Int) → 0 ≤ w2_2 ∧ w2_2 ≤ 384 → (-719) ≤ w2_3 ∧ w2_3 ≤ 18 → 1 ≤ w2_4 ∧ w2_4 ≤ 18 → 0 ≤ w2_5 ∧ w2_5 ≤ 18 → (w2_3 ≤ 0 ∨ w2_2 + wy (w2_3 * 19 + w2_4) ≤ 385) → w2_5 ≤ w2_4 → mx_J (tB l D b0 ad Hb tau) mt_9 (d + 1) 15 [some (.ref 7), some (.ref 19), some (xI w2_2), some (xI w2_3), some (xI w2_4), some (xI w2_5)] [] h Post := by
      intro m2
      induction m2 with
      | zero => intro w2_2 w2_3 w2_4 w2_5 q2 f2_0 f2_1 f2_2 f2_3 f2_4 f2_5; exact absurd q2 (by omega)
      | succ m2 ih2 =>
        intro w2_2 w2_3 w2_4 w2_5 q2 f2_0 f2_1 f2_2 f2_3 f2_4 f2_5
        refine mx_J.step (sn_9 15) (fun _ _ => rfl) ?_
        have c69 : mx_J (tB l D b0 ad Hb tau) mt_9 (d + 1) 69 [some (.ref 7), some (.ref 19), some (xI w2_2), some (xI w2_3), some (xI w2_4), some (xI w2_5)] [] h Post := by
          refine mx_J.step (sn_9 69) (fun _ _ => rfl) ?_
          exact mx_J.ret (sn_9 70) (fun _ _ => rfl) (hP w2_2 (by omega))
        refine Jif_le (show mx_Sn _ _ 17 (mx_if_le 69 20) from sn_9 17) (by omega) (fun q4 => ?_) (fun q4 => ?_)
        · skip
          exact c69 
        · skip
          refine mx_J.step (sn_9 20) (fun _ _ => rfl) ?_
          refine Jif_le (show mx_Sn _ _ 21 (mx_if_le 69 24) from sn_9 21) (by omega) (fun q5 => ?_) (fun q5 => ?_)
          · skip
            exact c69 
          · skip
            refine mx_J.step (sn_9 24) (fun _ _ => rfl) ?_
            refine mx_J.step (sn_9 25) (fun _ _ => rfl) ?_
            have b6 : (-40) ≤ Z 19 w2_5 ∧ Z 19 w2_5 ≤ 40 := m19 w2_5 (by omega) (by omega)
            have b7 : (-2147483648) ≤ Z 19 w2_5 ∧ Z 19 w2_5 ≤ 2147483647 := hG.pr 19 w2_5
            refine JialdI (z := Z 19 w2_5) hx (show mx_Sn _ _ 27 (mx_iald 28) from sn_9 27) a19 s19 (by omega) rfl ?_
            have c63 : ∀ (w8_2 : Int) (w8_3 : Int) (w8_4 : Int), 0 ≤ w8_2 ∧ w8_2 ≤ 384 → (-719) ≤ w8_3 ∧ w8_3 ≤ 18 → 1 ≤ w8_4 ∧ w8_4 ≤ 18 → (w8_3 ≤ 0 ∨ w8_2 + wy (w8_3 * 19 + w8_4) ≤ 385) → w2_5 ≤ w8_4 → mx_J (tB l D b0 ad Hb tau) mt_9 (d + 1) 63 [some (.ref 7), some (.ref 19), some (xI w8_2), some (xI w8_3), some (xI w8_4), some (xI w2_5)] [] h Post := by
              intro w8_2 w8_3 w8_4 f8_0 f8_1 f8_2 f8_3 f8_4
              refine Jiinc (z := w2_5) (cz := (-1)) (ls2 := [some (.ref 7), some (.ref 19), some (xI w8_2), some (xI w8_3), some (xI w8_4), some (xI (w2_5 + (-1)))]) (show mx_Sn _ _ 63 (mx_iinc 5 (-1) 66) from sn_9 63) rfl rfl rfl rfl ?_
              refine mx_J.step (sn_9 66) (fun _ _ => rfl) ?_
              exact ih2 w8_2 w8_3 w8_4 (w2_5 + (-1)) (by omega) (by omega) (by omega) (by omega) (by omega) (by omega) (by omega)
            refine Jif_le (show mx_Sn _ _ 28 (mx_if_le 63 31) from sn_9 28) (by omega) (fun q9 => ?_) (fun q9 => ?_)
            · skip
              exact c63 w2_2 w2_3 w2_4 (by omega) (by omega) (by omega) (by omega) (by omega)
            · skip
              refine mx_J.step (sn_9 31) (fun _ _ => rfl) ?_
              refine mx_J.step (sn_9 32) (fun _ _ => rfl) ?_
              refine mx_J.step (sn_9 33) (fun _ _ => rfl) ?_
              refine mx_J.step (sn_9 34) (fun _ _ => rfl) ?_
              obtain ⟨z10, hc10, b10⟩ := ct_2_7 (d := d + 0) (l := l) (D := D) (b0 := b0) (ad := ad) (Hb := Hb) (tau := tau) hx hG (show 0 ≤ w2_3 ∧ w2_3 ≤ 18 by omega) (show 0 ≤ w2_4 ∧ w2_4 ≤ 18 by omega)
              refine Jcv hx (show mx_Sn _ _ 36 (mx_callv 2 3 0 39) from sn_9 36) a7 s7 hc10 rfl rfl rfl ?_
              refine mx_J.step (sn_9 39) (fun _ _ => rfl) ?_
              refine mx_J.step (sn_9 40) (fun _ _ => rfl) ?_
              refine mx_J.step (sn_9 41) (fun _ _ => rfl) ?_
              obtain ⟨z11, hc11, b11⟩ := ct_2_7 (d := d + 0) (l := l) (D := D) (b0 := b0) (ad := ad) (Hb := Hb) (tau := tau) hx hG (show 0 ≤ w2_3 ∧ w2_3 ≤ 18 by omega) (show 0 ≤ w2_5 ∧ w2_5 ≤ 18 by omega)
              refine Jcv hx (show mx_Sn _ _ 43 (mx_callv 2 3 0 46) from sn_9 43) a7 s7 hc11 rfl rfl rfl ?_
              refine Jisub (show mx_Sn _ _ 46 (mx_isub 47) from sn_9 46) ?_
              refine Jiadd (show mx_Sn _ _ 47 (mx_iadd 48) from sn_9 47) ?_
              refine mx_J.step (ls2 := [some (.ref 7), some (.ref 19), some (xI (w2_2 + (z10 - z11))), some (xI w2_3), some (xI w2_4), some (xI w2_5)]) (sn_9 48) (fun _ _ => rfl) ?_
              refine mx_J.step (sn_9 49) (fun _ _ => rfl) ?_
              refine mx_J.step (sn_9 50) (fun _ _ => rfl) ?_
              refine mx_J.step (sn_9 52) (fun _ _ => rfl) ?_
              refine mx_J.step (sn_9 53) (fun _ _ => rfl) ?_
              have b12 : (-40) ≤ Z 19 w2_5 ∧ Z 19 w2_5 ≤ 40 := m19 w2_5 (by omega) (by omega)
              have b13 : (-2147483648) ≤ Z 19 w2_5 ∧ Z 19 w2_5 ≤ 2147483647 := hG.pr 19 w2_5
              refine JialdI (z := Z 19 w2_5) hx (show mx_Sn _ _ 55 (mx_iald 56) from sn_9 55) a19 s19 (by omega) rfl ?_
              refine JimulP (A := 18) (C := 40) (show mx_Sn _ _ 56 (mx_imul 57) from sn_9 56) (by omega) (by omega) (by decide) (fun y14 hy14 => ?_)
              refine Jisub (show mx_Sn _ _ 57 (mx_isub 58) from sn_9 57) ?_
              have wa := W1 (n := w2_3) (m := w2_5) (by omega) (by omega)
              have wb : (w2_3 - y14) < 0 ∨ wy ((w2_3 - y14) * 19 + w2_5) ≤ wy (w2_3 * 19 + w2_5) := W2 (by omega) (by omega)
              have wc : wy (w2_3 * 19 + w2_5) ≤ wy (w2_3 * 19 + w2_4) := W3 (by omega) (by omega)
              refine mx_J.step (ls2 := [some (.ref 7), some (.ref 19), some (xI (w2_2 + (z10 - z11))), some (xI (w2_3 - y14)), some (xI w2_4), some (xI w2_5)]) (sn_9 58) (fun _ _ => rfl) ?_
              refine mx_J.step (sn_9 59) (fun _ _ => rfl) ?_
              refine mx_J.step (ls2 := [some (.ref 7), some (.ref 19), some (xI (w2_2 + (z10 - z11))), some (xI (w2_3 - y14)), some (xI w2_5), some (xI w2_5)]) (sn_9 61) (fun _ _ => rfl) ?_
              exact c63 (w2_2 + (z10 - z11)) (w2_3 - y14) w2_5 (by omega) (by omega) (by omega) (by omega) (by omega)
    exact c15 (Int.toNat (18 - 0) + 1) 0 (Z 7 4) 18 18 (by omega) (by omega) (by omega) (by omega) (by omega) (by omega) (by omega)
theorem ct_9_7_19 {l : Launch} {D : va_G} {b0 : Nat} {ad : Nat → Nat} {Hb : Heap} {tau : Nat → Int64} {d n s : Nat} {S : Nat → xS} {Z : xZ} {h : mx_H} (hx : XH n s S Z h) (hG : GI n S Z) (m19 : AB Z 19 19 (-40) 40) : ∃ z : Int, mx_Ca (tB l D b0 ad Hb tau) (d + 2) 9 [.ref 7, .ref 19] h (some (xI z), h) ∧ (0 ≤ z ∧ z ≤ 384) := by
  obtain ⟨r, hca, z, e, hp⟩ := Jmt (B := tB l D b0 ad Hb tau) (M := mt_9) (mi := 9) (as := [.ref 7, .ref 19]) (d := d + 1) (ls := [some (.ref 7), some (.ref 19), none, none, none, none]) rfl rfl rfl rfl rfl rfl (cw_9_7_19 (l := l) (D := D) (b0 := b0) (ad := ad) (Hb := Hb) (tau := tau) (d := d) (Post := fun r => ∃ z : Int, r = (some (xI z), h) ∧ (0 ≤ z ∧ z ≤ 384)) hx hG m19 (fun z hz => ⟨z, rfl, hz⟩))
  subst e; exact ⟨z, hca, hp⟩
set_option maxRecDepth 100000 in
theorem cw_8_7_42 {l : Launch} {D : va_G} {b0 : Nat} {ad : Nat → Nat} {Hb : Heap} {tau : Nat → Int64} {d n s : Nat} {S : Nat → xS} {Z : xZ} {h : mx_H} {Post : mx_R → Prop} (hx : XH n s S Z h) (hG : GI n S Z) {x0 : Int} (p0 : (-2147483648) ≤ x0 ∧ x0 ≤ 2147483647) (hP : ∀ (Z' : xZ) (h' : mx_H), XH n s S Z' h' → GI n S Z' → fr' [(42, (-1))] Z Z' → AB Z' 42 19 0 18 → Post (none, h')) : mx_J (tB l D b0 ad Hb tau) mt_8 (d + 1) 0 [some (.ref 7), some (xI x0), some (.ref 42), none, none] [] h Post := by
    have a7 : 7 < n := lt83 hG.1 rfl
    have s7 : S 7 = .inl (0, [2, 2, 2, 2, 0, 0]) := hG.2.1 7 rfl
    have a9 : 9 < n := lt83 hG.1 rfl
    have s9 : S 9 = .inr (.byte, 6930, 0) := hG.2.1 9 rfl
    have a42 : 42 < n := lt83 hG.1 rfl
    have s42 : S 42 = .inr (.int, 19, 0) := hG.2.1 42 rfl
    refine mx_J.step (sn_8 0) (fun _ _ => rfl) ?_
    refine JcI (z := 0) (show mx_Sn _ _ 1 (mx_const (.int 0) 2) from sn_8 1) rfl ?_
    obtain ⟨Z1, h1, hc1, hx1, hG1, hf1, m1_42⟩ := ct_284_42_i0 (d := d + 0) (l := l) (D := D) (b0 := b0) (ad := ad) (Hb := Hb) (tau := tau) hx hG 
    refine Jcs0 (show mx_Sn _ _ 2 (mx_calls 284 2 5) from sn_8 2) hc1 rfl rfl rfl ?_
    refine mx_J.step (sn_8 5) (fun _ _ => rfl) ?_
    refine mx_J.step (sn_8 6) (fun _ _ => rfl) ?_
    obtain ⟨z2, hc2, b2⟩ := ct_5_7 (d := d + 0) (l := l) (D := D) (b0 := b0) (ad := ad) (Hb := Hb) (tau := tau) hx1 hG1 (show (-2147483648) ≤ x0 ∧ x0 ≤ 2147483647 by omega)
    have eq3 : Z1 7 5 = Z 7 5 := (hf1 7 5 rfl)
    have eq4 : Z1 10 x0 = Z 10 x0 := (hf1 10 x0 rfl)
    refine Jcv hx1 (show mx_Sn _ _ 7 (mx_callv 5 2 0 10) from sn_8 7) a7 s7 hc2 rfl rfl rfl ?_
    refine mx_J.step (ls2 := [some (.ref 7), some (xI x0), some (.ref 42), some (xI z2), none]) (sn_8 10) (fun _ _ => rfl) ?_
    refine JcI (z := 0) (show mx_Sn _ _ 11 (mx_const (.int 0) 12) from sn_8 11) rfl ?_
    refine mx_J.step (ls2 := [some (.ref 7), some (xI x0), some (.ref 42), some (xI z2), some (xI 0)]) (sn_8 12) (fun _ _ => rfl) ?_
    have c14 : ∀ (m5 : Nat) (w5_4 : Int) (Z6 : xZ) (h6 : mx_H), 18 - w5_4 < (m5 : Int) → 0 ≤ w5_4 ∧ w5_4 ≤ 18 → AB Z6 42 (19) (0) (w5_4) → XH n s S Z6 h6 → GI n S Z6 → fr' [(42, (-1))] Z1 Z6 → mx_J (tB l D b0 ad Hb tau) mt_8 (d + 1) 14 [some (.ref 7), some (xI x0), some (.ref 42), some (xI z2), some (xI w5_4)] [] h6 Post := by
      intro m5
      induction m5 with
      | zero => intro w5_4 Z6 h6 q5 f5_0 f5_1 hx6 hG6 hf6; exact absurd q5 (by omega)
      | succ m5 ih5 =>
        intro w5_4 Z6 h6 q5 f5_0 f5_1 hx6 hG6 hf6
        refine mx_J.step (sn_8 14) (fun _ _ => rfl) ?_
        refine mx_J.step (sn_8 16) (fun _ _ => rfl) ?_
        refine Jicmp_ge (show mx_Sn _ _ 17 (mx_icmp_ge 44 20) from sn_8 17) (by omega) (by omega) (fun q7 => ?_) (fun q7 => ?_)
        · skip
          exact mx_J.ret (sn_8 44) (fun _ _ => rfl) (hP Z6 h6 hx6 hG6 (fr_tr (M := [(42, (-1))]) (fr_tr (M := [(42, (-1))]) fr_rf (hf1) (M1 := []) rfl rfl) (hf6) rfl rfl) (ab_mono f5_1 (by omega) (by omega) (by omega)))
        · skip
          refine mx_J.step (sn_8 20) (fun _ _ => rfl) ?_
          refine mx_J.step (sn_8 21) (fun _ _ => rfl) ?_
          refine JgetR (g := 1) (b := 9) hx6 (show mx_Sn _ _ 22 (mx_getf 0 1 25) from sn_8 22) a7 s7 rfl rfl (hG6.prr 7 1 rfl) ?_
          refine mx_J.step (sn_8 25) (fun _ _ => rfl) ?_
          refine JcI (z := 18) (show mx_Sn _ _ 26 (mx_const (.int 18) 28) from sn_8 26) rfl ?_
          refine Jimul (show mx_Sn _ _ 28 (mx_imul 29) from sn_8 28) ?_
          refine mx_J.step (sn_8 29) (fun _ _ => rfl) ?_
          refine Jiadd (show mx_Sn _ _ 31 (mx_iadd 32) from sn_8 31) ?_
          have b8 : 0 ≤ Z 9 ((x0 * 18) + w5_4) ∧ Z 9 ((x0 * 18) + w5_4) ≤ 18 := hG.pr 9 ((x0 * 18) + w5_4)
          refine JbaldI (z := Z 9 ((x0 * 18) + w5_4)) hx6 (show mx_Sn _ _ 32 (mx_bald 33) from sn_8 32) a9 s9 (by omega) ((hf6 9 ((x0 * 18) + w5_4) rfl).trans (hf1 9 ((x0 * 18) + w5_4) rfl)) ?_
          refine mx_J.step (sn_8 33) (fun _ _ => rfl) ?_
          have b9 : 0 ≤ Z6 42 (Z 9 ((x0 * 18) + w5_4)) ∧ Z6 42 (Z 9 ((x0 * 18) + w5_4)) ≤ w5_4 := f5_1 (Z 9 ((x0 * 18) + w5_4)) (by omega) (by omega)
          have b10 : (-2147483648) ≤ Z6 42 (Z 9 ((x0 * 18) + w5_4)) ∧ Z6 42 (Z 9 ((x0 * 18) + w5_4)) ≤ 2147483647 := hG6.pr 42 (Z 9 ((x0 * 18) + w5_4))
          refine JialdI (z := Z6 42 (Z 9 ((x0 * 18) + w5_4))) hx6 (show mx_Sn _ _ 34 (mx_iald 35) from sn_8 34) a42 s42 (by omega) rfl ?_
          refine JcI (z := 1) (show mx_Sn _ _ 35 (mx_const (.int 1) 36) from sn_8 35) rfl ?_
          refine Jiadd (show mx_Sn _ _ 36 (mx_iadd 37) from sn_8 36) ?_
          refine JiastI hx6 (show mx_Sn _ _ 37 (mx_iast 1 38) from sn_8 37) a42 s42 rfl (by omega) (fun Z11 h11 hx11 hE11 => ?_)
          have hG11 := GI_up hG6 hE11 (show (-2147483648) ≤ (Z6 42 (Z 9 ((x0 * 18) + w5_4))) + 1 ∧ (Z6 42 (Z 9 ((x0 * 18) + w5_4))) + 1 ≤ 2147483647 by omega) trivial rfl
          have m11 : AB Z11 42 19 0 (w5_4 + 1) := ab_up hE11 f5_1 (by omega) (by omega) (by omega)
          refine Jiinc (z := w5_4) (cz := 1) (ls2 := [some (.ref 7), some (xI x0), some (.ref 42), some (xI z2), some (xI (w5_4 + 1))]) (show mx_Sn _ _ 38 (mx_iinc 4 1 41) from sn_8 38) rfl rfl rfl rfl ?_
          refine mx_J.step (sn_8 41) (fun _ _ => rfl) ?_
          exact ih5 (w5_4 + 1) Z11 h11 (by omega) (by omega) (ab_mono m11 (by omega) (by omega) (by omega)) hx11 hG11 (fr_tr (M := [(42, (-1))]) (fr_tr (M := [(42, (-1))]) fr_rf (hf6) (M1 := []) rfl rfl) (fr_ua hE11) rfl rfl)
    exact c14 (Int.toNat (18 - 0) + 1) 0 Z1 h1 (by omega) (by omega) (ab_mono m1_42 (by omega) (by omega) (by omega)) hx1 hG1 fr_rf
theorem ct_8_7_42 {l : Launch} {D : va_G} {b0 : Nat} {ad : Nat → Nat} {Hb : Heap} {tau : Nat → Int64} {d n s : Nat} {S : Nat → xS} {Z : xZ} {h : mx_H} (hx : XH n s S Z h) (hG : GI n S Z) {x0 : Int} (p0 : (-2147483648) ≤ x0 ∧ x0 ≤ 2147483647) : ∃ (Z' : xZ) (h' : mx_H), mx_Ca (tB l D b0 ad Hb tau) (d + 2) 8 [.ref 7, xI x0, .ref 42] h (none, h') ∧ XH n s S Z' h' ∧ GI n S Z' ∧ fr' [(42, (-1))] Z Z' ∧ (AB Z' 42 19 0 18) := by
  obtain ⟨r, hca, Z', h', e, q⟩ := Jmt (B := tB l D b0 ad Hb tau) (M := mt_8) (mi := 8) (as := [.ref 7, xI x0, .ref 42]) (d := d + 1) (ls := [some (.ref 7), some (xI x0), some (.ref 42), none, none]) rfl rfl rfl rfl rfl rfl (cw_8_7_42 (l := l) (D := D) (b0 := b0) (ad := ad) (Hb := Hb) (tau := tau) (d := d) (Post := fun r => ∃ (Z' : xZ) (h' : mx_H), r = (none, h') ∧ XH n s S Z' h' ∧ GI n S Z' ∧ fr' [(42, (-1))] Z Z' ∧ (AB Z' 42 19 0 18)) hx hG p0 (fun Z' h' q1 q2 q3 q5_42 => ⟨Z', h', rfl, q1, q2, q3, q5_42⟩))
  subst e; exact ⟨Z', h', hca, q⟩
set_option maxRecDepth 100000 in
theorem cw_29_12 {l : Launch} {D : va_G} {b0 : Nat} {ad : Nat → Nat} {Hb : Heap} {tau : Nat → Int64} {d n s : Nat} {S : Nat → xS} {Z : xZ} {h : mx_H} {Post : mx_R → Prop} (hx : XH n s S Z h) (hG : GI n S Z) {x0 x1 : Int} (p0 : (-2147483648) ≤ x0 ∧ x0 ≤ 2147483647) (p1 : (-2147483648) ≤ x1 ∧ x1 ≤ 2147483647) (hP : ∀ (z : Int) (Z' : xZ) (h' : mx_H), XH n s S Z' h' → GI n S Z' → fr' [(16, (-1)), (17, (-1)), (18, (-1)), (19, (-1))] Z Z' → 0 ≤ z ∧ z ≤ 384 → Post (some (xI z), h')) : mx_J (tB l D b0 ad Hb tau) mt_29 (d + 6) 0 [some (.ref 12), some (xI x0), some (xI x1), none, none, none, none, none] [] h Post := by
    have a7 : 7 < n := lt83 hG.1 rfl
    have s7 : S 7 = .inl (0, [2, 2, 2, 2, 0, 0]) := hG.2.1 7 rfl
    have a12 : 12 < n := lt83 hG.1 rfl
    have s12 : S 12 = .inl (4, [2, 2, 0, 2, 2, 2, 2, 2, 2]) := hG.2.1 12 rfl
    have a19 : 19 < n := lt83 hG.1 rfl
    have s19 : S 19 = .inr (.int, 19, 0) := hG.2.1 19 rfl
    refine mx_J.step (sn_29 0) (fun _ _ => rfl) ?_
    refine JgetR (g := 8) (b := 19) hx (show mx_Sn _ _ 1 (mx_getf 4 8 4) from sn_29 1) a12 s12 rfl rfl (hG.prr 12 8 rfl) ?_
    refine JcI (z := 0) (show mx_Sn _ _ 4 (mx_const (.int 0) 5) from sn_29 4) rfl ?_
    obtain ⟨Z1, h1, hc1, hx1, hG1, hf1, m1_19⟩ := ct_284_19_i0 (d := d + 5) (l := l) (D := D) (b0 := b0) (ad := ad) (Hb := Hb) (tau := tau) hx hG 
    refine Jcs0 (show mx_Sn _ _ 5 (mx_calls 284 2 8) from sn_29 5) hc1 rfl rfl rfl ?_
    refine mx_J.step (sn_29 8) (fun _ _ => rfl) ?_
    refine JgetR (g := 0) (b := 7) hx1 (show mx_Sn _ _ 9 (mx_getf 4 0 12) from sn_29 9) a12 s12 rfl rfl (hG1.prr 12 0 rfl) ?_
    refine mx_J.step (sn_29 12) (fun _ _ => rfl) ?_
    obtain ⟨z2, hc2, b2⟩ := ct_5_7 (d := d + 5) (l := l) (D := D) (b0 := b0) (ad := ad) (Hb := Hb) (tau := tau) hx1 hG1 (show (-2147483648) ≤ x0 ∧ x0 ≤ 2147483647 by omega)
    have eq3 : Z1 7 5 = Z 7 5 := (hf1 7 5 rfl)
    have eq4 : Z1 10 x0 = Z 10 x0 := (hf1 10 x0 rfl)
    refine Jcv hx1 (show mx_Sn _ _ 13 (mx_callv 5 2 0 16) from sn_29 13) a7 s7 hc2 rfl rfl rfl ?_
    refine mx_J.step (ls2 := [some (.ref 12), some (xI x0), some (xI x1), some (xI z2), none, none, none, none]) (sn_29 16) (fun _ _ => rfl) ?_
    refine JcI (z := 0) (show mx_Sn _ _ 17 (mx_const (.int 0) 18) from sn_29 17) rfl ?_
    refine mx_J.step (ls2 := [some (.ref 12), some (xI x0), some (xI x1), some (xI z2), some (xI 0), none, none, none]) (sn_29 18) (fun _ _ => rfl) ?_
    have pz : ps Z x0 0 = 0 := ps_0
    refine JcI (z := 0) (show mx_Sn _ _ 20 (mx_const (.int 0) 21) from sn_29 20) rfl ?_
    refine mx_J.step (ls2 := [some (.ref 12), some (xI x0), some (xI x1), some (xI z2), some (xI 0), some (xI 0), none, none]) (sn_29 21) (fun _ _ => rfl) ?_
    have c23 : ∀ (m5 : Nat) (w5_4 : Int) (w5_5 : Int) (u5_6 : Option Value) (u5_7 : Option Value) (Z6 : xZ) (h6 : mx_H), 18 - w5_5 < (m5 : Int) → 0 ≤ w5_4 ∧ w5_4 ≤ 18 → 0 ≤ w5_5 ∧ w5_5 ≤ 18 → w5_4 ≤ ps Z x0 w5_5 → w5_5 ≤ z2 → AB Z6 19 (19) (0) (w5_5) → XH n s S Z6 h6 → GI n S Z6 → fr' [(16, (-1)), (17, (-1)), (18, (-1)), (19, (-1))] Z1 Z6 → mx_J (tB l D b0 ad Hb tau) mt_29 (d + 6) 23 [some (.ref 12), some (xI x0), some (xI x1), some (xI z2), some (xI w5_4), some (xI w5_5), u5_6, u5_7] [] h6 Post := by
      intro m5
      induction m5 with
      | zero => intro w5_4 w5_5 u5_6 u5_7 Z6 h6 q5 f5_0 f5_1 f5_2 f5_3 f5_4 hx6 hG6 hf6; exact absurd q5 (by omega)
      | succ m5 ih5 =>
        intro w5_4 w5_5 u5_6 u5_7 Z6 h6 q5 f5_0 f5_1 f5_2 f5_3 f5_4 hx6 hG6 hf6
        refine mx_J.step (sn_29 23) (fun _ _ => rfl) ?_
        refine mx_J.step (sn_29 25) (fun _ _ => rfl) ?_
        refine Jicmp_ge (show mx_Sn _ _ 26 (mx_icmp_ge 89 29) from sn_29 26) (by omega) (by omega) (fun q7 => ?_) (fun q7 => ?_)
        · skip
          refine mx_J.step (sn_29 89) (fun _ _ => rfl) ?_
          refine JgetR (g := 8) (b := 19) hx6 (show mx_Sn _ _ 90 (mx_getf 4 8 93) from sn_29 90) a12 s12 rfl rfl (hG6.prr 12 8 rfl) ?_
          refine mx_J.step (sn_29 93) (fun _ _ => rfl) ?_
          refine mx_J.step (sn_29 95) (fun _ _ => rfl) ?_
          have b8 : 0 ≤ Z6 19 w5_4 ∧ Z6 19 w5_4 ≤ w5_5 := f5_4 w5_4 (by omega) (by omega)
          have b9 : (-2147483648) ≤ Z6 19 w5_4 ∧ Z6 19 w5_4 ≤ 2147483647 := hG6.pr 19 w5_4
          refine JialdI (z := Z6 19 w5_4) hx6 (show mx_Sn _ _ 96 (mx_iald 97) from sn_29 96) a19 s19 (by omega) rfl ?_
          refine JcI (z := 1) (show mx_Sn _ _ 97 (mx_const (.int 1) 98) from sn_29 97) rfl ?_
          refine Jiadd (show mx_Sn _ _ 98 (mx_iadd 99) from sn_29 98) ?_
          refine JiastI hx6 (show mx_Sn _ _ 99 (mx_iast 1 100) from sn_29 99) a19 s19 rfl (by omega) (fun Z10 h10 hx10 hE10 => ?_)
          have hG10 := GI_up hG6 hE10 (show (-2147483648) ≤ (Z6 19 w5_4) + 1 ∧ (Z6 19 w5_4) + 1 ≤ 2147483647 by omega) trivial rfl
          have m10 : AB Z10 19 19 0 (w5_5 + 1) := ab_up hE10 f5_4 (by omega) (by omega) (by omega)
          refine mx_J.step (sn_29 100) (fun _ _ => rfl) ?_
          refine JgetR (g := 0) (b := 7) hx10 (show mx_Sn _ _ 101 (mx_getf 4 0 104) from sn_29 101) a12 s12 rfl rfl (hG10.prr 12 0 rfl) ?_
          refine mx_J.step (sn_29 104) (fun _ _ => rfl) ?_
          refine JgetR (g := 8) (b := 19) hx10 (show mx_Sn _ _ 105 (mx_getf 4 8 108) from sn_29 105) a12 s12 rfl rfl (hG10.prr 12 8 rfl) ?_
          obtain ⟨z11, hc11, b11⟩ := ct_9_7_19 (d := d + 4) (l := l) (D := D) (b0 := b0) (ad := ad) (Hb := Hb) (tau := tau) hx10 hG10  (ab_mono m10 (by omega) (by omega) (by omega))
          refine Jcv hx10 (show mx_Sn _ _ 108 (mx_callv 9 2 0 111) from sn_29 108) a7 s7 hc11 rfl rfl rfl ?_
          exact mx_J.ret (sn_29 111) (fun _ _ => rfl) (hP z11 Z10 h10 hx10 hG10 (fr_tr (M := [(16, (-1)), (17, (-1)), (18, (-1)), (19, (-1))]) (fr_tr (M := [(16, (-1)), (17, (-1)), (18, (-1)), (19, (-1))]) (fr_tr (M := [(16, (-1)), (17, (-1)), (18, (-1)), (19, (-1))]) fr_rf (hf1) (M1 := []) rfl rfl) (hf6) rfl rfl) (fr_ua hE10) rfl rfl) (by omega))
        · skip
          refine mx_J.step (sn_29 29) (fun _ _ => rfl) ?_
          refine JgetR (g := 0) (b := 7) hx6 (show mx_Sn _ _ 30 (mx_getf 4 0 33) from sn_29 30) a12 s12 rfl rfl (hG6.prr 12 0 rfl) ?_
          refine mx_J.step (sn_29 33) (fun _ _ => rfl) ?_
          refine mx_J.step (sn_29 34) (fun _ _ => rfl) ?_
          obtain ⟨z12, hc12, b12⟩ := ct_6_7 (d := d + 4) (l := l) (D := D) (b0 := b0) (ad := ad) (Hb := Hb) (tau := tau) hx6 hG6 (show (-2147483648) ≤ x0 ∧ x0 ≤ 2147483647 by omega) (show (-2147483648) ≤ w5_5 ∧ w5_5 ≤ 2147483647 by omega)
          have eq13 : Z6 9 (x0 * 18 + w5_5) = Z 9 (x0 * 18 + w5_5) := ((hf6 9 (x0 * 18 + w5_5) rfl).trans (hf1 9 (x0 * 18 + w5_5) rfl))
          refine Jcv hx6 (show mx_Sn _ _ 36 (mx_callv 6 3 0 39) from sn_29 36) a7 s7 hc12 rfl rfl rfl ?_
          refine mx_J.step (ls2 := [some (.ref 12), some (xI x0), some (xI x1), some (xI z2), some (xI w5_4), some (xI w5_5), some (xI z12), u5_7]) (sn_29 39) (fun _ _ => rfl) ?_
          refine mx_J.step (sn_29 41) (fun _ _ => rfl) ?_
          refine mx_J.step (sn_29 43) (fun _ _ => rfl) ?_
          have c60 : ∀ (k14_0 : Int) (Z15 : xZ) (h15 : mx_H), 0 ≤ k14_0 ∧ k14_0 ≤ 18 → k14_0 ≤ z12 → XH n s S Z15 h15 → GI n S Z15 → fr' [(16, (-1)), (17, (-1)), (18, (-1))] Z6 Z15 → mx_J (tB l D b0 ad Hb tau) mt_29 (d + 6) 60 [some (.ref 12), some (xI x0), some (xI x1), some (xI z2), some (xI w5_4), some (xI w5_5), some (xI z12), u5_7] [xI k14_0] h15 Post := by
            intro k14_0 Z15 h15 f14_0 f14_1 hx15 hG15 hf15
            refine mx_J.step (ls2 := [some (.ref 12), some (xI x0), some (xI x1), some (xI z2), some (xI w5_4), some (xI w5_5), some (xI z12), some (xI k14_0)]) (sn_29 60) (fun _ _ => rfl) ?_
            have pw : 0 ≤ Z 9 (x0 * 18 + w5_5) ∧ Z 9 (x0 * 18 + w5_5) ≤ 18 := hG.pr 9 (x0 * 18 + w5_5)
            have px := ps_s (Z := Z) (t := x0) (p := w5_5) (by omega)
            have py : ps Z x0 (w5_5 + 1) ≤ 18 := hG.2.2.2.2 x0 (w5_5 + 1) (by omega) (by omega) (by omega) (by omega)
            refine mx_J.step (sn_29 62) (fun _ _ => rfl) ?_
            refine mx_J.step (sn_29 64) (fun _ _ => rfl) ?_
            refine Jiadd (show mx_Sn _ _ 66 (mx_iadd 67) from sn_29 66) ?_
            refine mx_J.step (ls2 := [some (.ref 12), some (xI x0), some (xI x1), some (xI z2), some (xI (w5_4 + k14_0)), some (xI w5_5), some (xI z12), some (xI k14_0)]) (sn_29 67) (fun _ _ => rfl) ?_
            refine mx_J.step (sn_29 69) (fun _ _ => rfl) ?_
            refine JgetR (g := 8) (b := 19) hx15 (show mx_Sn _ _ 70 (mx_getf 4 8 73) from sn_29 70) a12 s12 rfl rfl (hG15.prr 12 8 rfl) ?_
            refine mx_J.step (sn_29 73) (fun _ _ => rfl) ?_
            refine mx_J.step (sn_29 75) (fun _ _ => rfl) ?_
            refine Jisub (show mx_Sn _ _ 77 (mx_isub 78) from sn_29 77) ?_
            refine mx_J.step (sn_29 78) (fun _ _ => rfl) ?_
            have b16 : 0 ≤ Z6 19 (z12 - k14_0) ∧ Z6 19 (z12 - k14_0) ≤ w5_5 := f5_4 (z12 - k14_0) (by omega) (by omega)
            have b17 : (-2147483648) ≤ Z6 19 (z12 - k14_0) ∧ Z6 19 (z12 - k14_0) ≤ 2147483647 := hG6.pr 19 (z12 - k14_0)
            refine JialdI (z := Z6 19 (z12 - k14_0)) hx15 (show mx_Sn _ _ 79 (mx_iald 80) from sn_29 79) a19 s19 (by omega) (hf15 19 (z12 - k14_0) rfl) ?_
            refine JcI (z := 1) (show mx_Sn _ _ 80 (mx_const (.int 1) 81) from sn_29 80) rfl ?_
            refine Jiadd (show mx_Sn _ _ 81 (mx_iadd 82) from sn_29 81) ?_
            refine JiastI hx15 (show mx_Sn _ _ 82 (mx_iast 1 83) from sn_29 82) a19 s19 rfl (by omega) (fun Z18 h18 hx18 hE18 => ?_)
            have hG18 := GI_up hG15 hE18 (show (-2147483648) ≤ (Z6 19 (z12 - k14_0)) + 1 ∧ (Z6 19 (z12 - k14_0)) + 1 ≤ 2147483647 by omega) trivial rfl
            have m19 : AB Z15 19 19 0 w5_5 := ab_fr f5_4 hf15 (fun _ => rfl)
            have m18 : AB Z18 19 19 0 (w5_5 + 1) := ab_up hE18 m19 (by omega) (by omega) (by omega)
            refine Jiinc (z := w5_5) (cz := 1) (ls2 := [some (.ref 12), some (xI x0), some (xI x1), some (xI z2), some (xI (w5_4 + k14_0)), some (xI (w5_5 + 1)), some (xI z12), some (xI k14_0)]) (show mx_Sn _ _ 83 (mx_iinc 5 1 86) from sn_29 83) rfl rfl rfl rfl ?_
            refine mx_J.step (sn_29 86) (fun _ _ => rfl) ?_
            exact ih5 (w5_4 + k14_0) (w5_5 + 1) (some (xI z12)) (some (xI k14_0)) Z18 h18 (by omega) (by omega) (by omega) (by omega) (by omega) (ab_mono m18 (by omega) (by omega) (by omega)) hx18 hG18 (fr_tr (M := [(16, (-1)), (17, (-1)), (18, (-1)), (19, (-1))]) (fr_tr (M := [(16, (-1)), (17, (-1)), (18, (-1)), (19, (-1))]) (fr_tr (M := [(16, (-1)), (17, (-1)), (18, (-1)), (19, (-1))]) fr_rf (hf6) (M1 := []) rfl rfl) (hf15) rfl rfl) (fr_ua hE18) rfl rfl)
          refine Jicmp_ne (show mx_Sn _ _ 44 (mx_icmp_ne 51 47) from sn_29 44) (by omega) (by omega) (fun q20 => ?_) (fun q20 => ?_)
          · skip
            refine mx_J.step (sn_29 51) (fun _ _ => rfl) ?_
            refine mx_J.step (sn_29 52) (fun _ _ => rfl) ?_
            refine mx_J.step (sn_29 54) (fun _ _ => rfl) ?_
            refine mx_J.step (sn_29 56) (fun _ _ => rfl) ?_
            obtain ⟨z21, Z21, h21, hc21, hx21, hG21, hf21, b21⟩ := ct_30_12 (d := d + 0) (l := l) (D := D) (b0 := b0) (ad := ad) (Hb := Hb) (tau := tau) hx6 hG6 (show 0 ≤ z12 ∧ z12 ≤ 18 by omega) (show 0 ≤ w5_5 ∧ w5_5 ≤ 17 by omega) (show 0 ≤ z2 ∧ z2 ≤ 18 by omega)
            refine Jcv hx6 (show mx_Sn _ _ 57 (mx_callv 30 4 4 60) from sn_29 57) a12 s12 hc21 rfl rfl rfl ?_
            exact c60 z21 Z21 h21 (by omega) (by omega) hx21 hG21 (fr_tr (M := [(16, (-1)), (17, (-1)), (18, (-1))]) fr_rf (hf21) (M1 := []) rfl rfl)
          · skip
            refine JcI (z := 0) (show mx_Sn _ _ 47 (mx_const (.int 0) 48) from sn_29 47) rfl ?_
            refine mx_J.step (sn_29 48) (fun _ _ => rfl) ?_
            exact c60 0 Z6 h6 (by omega) (by omega) hx6 hG6 fr_rf
    exact c23 (Int.toNat (18 - 0) + 1) 0 0 none none Z1 h1 (by omega) (by omega) (by omega) (by omega) (by omega) (ab_mono m1_19 (by omega) (by omega) (by omega)) hx1 hG1 fr_rf
theorem ct_29_12 {l : Launch} {D : va_G} {b0 : Nat} {ad : Nat → Nat} {Hb : Heap} {tau : Nat → Int64} {d n s : Nat} {S : Nat → xS} {Z : xZ} {h : mx_H} (hx : XH n s S Z h) (hG : GI n S Z) {x0 x1 : Int} (p0 : (-2147483648) ≤ x0 ∧ x0 ≤ 2147483647) (p1 : (-2147483648) ≤ x1 ∧ x1 ≤ 2147483647) : ∃ (z : Int) (Z' : xZ) (h' : mx_H), mx_Ca (tB l D b0 ad Hb tau) (d + 7) 29 [.ref 12, xI x0, xI x1] h (some (xI z), h') ∧ XH n s S Z' h' ∧ GI n S Z' ∧ fr' [(16, (-1)), (17, (-1)), (18, (-1)), (19, (-1))] Z Z' ∧ (0 ≤ z ∧ z ≤ 384) := by
  obtain ⟨r, hca, z, Z', h', e, q⟩ := Jmt (B := tB l D b0 ad Hb tau) (M := mt_29) (mi := 29) (as := [.ref 12, xI x0, xI x1]) (d := d + 6) (ls := [some (.ref 12), some (xI x0), some (xI x1), none, none, none, none, none]) rfl rfl rfl rfl rfl rfl (cw_29_12 (l := l) (D := D) (b0 := b0) (ad := ad) (Hb := Hb) (tau := tau) (d := d) (Post := fun r => ∃ (z : Int) (Z' : xZ) (h' : mx_H), r = (some (xI z), h') ∧ XH n s S Z' h' ∧ GI n S Z' ∧ fr' [(16, (-1)), (17, (-1)), (18, (-1)), (19, (-1))] Z Z' ∧ (0 ≤ z ∧ z ≤ 384)) hx hG p0 p1 (fun z Z' h' q1 q2 q3 q4 => ⟨z, Z', h', rfl, q1, q2, q3, q4⟩))
  subst e; exact ⟨z, Z', h', hca, q⟩
set_option maxRecDepth 100000 in
theorem cw_26_12 {l : Launch} {D : va_G} {b0 : Nat} {ad : Nat → Nat} {Hb : Heap} {tau : Nat → Int64} {d n s : Nat} {S : Nat → xS} {Z : xZ} {h : mx_H} {Post : mx_R → Prop} (hx : XH n s S Z h) (hG : GI n S Z) {x0 x1 : Int} (p0 : (-2147483648) ≤ x0 ∧ x0 ≤ 2147483647) (p1 : (-2147483648) ≤ x1 ∧ x1 ≤ 2147483647) (hP : ∀ (z : Int) (Z' : xZ) (h' : mx_H), XH n s S Z' h' → GI n S Z' → fr' [(14, (-1)), (16, (-1)), (17, (-1)), (18, (-1)), (19, (-1))] Z Z' → (-1) ≤ z ∧ z ≤ 384 → Post (some (xI z), h')) : mx_J (tB l D b0 ad Hb tau) mt_26 (d + 7) 0 [some (.ref 12), some (xI x0), some (xI x1), none, none, none] [] h Post := by
    have a7 : 7 < n := lt83 hG.1 rfl
    have s7 : S 7 = .inl (0, [2, 2, 2, 2, 0, 0]) := hG.2.1 7 rfl
    have a12 : 12 < n := lt83 hG.1 rfl
    have s12 : S 12 = .inl (4, [2, 2, 0, 2, 2, 2, 2, 2, 2]) := hG.2.1 12 rfl
    have a14 : 14 < n := lt83 hG.1 rfl
    have s14 : S 14 = .inr (.int, 7315, 0) := hG.2.1 14 rfl
    refine mx_J.step (sn_26 0) (fun _ _ => rfl) ?_
    have c25 : mx_J (tB l D b0 ad Hb tau) mt_26 (d + 7) 25 [some (.ref 12), some (xI x0), some (xI x1), none, none, none] [] h Post := by
      refine JcI (z := (-1)) (show mx_Sn _ _ 25 (mx_const (.int (-1)) 26) from sn_26 25) rfl ?_
      exact mx_J.ret (sn_26 26) (fun _ _ => rfl) (hP (-1) Z h hx hG fr_rf (by omega))
    refine Jif_lt (show mx_Sn _ _ 1 (mx_if_lt 25 4) from sn_26 1) (by omega) (fun q2 => ?_) (fun q2 => ?_)
    · skip
      exact c25 
    · skip
      refine mx_J.step (sn_26 4) (fun _ _ => rfl) ?_
      refine mx_J.step (sn_26 5) (fun _ _ => rfl) ?_
      refine JgetR (g := 0) (b := 7) hx (show mx_Sn _ _ 6 (mx_getf 4 0 9) from sn_26 6) a12 s12 rfl rfl (hG.prr 12 0 rfl) ?_
      have b3 : 0 ≤ Z 7 5 ∧ Z 7 5 ≤ 385 := hG.pr 7 5
      refine JgetI (g := 5) (z := Z 7 5) hx (show mx_Sn _ _ 9 (mx_getf 0 5 12) from sn_26 9) a7 s7 rfl rfl rfl ?_
      refine Jicmp_ge (show mx_Sn _ _ 12 (mx_icmp_ge 25 15) from sn_26 12) (by omega) (by omega) (fun q4 => ?_) (fun q4 => ?_)
      · skip
        exact c25 
      · skip
        refine mx_J.step (sn_26 15) (fun _ _ => rfl) ?_
        refine Jif_lt (show mx_Sn _ _ 16 (mx_if_lt 25 19) from sn_26 16) (by omega) (fun q5 => ?_) (fun q5 => ?_)
        · skip
          exact c25 
        · skip
          refine mx_J.step (sn_26 19) (fun _ _ => rfl) ?_
          refine JcI (z := 18) (show mx_Sn _ _ 20 (mx_const (.int 18) 22) from sn_26 20) rfl ?_
          refine Jicmp_le (show mx_Sn _ _ 22 (mx_icmp_le 27 25) from sn_26 22) (by omega) (by omega) (fun q6 => ?_) (fun q6 => ?_)
          · skip
            refine mx_J.step (sn_26 27) (fun _ _ => rfl) ?_
            refine JcI (z := 19) (show mx_Sn _ _ 28 (mx_const (.int 19) 30) from sn_26 28) rfl ?_
            refine Jimul (show mx_Sn _ _ 30 (mx_imul 31) from sn_26 30) ?_
            refine mx_J.step (sn_26 31) (fun _ _ => rfl) ?_
            refine Jiadd (show mx_Sn _ _ 32 (mx_iadd 33) from sn_26 32) ?_
            refine mx_J.step (ls2 := [some (.ref 12), some (xI x0), some (xI x1), some (xI ((x0 * 19) + x1)), none, none]) (sn_26 33) (fun _ _ => rfl) ?_
            refine mx_J.step (sn_26 34) (fun _ _ => rfl) ?_
            refine JgetR (g := 3) (b := 14) hx (show mx_Sn _ _ 35 (mx_getf 4 3 38) from sn_26 35) a12 s12 rfl rfl (hG.prr 12 3 rfl) ?_
            refine mx_J.step (sn_26 38) (fun _ _ => rfl) ?_
            have b7 : (-2147483648) ≤ Z 14 ((x0 * 19) + x1) ∧ Z 14 ((x0 * 19) + x1) ≤ 2147483647 := hG.pr 14 ((x0 * 19) + x1)
            have b8 : (Z 14 ((x0 * 19) + x1)) % 1024 ≤ 385 := GI_ex hG 14 ((x0 * 19) + x1)
            refine JialdI (z := Z 14 ((x0 * 19) + x1)) hx (show mx_Sn _ _ 39 (mx_iald 40) from sn_26 39) a14 s14 (by omega) rfl ?_
            refine JcI (z := 10) (show mx_Sn _ _ 40 (mx_const (.int 10) 42) from sn_26 40) rfl ?_
            refine JishrX (show mx_Sn _ _ 42 (mx_ishr 43) from sn_26 42) (fun y9 hy9 => ?_)
            refine mx_J.step (sn_26 43) (fun _ _ => rfl) ?_
            have b10 : (-2147483648) ≤ Z 12 2 ∧ Z 12 2 ≤ 2147483647 := hG.pr 12 2
            refine JgetI (g := 2) (z := Z 12 2) hx (show mx_Sn _ _ 44 (mx_getf 4 2 47) from sn_26 44) a12 s12 rfl rfl rfl ?_
            have c101 : ∀ (u11_4 : Option Value) (u11_5 : Option Value) (Z12 : xZ) (h12 : mx_H), XH n s S Z12 h12 → GI n S Z12 → fr' [(14, (-1)), (16, (-1)), (17, (-1)), (18, (-1)), (19, (-1))] Z Z12 → mx_J (tB l D b0 ad Hb tau) mt_26 (d + 7) 101 [some (.ref 12), some (xI x0), some (xI x1), some (xI ((x0 * 19) + x1)), u11_4, u11_5] [] h12 Post := by
              intro u11_4 u11_5 Z12 h12 hx12 hG12 hf12
              refine mx_J.step (sn_26 101) (fun _ _ => rfl) ?_
              refine JgetR (g := 3) (b := 14) hx12 (show mx_Sn _ _ 102 (mx_getf 4 3 105) from sn_26 102) a12 s12 rfl rfl (hG12.prr 12 3 rfl) ?_
              refine mx_J.step (sn_26 105) (fun _ _ => rfl) ?_
              have b13 : (-2147483648) ≤ Z12 14 ((x0 * 19) + x1) ∧ Z12 14 ((x0 * 19) + x1) ≤ 2147483647 := hG12.pr 14 ((x0 * 19) + x1)
              have b14 : (Z12 14 ((x0 * 19) + x1)) % 1024 ≤ 385 := GI_ex hG12 14 ((x0 * 19) + x1)
              refine JialdI (z := Z12 14 ((x0 * 19) + x1)) hx12 (show mx_Sn _ _ 106 (mx_iald 107) from sn_26 106) a14 s14 (by omega) rfl ?_
              refine JcI (z := 1023) (show mx_Sn _ _ 107 (mx_const (.int 1023) 110) from sn_26 107) rfl ?_
              refine JiandM (q := 1024) 10 (show mx_Sn _ _ 110 (mx_iand 111) from sn_26 110) rfl rfl rfl ?_
              refine JcI (z := 1) (show mx_Sn _ _ 111 (mx_const (.int 1) 112) from sn_26 111) rfl ?_
              refine Jisub (show mx_Sn _ _ 112 (mx_isub 113) from sn_26 112) ?_
              exact mx_J.ret (sn_26 113) (fun _ _ => rfl) (hP (((Z12 14 ((x0 * 19) + x1)) % 1024) - 1) Z12 h12 hx12 hG12 (fr_tr (M := [(14, (-1)), (16, (-1)), (17, (-1)), (18, (-1)), (19, (-1))]) fr_rf (hf12) (M1 := []) rfl rfl) (by omega))
            refine Jicmp_eq (show mx_Sn _ _ 47 (mx_icmp_eq 101 50) from sn_26 47) (by omega) (by omega) (fun q15 => ?_) (fun q15 => ?_)
            · skip
              exact c101 none none Z h hx hG fr_rf
            · skip
              refine mx_J.step (sn_26 50) (fun _ _ => rfl) ?_
              refine JgetR (g := 0) (b := 7) hx (show mx_Sn _ _ 51 (mx_getf 4 0 54) from sn_26 51) a12 s12 rfl rfl (hG.prr 12 0 rfl) ?_
              refine mx_J.step (sn_26 54) (fun _ _ => rfl) ?_
              refine mx_J.step (sn_26 55) (fun _ _ => rfl) ?_
              obtain ⟨z16, hc16, b16⟩ := ct_7_7 (d := d + 5) (l := l) (D := D) (b0 := b0) (ad := ad) (Hb := Hb) (tau := tau) hx hG (show (-2147483648) ≤ x0 ∧ x0 ≤ 2147483647 by omega) (show (-2147483648) ≤ x1 ∧ x1 ≤ 2147483647 by omega)
              refine Jcv hx (show mx_Sn _ _ 56 (mx_callv 7 3 0 59) from sn_26 56) a7 s7 hc16 rfl rfl rfl ?_
              refine mx_J.step (ls2 := [some (.ref 12), some (xI x0), some (xI x1), some (xI ((x0 * 19) + x1)), some (xI z16), none]) (sn_26 59) (fun _ _ => rfl) ?_
              refine mx_J.step (sn_26 61) (fun _ _ => rfl) ?_
              have c81 : ∀ (k17_0 : Int) (Z18 : xZ) (h18 : mx_H), (-1) ≤ k17_0 ∧ k17_0 ≤ 384 → XH n s S Z18 h18 → GI n S Z18 → fr' [(16, (-1)), (17, (-1)), (18, (-1)), (19, (-1))] Z Z18 → mx_J (tB l D b0 ad Hb tau) mt_26 (d + 7) 81 [some (.ref 12), some (xI x0), some (xI x1), some (xI ((x0 * 19) + x1)), some (xI z16), none] [xI k17_0] h18 Post := by
                intro k17_0 Z18 h18 f17_0 hx18 hG18 hf18
                refine mx_J.step (ls2 := [some (.ref 12), some (xI x0), some (xI x1), some (xI ((x0 * 19) + x1)), some (xI z16), some (xI k17_0)]) (sn_26 81) (fun _ _ => rfl) ?_
                refine mx_J.step (sn_26 83) (fun _ _ => rfl) ?_
                refine JgetR (g := 3) (b := 14) hx18 (show mx_Sn _ _ 84 (mx_getf 4 3 87) from sn_26 84) a12 s12 rfl rfl (hG18.prr 12 3 rfl) ?_
                refine mx_J.step (sn_26 87) (fun _ _ => rfl) ?_
                refine mx_J.step (sn_26 88) (fun _ _ => rfl) ?_
                have b19 : (-2147483648) ≤ Z 12 2 ∧ Z 12 2 ≤ 2147483647 := hG.pr 12 2
                refine JgetI (g := 2) (z := Z 12 2) hx18 (show mx_Sn _ _ 89 (mx_getf 4 2 92) from sn_26 89) a12 s12 rfl rfl (hf18 12 2 rfl) ?_
                refine JcI (z := 10) (show mx_Sn _ _ 92 (mx_const (.int 10) 94) from sn_26 92) rfl ?_
                refine Jishl10 (show mx_Sn _ _ 94 (mx_ishl 95) from sn_26 94) (fun y20 hy20 => ?_)
                refine mx_J.step (sn_26 95) (fun _ _ => rfl) ?_
                refine JcI (z := 1) (show mx_Sn _ _ 97 (mx_const (.int 1) 98) from sn_26 97) rfl ?_
                refine Jiadd (show mx_Sn _ _ 98 (mx_iadd 99) from sn_26 98) ?_
                refine Jior10 (show mx_Sn _ _ 99 (mx_ior 100) from sn_26 99) (by omega) (by omega) (fun y21 hy21 => ?_)
                refine JiastI hx18 (show mx_Sn _ _ 100 (mx_iast 1 101) from sn_26 100) a14 s14 rfl (by omega) (fun Z22 h22 hx22 hE22 => ?_)
                have hG22 := GI_up hG18 hE22 (show (-2147483648) ≤ y21 ∧ y21 ≤ 2147483647 by omega) (show y21 % 1024 ≤ 385 by omega) rfl
                exact c101 (some (xI z16)) (some (xI k17_0)) Z22 h22 hx22 hG22 (fr_tr (M := [(14, (-1)), (16, (-1)), (17, (-1)), (18, (-1)), (19, (-1))]) (fr_tr (M := [(14, (-1)), (16, (-1)), (17, (-1)), (18, (-1)), (19, (-1))]) fr_rf (hf18) (M1 := []) rfl rfl) (fr_ua hE22) rfl rfl)
              have c74 : mx_J (tB l D b0 ad Hb tau) mt_26 (d + 7) 74 [some (.ref 12), some (xI x0), some (xI x1), some (xI ((x0 * 19) + x1)), some (xI z16), none] [] h Post := by
                refine mx_J.step (sn_26 74) (fun _ _ => rfl) ?_
                refine mx_J.step (sn_26 75) (fun _ _ => rfl) ?_
                refine mx_J.step (sn_26 76) (fun _ _ => rfl) ?_
                obtain ⟨z24, Z24, h24, hc24, hx24, hG24, hf24, b24⟩ := ct_29_12 (d := d + 0) (l := l) (D := D) (b0 := b0) (ad := ad) (Hb := Hb) (tau := tau) hx hG (show (-2147483648) ≤ x0 ∧ x0 ≤ 2147483647 by omega) (show (-2147483648) ≤ z16 ∧ z16 ≤ 2147483647 by omega)
                refine Jcv hx (show mx_Sn _ _ 78 (mx_callv 29 3 4 81) from sn_26 78) a12 s12 hc24 rfl rfl rfl ?_
                exact c81 z24 Z24 h24 (by omega) hx24 hG24 (fr_tr (M := [(16, (-1)), (17, (-1)), (18, (-1)), (19, (-1))]) fr_rf (hf24) (M1 := []) rfl rfl)
              refine Jif_le (show mx_Sn _ _ 62 (mx_if_le 74 65) from sn_26 62) (by omega) (fun q25 => ?_) (fun q25 => ?_)
              · skip
                exact c74 
              · skip
                refine mx_J.step (sn_26 65) (fun _ _ => rfl) ?_
                refine Jif_ge (show mx_Sn _ _ 67 (mx_if_ge 74 70) from sn_26 67) (by omega) (fun q26 => ?_) (fun q26 => ?_)
                · skip
                  exact c74 
                · skip
                  refine JcI (z := (-1)) (show mx_Sn _ _ 70 (mx_const (.int (-1)) 71) from sn_26 70) rfl ?_
                  refine mx_J.step (sn_26 71) (fun _ _ => rfl) ?_
                  exact c81 (-1) Z h (by omega) hx hG fr_rf
          · skip
            exact c25 
theorem ct_26_12 {l : Launch} {D : va_G} {b0 : Nat} {ad : Nat → Nat} {Hb : Heap} {tau : Nat → Int64} {d n s : Nat} {S : Nat → xS} {Z : xZ} {h : mx_H} (hx : XH n s S Z h) (hG : GI n S Z) {x0 x1 : Int} (p0 : (-2147483648) ≤ x0 ∧ x0 ≤ 2147483647) (p1 : (-2147483648) ≤ x1 ∧ x1 ≤ 2147483647) : ∃ (z : Int) (Z' : xZ) (h' : mx_H), mx_Ca (tB l D b0 ad Hb tau) (d + 8) 26 [.ref 12, xI x0, xI x1] h (some (xI z), h') ∧ XH n s S Z' h' ∧ GI n S Z' ∧ fr' [(14, (-1)), (16, (-1)), (17, (-1)), (18, (-1)), (19, (-1))] Z Z' ∧ ((-1) ≤ z ∧ z ≤ 384) := by
  obtain ⟨r, hca, z, Z', h', e, q⟩ := Jmt (B := tB l D b0 ad Hb tau) (M := mt_26) (mi := 26) (as := [.ref 12, xI x0, xI x1]) (d := d + 7) (ls := [some (.ref 12), some (xI x0), some (xI x1), none, none, none]) rfl rfl rfl rfl rfl rfl (cw_26_12 (l := l) (D := D) (b0 := b0) (ad := ad) (Hb := Hb) (tau := tau) (d := d) (Post := fun r => ∃ (z : Int) (Z' : xZ) (h' : mx_H), r = (some (xI z), h') ∧ XH n s S Z' h' ∧ GI n S Z' ∧ fr' [(14, (-1)), (16, (-1)), (17, (-1)), (18, (-1)), (19, (-1))] Z Z' ∧ ((-1) ≤ z ∧ z ≤ 384)) hx hG p0 p1 (fun z Z' h' q1 q2 q3 q4 => ⟨z, Z', h', rfl, q1, q2, q3, q4⟩))
  subst e; exact ⟨z, Z', h', hca, q⟩
set_option maxRecDepth 100000 in
theorem cw_28_12 {l : Launch} {D : va_G} {b0 : Nat} {ad : Nat → Nat} {Hb : Heap} {tau : Nat → Int64} {d n s : Nat} {S : Nat → xS} {Z : xZ} {h : mx_H} {Post : mx_R → Prop} (hx : XH n s S Z h) (hG : GI n S Z) {x0 x1 : Int} (p0 : (-2147483648) ≤ x0 ∧ x0 ≤ 2147483647) (p1 : (-2147483648) ≤ x1 ∧ x1 ≤ 2147483647) (hP : ∀ (z : Int) (Z' : xZ) (h' : mx_H), XH n s S Z' h' → GI n S Z' → fr' [(14, (-1)), (15, (-1)), (16, (-1)), (17, (-1)), (18, (-1)), (19, (-1))] Z Z' → (-1) ≤ z ∧ z ≤ 384 → Post (some (xI z), h')) : mx_J (tB l D b0 ad Hb tau) mt_28 (d + 8) 0 [some (.ref 12), some (xI x0), some (xI x1), none] [] h Post := by
    have a7 : 7 < n := lt83 hG.1 rfl
    have s7 : S 7 = .inl (0, [2, 2, 2, 2, 0, 0]) := hG.2.1 7 rfl
    have a12 : 12 < n := lt83 hG.1 rfl
    have s12 : S 12 = .inl (4, [2, 2, 0, 2, 2, 2, 2, 2, 2]) := hG.2.1 12 rfl
    have a15 : 15 < n := lt83 hG.1 rfl
    have s15 : S 15 = .inr (.int, 3850, 0) := hG.2.1 15 rfl
    refine mx_J.step (sn_28 0) (fun _ _ => rfl) ?_
    have c25 : mx_J (tB l D b0 ad Hb tau) mt_28 (d + 8) 25 [some (.ref 12), some (xI x0), some (xI x1), none] [] h Post := by
      refine JcI (z := (-1)) (show mx_Sn _ _ 25 (mx_const (.int (-1)) 26) from sn_28 25) rfl ?_
      exact mx_J.ret (sn_28 26) (fun _ _ => rfl) (hP (-1) Z h hx hG fr_rf (by omega))
    refine Jif_lt (show mx_Sn _ _ 1 (mx_if_lt 25 4) from sn_28 1) (by omega) (fun q2 => ?_) (fun q2 => ?_)
    · skip
      exact c25 
    · skip
      refine mx_J.step (sn_28 4) (fun _ _ => rfl) ?_
      refine mx_J.step (sn_28 5) (fun _ _ => rfl) ?_
      refine JgetR (g := 0) (b := 7) hx (show mx_Sn _ _ 6 (mx_getf 4 0 9) from sn_28 6) a12 s12 rfl rfl (hG.prr 12 0 rfl) ?_
      have b3 : 0 ≤ Z 7 5 ∧ Z 7 5 ≤ 385 := hG.pr 7 5
      refine JgetI (g := 5) (z := Z 7 5) hx (show mx_Sn _ _ 9 (mx_getf 0 5 12) from sn_28 9) a7 s7 rfl rfl rfl ?_
      refine Jicmp_ge (show mx_Sn _ _ 12 (mx_icmp_ge 25 15) from sn_28 12) (by omega) (by omega) (fun q4 => ?_) (fun q4 => ?_)
      · skip
        exact c25 
      · skip
        refine mx_J.step (sn_28 15) (fun _ _ => rfl) ?_
        refine Jif_lt (show mx_Sn _ _ 16 (mx_if_lt 25 19) from sn_28 16) (by omega) (fun q5 => ?_) (fun q5 => ?_)
        · skip
          exact c25 
        · skip
          refine mx_J.step (sn_28 19) (fun _ _ => rfl) ?_
          refine JcI (z := 10) (show mx_Sn _ _ 20 (mx_const (.int 10) 22) from sn_28 20) rfl ?_
          refine Jicmp_lt (show mx_Sn _ _ 22 (mx_icmp_lt 27 25) from sn_28 22) (by omega) (by omega) (fun q6 => ?_) (fun q6 => ?_)
          · skip
            refine mx_J.step (sn_28 27) (fun _ _ => rfl) ?_
            refine mx_J.step (sn_28 28) (fun _ _ => rfl) ?_
            refine JgetR (g := 0) (b := 7) hx (show mx_Sn _ _ 29 (mx_getf 4 0 32) from sn_28 29) a12 s12 rfl rfl (hG.prr 12 0 rfl) ?_
            refine mx_J.step (sn_28 32) (fun _ _ => rfl) ?_
            obtain ⟨z7, hc7, b7⟩ := ct_5_7 (d := d + 7) (l := l) (D := D) (b0 := b0) (ad := ad) (Hb := Hb) (tau := tau) hx hG (show (-2147483648) ≤ x0 ∧ x0 ≤ 2147483647 by omega)
            refine Jcv hx (show mx_Sn _ _ 33 (mx_callv 5 2 0 36) from sn_28 33) a7 s7 hc7 rfl rfl rfl ?_
            refine Jicmp_lt (show mx_Sn _ _ 36 (mx_icmp_lt 46 39) from sn_28 36) (by omega) (by omega) (fun q8 => ?_) (fun q8 => ?_)
            · skip
              refine mx_J.step (sn_28 46) (fun _ _ => rfl) ?_
              refine JcI (z := 10) (show mx_Sn _ _ 47 (mx_const (.int 10) 49) from sn_28 47) rfl ?_
              refine Jimul (show mx_Sn _ _ 49 (mx_imul 50) from sn_28 49) ?_
              refine mx_J.step (sn_28 50) (fun _ _ => rfl) ?_
              refine Jiadd (show mx_Sn _ _ 51 (mx_iadd 52) from sn_28 51) ?_
              refine mx_J.step (ls2 := [some (.ref 12), some (xI x0), some (xI x1), some (xI ((x0 * 10) + x1))]) (sn_28 52) (fun _ _ => rfl) ?_
              refine mx_J.step (sn_28 53) (fun _ _ => rfl) ?_
              refine JgetR (g := 4) (b := 15) hx (show mx_Sn _ _ 54 (mx_getf 4 4 57) from sn_28 54) a12 s12 rfl rfl (hG.prr 12 4 rfl) ?_
              refine mx_J.step (sn_28 57) (fun _ _ => rfl) ?_
              have b9 : (-2147483648) ≤ Z 15 ((x0 * 10) + x1) ∧ Z 15 ((x0 * 10) + x1) ≤ 2147483647 := hG.pr 15 ((x0 * 10) + x1)
              have b10 : (Z 15 ((x0 * 10) + x1)) % 1024 ≤ 385 := GI_ex hG 15 ((x0 * 10) + x1)
              refine JialdI (z := Z 15 ((x0 * 10) + x1)) hx (show mx_Sn _ _ 58 (mx_iald 59) from sn_28 58) a15 s15 (by omega) rfl ?_
              refine JcI (z := 10) (show mx_Sn _ _ 59 (mx_const (.int 10) 61) from sn_28 59) rfl ?_
              refine JishrX (show mx_Sn _ _ 61 (mx_ishr 62) from sn_28 61) (fun y11 hy11 => ?_)
              refine mx_J.step (sn_28 62) (fun _ _ => rfl) ?_
              have b12 : (-2147483648) ≤ Z 12 2 ∧ Z 12 2 ≤ 2147483647 := hG.pr 12 2
              refine JgetI (g := 2) (z := Z 12 2) hx (show mx_Sn _ _ 63 (mx_getf 4 2 66) from sn_28 63) a12 s12 rfl rfl rfl ?_
              have c91 : ∀  (Z14 : xZ) (h14 : mx_H), XH n s S Z14 h14 → GI n S Z14 → fr' [(15, (-1)), (16, (-1)), (17, (-1)), (18, (-1)), (19, (-1))] Z Z14 → mx_J (tB l D b0 ad Hb tau) mt_28 (d + 8) 91 [some (.ref 12), some (xI x0), some (xI x1), some (xI ((x0 * 10) + x1))] [] h14 Post := by
                intro Z14 h14 hx14 hG14 hf14
                refine mx_J.step (sn_28 91) (fun _ _ => rfl) ?_
                refine JgetR (g := 4) (b := 15) hx14 (show mx_Sn _ _ 92 (mx_getf 4 4 95) from sn_28 92) a12 s12 rfl rfl (hG14.prr 12 4 rfl) ?_
                refine mx_J.step (sn_28 95) (fun _ _ => rfl) ?_
                have b15 : (-2147483648) ≤ Z14 15 ((x0 * 10) + x1) ∧ Z14 15 ((x0 * 10) + x1) ≤ 2147483647 := hG14.pr 15 ((x0 * 10) + x1)
                have b16 : (Z14 15 ((x0 * 10) + x1)) % 1024 ≤ 385 := GI_ex hG14 15 ((x0 * 10) + x1)
                refine JialdI (z := Z14 15 ((x0 * 10) + x1)) hx14 (show mx_Sn _ _ 96 (mx_iald 97) from sn_28 96) a15 s15 (by omega) rfl ?_
                refine JcI (z := 1023) (show mx_Sn _ _ 97 (mx_const (.int 1023) 100) from sn_28 97) rfl ?_
                refine JiandM (q := 1024) 10 (show mx_Sn _ _ 100 (mx_iand 101) from sn_28 100) rfl rfl rfl ?_
                refine JcI (z := 1) (show mx_Sn _ _ 101 (mx_const (.int 1) 102) from sn_28 101) rfl ?_
                refine Jisub (show mx_Sn _ _ 102 (mx_isub 103) from sn_28 102) ?_
                exact mx_J.ret (sn_28 103) (fun _ _ => rfl) (hP (((Z14 15 ((x0 * 10) + x1)) % 1024) - 1) Z14 h14 hx14 hG14 (fr_tr (M := [(14, (-1)), (15, (-1)), (16, (-1)), (17, (-1)), (18, (-1)), (19, (-1))]) fr_rf (hf14) (M1 := []) rfl rfl) (by omega))
              refine Jicmp_eq (show mx_Sn _ _ 66 (mx_icmp_eq 91 69) from sn_28 66) (by omega) (by omega) (fun q17 => ?_) (fun q17 => ?_)
              · skip
                exact c91 Z h hx hG fr_rf
              · skip
                refine mx_J.step (sn_28 69) (fun _ _ => rfl) ?_
                refine JgetR (g := 4) (b := 15) hx (show mx_Sn _ _ 70 (mx_getf 4 4 73) from sn_28 70) a12 s12 rfl rfl (hG.prr 12 4 rfl) ?_
                refine mx_J.step (sn_28 73) (fun _ _ => rfl) ?_
                refine mx_J.step (sn_28 74) (fun _ _ => rfl) ?_
                have b18 : (-2147483648) ≤ Z 12 2 ∧ Z 12 2 ≤ 2147483647 := hG.pr 12 2
                refine JgetI (g := 2) (z := Z 12 2) hx (show mx_Sn _ _ 75 (mx_getf 4 2 78) from sn_28 75) a12 s12 rfl rfl rfl ?_
                refine JcI (z := 10) (show mx_Sn _ _ 78 (mx_const (.int 10) 80) from sn_28 78) rfl ?_
                refine Jishl10 (show mx_Sn _ _ 80 (mx_ishl 81) from sn_28 80) (fun y19 hy19 => ?_)
                refine mx_J.step (sn_28 81) (fun _ _ => rfl) ?_
                refine mx_J.step (sn_28 82) (fun _ _ => rfl) ?_
                refine mx_J.step (sn_28 83) (fun _ _ => rfl) ?_
                obtain ⟨z20, Z20, h20, hc20, hx20, hG20, hf20, b20⟩ := ct_29_12 (d := d + 1) (l := l) (D := D) (b0 := b0) (ad := ad) (Hb := Hb) (tau := tau) hx hG (show (-2147483648) ≤ x0 ∧ x0 ≤ 2147483647 by omega) (show (-2147483648) ≤ x1 ∧ x1 ≤ 2147483647 by omega)
                refine Jcv hx (show mx_Sn _ _ 84 (mx_callv 29 3 4 87) from sn_28 84) a12 s12 hc20 rfl rfl rfl ?_
                refine JcI (z := 1) (show mx_Sn _ _ 87 (mx_const (.int 1) 88) from sn_28 87) rfl ?_
                refine Jiadd (show mx_Sn _ _ 88 (mx_iadd 89) from sn_28 88) ?_
                refine Jior10 (show mx_Sn _ _ 89 (mx_ior 90) from sn_28 89) (by omega) (by omega) (fun y21 hy21 => ?_)
                refine JiastI hx20 (show mx_Sn _ _ 90 (mx_iast 1 91) from sn_28 90) a15 s15 rfl (by omega) (fun Z22 h22 hx22 hE22 => ?_)
                have hG22 := GI_up hG20 hE22 (show (-2147483648) ≤ y21 ∧ y21 ≤ 2147483647 by omega) (show y21 % 1024 ≤ 385 by omega) rfl
                exact c91 Z22 h22 hx22 hG22 (fr_tr (M := [(15, (-1)), (16, (-1)), (17, (-1)), (18, (-1)), (19, (-1))]) (fr_tr (M := [(15, (-1)), (16, (-1)), (17, (-1)), (18, (-1)), (19, (-1))]) fr_rf (hf20) (M1 := []) rfl rfl) (fr_ua hE22) rfl rfl)
            · skip
              refine mx_J.step (sn_28 39) (fun _ _ => rfl) ?_
              refine mx_J.step (sn_28 40) (fun _ _ => rfl) ?_
              refine JcI (z := 0) (show mx_Sn _ _ 41 (mx_const (.int 0) 42) from sn_28 41) rfl ?_
              obtain ⟨z23, Z23, h23, hc23, hx23, hG23, hf23, b23⟩ := ct_26_12 (d := d + 0) (l := l) (D := D) (b0 := b0) (ad := ad) (Hb := Hb) (tau := tau) hx hG (show (-2147483648) ≤ x0 ∧ x0 ≤ 2147483647 by omega) (show (-2147483648) ≤ 0 ∧ 0 ≤ 2147483647 by omega)
              refine Jcv hx (show mx_Sn _ _ 42 (mx_callv 26 3 4 45) from sn_28 42) a12 s12 hc23 rfl rfl rfl ?_
              exact mx_J.ret (sn_28 45) (fun _ _ => rfl) (hP z23 Z23 h23 hx23 hG23 (fr_tr (M := [(14, (-1)), (15, (-1)), (16, (-1)), (17, (-1)), (18, (-1)), (19, (-1))]) fr_rf (hf23) (M1 := []) rfl rfl) (by omega))
          · skip
            exact c25 
theorem ct_28_12 {l : Launch} {D : va_G} {b0 : Nat} {ad : Nat → Nat} {Hb : Heap} {tau : Nat → Int64} {d n s : Nat} {S : Nat → xS} {Z : xZ} {h : mx_H} (hx : XH n s S Z h) (hG : GI n S Z) {x0 x1 : Int} (p0 : (-2147483648) ≤ x0 ∧ x0 ≤ 2147483647) (p1 : (-2147483648) ≤ x1 ∧ x1 ≤ 2147483647) : ∃ (z : Int) (Z' : xZ) (h' : mx_H), mx_Ca (tB l D b0 ad Hb tau) (d + 9) 28 [.ref 12, xI x0, xI x1] h (some (xI z), h') ∧ XH n s S Z' h' ∧ GI n S Z' ∧ fr' [(14, (-1)), (15, (-1)), (16, (-1)), (17, (-1)), (18, (-1)), (19, (-1))] Z Z' ∧ ((-1) ≤ z ∧ z ≤ 384) := by
  obtain ⟨r, hca, z, Z', h', e, q⟩ := Jmt (B := tB l D b0 ad Hb tau) (M := mt_28) (mi := 28) (as := [.ref 12, xI x0, xI x1]) (d := d + 8) (ls := [some (.ref 12), some (xI x0), some (xI x1), none]) rfl rfl rfl rfl rfl rfl (cw_28_12 (l := l) (D := D) (b0 := b0) (ad := ad) (Hb := Hb) (tau := tau) (d := d) (Post := fun r => ∃ (z : Int) (Z' : xZ) (h' : mx_H), r = (some (xI z), h') ∧ XH n s S Z' h' ∧ GI n S Z' ∧ fr' [(14, (-1)), (15, (-1)), (16, (-1)), (17, (-1)), (18, (-1)), (19, (-1))] Z Z' ∧ ((-1) ≤ z ∧ z ≤ 384)) hx hG p0 p1 (fun z Z' h' q1 q2 q3 q4 => ⟨z, Z', h', rfl, q1, q2, q3, q4⟩))
  subst e; exact ⟨z, Z', h', hca, q⟩
set_option maxRecDepth 100000 in
theorem cw_141_1_38 {l : Launch} {D : va_G} {b0 : Nat} {ad : Nat → Nat} {Hb : Heap} {tau : Nat → Int64} {d n s : Nat} {S : Nat → xS} {Z : xZ} {h : mx_H} {Post : mx_R → Prop} (hx : XH n s S Z h) (hG : GI n S Z) {x0 x1 : Int} (p0 : (-2147483648) ≤ x0 ∧ x0 ≤ 2147483647) (p1 : (-2147483648) ≤ x1 ∧ x1 ≤ 2147483647) (hP : ∀ (z : Int) (Z' : xZ) (h' : mx_H), XH n s S Z' h' → GI n S Z' → fr' [(38, 2), (42, (-1))] Z Z' → 0 ≤ z ∧ z ≤ 2 → Post (some (xI z), h')) : mx_J (tB l D b0 ad Hb tau) mt_141 (d + 2) 0 [some (.ref 1), some (.ref 38), some (xI x0), some (xI x1)] [] h Post := by
    have a1 : 1 < n := lt83 hG.1 rfl
    have s1 : S 1 = .inl (11, [2, 0, 0, 0, 2, 2, 2, 2, 2, 2, 2, 2, 2, 2, 2, 2, 2]) := hG.2.1 1 rfl
    have a7 : 7 < n := lt83 hG.1 rfl
    have s7 : S 7 = .inl (0, [2, 2, 2, 2, 0, 0]) := hG.2.1 7 rfl
    have a38 : 38 < n := lt83 hG.1 rfl
    have s38 : S 38 = .inl (5, [2, 0, 0, 0, 0, 0]) := hG.2.1 38 rfl
    have a42 : 42 < n := lt83 hG.1 rfl
    have s42 : S 42 = .inr (.int, 19, 0) := hG.2.1 42 rfl
    refine mx_J.step (sn_141 0) (fun _ _ => rfl) ?_
    refine JcI (z := 1) (show mx_Sn _ _ 1 (mx_const (.int 1) 2) from sn_141 1) rfl ?_
    have c21 : mx_J (tB l D b0 ad Hb tau) mt_141 (d + 2) 21 [some (.ref 1), some (.ref 38), some (xI x0), some (xI x1)] [] h Post := by
      refine JcI (z := 1) (show mx_Sn _ _ 21 (mx_const (.int 1) 22) from sn_141 21) rfl ?_
      exact mx_J.ret (sn_141 22) (fun _ _ => rfl) (hP 1 Z h hx hG fr_rf (by omega))
    refine Jicmp_lt (show mx_Sn _ _ 2 (mx_icmp_lt 21 5) from sn_141 2) (by omega) (by omega) (fun q2 => ?_) (fun q2 => ?_)
    · skip
      exact c21 
    · skip
      refine mx_J.step (sn_141 5) (fun _ _ => rfl) ?_
      refine JcI (z := 18) (show mx_Sn _ _ 6 (mx_const (.int 18) 8) from sn_141 6) rfl ?_
      refine Jicmp_gt (show mx_Sn _ _ 8 (mx_icmp_gt 21 11) from sn_141 8) (by omega) (by omega) (fun q3 => ?_) (fun q3 => ?_)
      · skip
        exact c21 
      · skip
        refine mx_J.step (sn_141 11) (fun _ _ => rfl) ?_
        refine JcI (z := 1) (show mx_Sn _ _ 12 (mx_const (.int 1) 13) from sn_141 12) rfl ?_
        refine Jicmp_lt (show mx_Sn _ _ 13 (mx_icmp_lt 21 16) from sn_141 13) (by omega) (by omega) (fun q4 => ?_) (fun q4 => ?_)
        · skip
          exact c21 
        · skip
          refine mx_J.step (sn_141 16) (fun _ _ => rfl) ?_
          refine mx_J.step (sn_141 17) (fun _ _ => rfl) ?_
          refine Jicmp_lt (show mx_Sn _ _ 18 (mx_icmp_lt 23 21) from sn_141 18) (by omega) (by omega) (fun q5 => ?_) (fun q5 => ?_)
          · skip
            refine mx_J.step (sn_141 23) (fun _ _ => rfl) ?_
            refine JgetR (g := 5) (b := 7) hx (show mx_Sn _ _ 24 (mx_getf 11 5 27) from sn_141 24) a1 s1 rfl rfl (hG.prr 1 5 rfl) ?_
            refine mx_J.step (sn_141 27) (fun _ _ => rfl) ?_
            have b6 : 0 ≤ Z 38 2 ∧ Z 38 2 ≤ 384 := hG.pr 38 2
            refine JgetI (g := 2) (z := Z 38 2) hx (show mx_Sn _ _ 28 (mx_getf 5 2 31) from sn_141 28) a38 s38 rfl rfl rfl ?_
            refine mx_J.step (sn_141 31) (fun _ _ => rfl) ?_
            refine JgetR (g := 15) (b := 42) hx (show mx_Sn _ _ 32 (mx_getf 11 15 35) from sn_141 32) a1 s1 rfl rfl (hG.prr 1 15 rfl) ?_
            obtain ⟨Z7, h7, hc7, hx7, hG7, hf7, m7_42⟩ := ct_8_7_42 (d := d + 0) (l := l) (D := D) (b0 := b0) (ad := ad) (Hb := Hb) (tau := tau) hx hG (show (-2147483648) ≤ Z 38 2 ∧ Z 38 2 ≤ 2147483647 by omega)
            refine Jcv0 hx (show mx_Sn _ _ 35 (mx_callv 8 3 0 38) from sn_141 35) a7 s7 hc7 rfl rfl rfl ?_
            refine mx_J.step (sn_141 38) (fun _ _ => rfl) ?_
            refine JgetR (g := 15) (b := 42) hx7 (show mx_Sn _ _ 39 (mx_getf 11 15 42) from sn_141 39) a1 s1 rfl rfl (hG7.prr 1 15 rfl) ?_
            refine mx_J.step (sn_141 42) (fun _ _ => rfl) ?_
            have b8 : 0 ≤ Z7 42 x0 ∧ Z7 42 x0 ≤ 18 := m7_42 x0 (by omega) (by omega)
            have b9 : (-2147483648) ≤ Z7 42 x0 ∧ Z7 42 x0 ≤ 2147483647 := hG7.pr 42 x0
            refine JialdI (z := Z7 42 x0) hx7 (show mx_Sn _ _ 43 (mx_iald 44) from sn_141 43) a42 s42 (by omega) rfl ?_
            refine JcI (z := 1) (show mx_Sn _ _ 44 (mx_const (.int 1) 45) from sn_141 44) rfl ?_
            refine Jicmp_ge (show mx_Sn _ _ 45 (mx_icmp_ge 50 48) from sn_141 45) (by omega) (by omega) (fun q10 => ?_) (fun q10 => ?_)
            · skip
              refine mx_J.step (sn_141 50) (fun _ _ => rfl) ?_
              refine JgetR (g := 15) (b := 42) hx7 (show mx_Sn _ _ 51 (mx_getf 11 15 54) from sn_141 51) a1 s1 rfl rfl (hG7.prr 1 15 rfl) ?_
              refine mx_J.step (sn_141 54) (fun _ _ => rfl) ?_
              refine mx_J.step (sn_141 55) (fun _ _ => rfl) ?_
              have b11 : 0 ≤ Z7 42 x0 ∧ Z7 42 x0 ≤ 18 := m7_42 x0 (by omega) (by omega)
              have b12 : (-2147483648) ≤ Z7 42 x0 ∧ Z7 42 x0 ≤ 2147483647 := hG7.pr 42 x0
              refine JialdI (z := Z7 42 x0) hx7 (show mx_Sn _ _ 56 (mx_iald 57) from sn_141 56) a42 s42 (by omega) rfl ?_
              refine JcI (z := 1) (show mx_Sn _ _ 57 (mx_const (.int 1) 58) from sn_141 57) rfl ?_
              refine Jisub (show mx_Sn _ _ 58 (mx_isub 59) from sn_141 58) ?_
              refine JiastI hx7 (show mx_Sn _ _ 59 (mx_iast 1 60) from sn_141 59) a42 s42 rfl (by omega) (fun Z13 h13 hx13 hE13 => ?_)
              have hG13 := GI_up hG7 hE13 (show (-2147483648) ≤ (Z7 42 x0) - 1 ∧ (Z7 42 x0) - 1 ≤ 2147483647 by omega) trivial rfl
              have m13 : AB Z13 42 19 (-1) 18 := ab_up hE13 m7_42 (by omega) (by omega) (by omega)
              refine mx_J.step (sn_141 60) (fun _ _ => rfl) ?_
              refine JgetR (g := 15) (b := 42) hx13 (show mx_Sn _ _ 61 (mx_getf 11 15 64) from sn_141 61) a1 s1 rfl rfl (hG13.prr 1 15 rfl) ?_
              refine mx_J.step (sn_141 64) (fun _ _ => rfl) ?_
              refine mx_J.step (sn_141 65) (fun _ _ => rfl) ?_
              have b14 : (-1) ≤ Z13 42 x1 ∧ Z13 42 x1 ≤ 18 := m13 x1 (by omega) (by omega)
              have b15 : (-2147483648) ≤ Z13 42 x1 ∧ Z13 42 x1 ≤ 2147483647 := hG13.pr 42 x1
              refine JialdI (z := Z13 42 x1) hx13 (show mx_Sn _ _ 66 (mx_iald 67) from sn_141 66) a42 s42 (by omega) rfl ?_
              refine JcI (z := 1) (show mx_Sn _ _ 67 (mx_const (.int 1) 68) from sn_141 67) rfl ?_
              refine Jiadd (show mx_Sn _ _ 68 (mx_iadd 69) from sn_141 68) ?_
              refine JiastI hx13 (show mx_Sn _ _ 69 (mx_iast 1 70) from sn_141 69) a42 s42 rfl (by omega) (fun Z16 h16 hx16 hE16 => ?_)
              have hG16 := GI_up hG13 hE16 (show (-2147483648) ≤ (Z13 42 x1) + 1 ∧ (Z13 42 x1) + 1 ≤ 2147483647 by omega) trivial rfl
              have m16 : AB Z16 42 19 (-1) 19 := ab_up hE16 m13 (by omega) (by omega) (by omega)
              refine mx_J.step (sn_141 70) (fun _ _ => rfl) ?_
              refine JgetR (g := 15) (b := 42) hx16 (show mx_Sn _ _ 71 (mx_getf 11 15 74) from sn_141 71) a1 s1 rfl rfl (hG16.prr 1 15 rfl) ?_
              refine mx_J.step (sn_141 74) (fun _ _ => rfl) ?_
              refine mx_J.step (sn_141 75) (fun _ _ => rfl) ?_
              refine Jisub (show mx_Sn _ _ 76 (mx_isub 77) from sn_141 76) ?_
              refine mx_J.step (sn_141 77) (fun _ _ => rfl) ?_
              have b17 : (-1) ≤ Z16 42 (x0 - x1) ∧ Z16 42 (x0 - x1) ≤ 19 := m16 (x0 - x1) (by omega) (by omega)
              have b18 : (-2147483648) ≤ Z16 42 (x0 - x1) ∧ Z16 42 (x0 - x1) ≤ 2147483647 := hG16.pr 42 (x0 - x1)
              refine JialdI (z := Z16 42 (x0 - x1)) hx16 (show mx_Sn _ _ 78 (mx_iald 79) from sn_141 78) a42 s42 (by omega) rfl ?_
              refine JcI (z := 1) (show mx_Sn _ _ 79 (mx_const (.int 1) 80) from sn_141 79) rfl ?_
              refine Jiadd (show mx_Sn _ _ 80 (mx_iadd 81) from sn_141 80) ?_
              refine JiastI hx16 (show mx_Sn _ _ 81 (mx_iast 1 82) from sn_141 81) a42 s42 rfl (by omega) (fun Z19 h19 hx19 hE19 => ?_)
              have hG19 := GI_up hG16 hE19 (show (-2147483648) ≤ (Z16 42 (x0 - x1)) + 1 ∧ (Z16 42 (x0 - x1)) + 1 ≤ 2147483647 by omega) trivial rfl
              have m19 : AB Z19 42 19 (-1) 20 := ab_up hE19 m16 (by omega) (by omega) (by omega)
              refine mx_J.step (sn_141 82) (fun _ _ => rfl) ?_
              refine mx_J.step (sn_141 83) (fun _ _ => rfl) ?_
              refine JgetR (g := 5) (b := 7) hx19 (show mx_Sn _ _ 84 (mx_getf 11 5 87) from sn_141 84) a1 s1 rfl rfl (hG19.prr 1 5 rfl) ?_
              refine mx_J.step (sn_141 87) (fun _ _ => rfl) ?_
              refine JgetR (g := 15) (b := 42) hx19 (show mx_Sn _ _ 88 (mx_getf 11 15 91) from sn_141 88) a1 s1 rfl rfl (hG19.prr 1 15 rfl) ?_
              obtain ⟨z20, hc20, b20⟩ := ct_9_7_42 (d := d + 0) (l := l) (D := D) (b0 := b0) (ad := ad) (Hb := Hb) (tau := tau) hx19 hG19  (ab_mono m19 (by omega) (by omega) (by omega))
              refine Jcv hx19 (show mx_Sn _ _ 91 (mx_callv 9 2 0 94) from sn_141 91) a7 s7 hc20 rfl rfl rfl ?_
              refine JputI (g := 2) hx19 (show mx_Sn _ _ 94 (mx_putf 1 5 2 (.int) 97) from sn_141 94) a38 s38 rfl rfl rfl rfl (fun Z21 h21 hx21 hE21 => ?_)
              have hG21 := GI_up hG19 hE21 (show 0 ≤ z20 ∧ z20 ≤ 384 by omega) trivial rfl
              refine JcI (z := 0) (show mx_Sn _ _ 97 (mx_const (.int 0) 98) from sn_141 97) rfl ?_
              exact mx_J.ret (sn_141 98) (fun _ _ => rfl) (hP 0 Z21 h21 hx21 hG21 (fr_tr (M := [(38, 2), (42, (-1))]) (fr_tr (M := [(38, 2), (42, (-1))]) (fr_tr (M := [(38, 2), (42, (-1))]) (fr_tr (M := [(38, 2), (42, (-1))]) (fr_tr (M := [(38, 2), (42, (-1))]) fr_rf (hf7) (M1 := []) rfl rfl) (fr_ua hE13) rfl rfl) (fr_ua hE16) rfl rfl) (fr_ua hE19) rfl rfl) (fr_up hE21) rfl rfl) (by omega))
            · skip
              refine JcI (z := 2) (show mx_Sn _ _ 48 (mx_const (.int 2) 49) from sn_141 48) rfl ?_
              exact mx_J.ret (sn_141 49) (fun _ _ => rfl) (hP 2 Z7 h7 hx7 hG7 (fr_tr (M := [(38, 2), (42, (-1))]) fr_rf (hf7) (M1 := []) rfl rfl) (by omega))
          · skip
            exact c21 
theorem ct_141_1_38 {l : Launch} {D : va_G} {b0 : Nat} {ad : Nat → Nat} {Hb : Heap} {tau : Nat → Int64} {d n s : Nat} {S : Nat → xS} {Z : xZ} {h : mx_H} (hx : XH n s S Z h) (hG : GI n S Z) {x0 x1 : Int} (p0 : (-2147483648) ≤ x0 ∧ x0 ≤ 2147483647) (p1 : (-2147483648) ≤ x1 ∧ x1 ≤ 2147483647) : ∃ (z : Int) (Z' : xZ) (h' : mx_H), mx_Ca (tB l D b0 ad Hb tau) (d + 3) 141 [.ref 1, .ref 38, xI x0, xI x1] h (some (xI z), h') ∧ XH n s S Z' h' ∧ GI n S Z' ∧ fr' [(38, 2), (42, (-1))] Z Z' ∧ (0 ≤ z ∧ z ≤ 2) := by
  obtain ⟨r, hca, z, Z', h', e, q⟩ := Jmt (B := tB l D b0 ad Hb tau) (M := mt_141) (mi := 141) (as := [.ref 1, .ref 38, xI x0, xI x1]) (d := d + 2) (ls := [some (.ref 1), some (.ref 38), some (xI x0), some (xI x1)]) rfl rfl rfl rfl rfl rfl (cw_141_1_38 (l := l) (D := D) (b0 := b0) (ad := ad) (Hb := Hb) (tau := tau) (d := d) (Post := fun r => ∃ (z : Int) (Z' : xZ) (h' : mx_H), r = (some (xI z), h') ∧ XH n s S Z' h' ∧ GI n S Z' ∧ fr' [(38, 2), (42, (-1))] Z Z' ∧ (0 ≤ z ∧ z ≤ 2)) hx hG p0 p1 (fun z Z' h' q1 q2 q3 q4 => ⟨z, Z', h', rfl, q1, q2, q3, q4⟩))
  subst e; exact ⟨z, Z', h', hca, q⟩
set_option maxRecDepth 100000 in
theorem cw_142_1_38 {l : Launch} {D : va_G} {b0 : Nat} {ad : Nat → Nat} {Hb : Heap} {tau : Nat → Int64} {d n s : Nat} {S : Nat → xS} {Z : xZ} {h : mx_H} {Post : mx_R → Prop} (hx : XH n s S Z h) (hG : GI n S Z) {x0 x1 : Int} (p0 : (-2147483648) ≤ x0 ∧ x0 ≤ 2147483647) (p1 : (-2147483648) ≤ x1 ∧ x1 ≤ 2147483647) (hP : ∀ (z : Int) (Z' : xZ) (h' : mx_H), XH n s S Z' h' → GI n S Z' → fr' [(38, 2), (42, (-1))] Z Z' → 0 ≤ z ∧ z ≤ 2 → Post (some (xI z), h')) : mx_J (tB l D b0 ad Hb tau) mt_142 (d + 2) 0 [some (.ref 1), some (.ref 38), some (xI x0), some (xI x1)] [] h Post := by
    have a1 : 1 < n := lt83 hG.1 rfl
    have s1 : S 1 = .inl (11, [2, 0, 0, 0, 2, 2, 2, 2, 2, 2, 2, 2, 2, 2, 2, 2, 2]) := hG.2.1 1 rfl
    have a7 : 7 < n := lt83 hG.1 rfl
    have s7 : S 7 = .inl (0, [2, 2, 2, 2, 0, 0]) := hG.2.1 7 rfl
    have a38 : 38 < n := lt83 hG.1 rfl
    have s38 : S 38 = .inl (5, [2, 0, 0, 0, 0, 0]) := hG.2.1 38 rfl
    have a42 : 42 < n := lt83 hG.1 rfl
    have s42 : S 42 = .inr (.int, 19, 0) := hG.2.1 42 rfl
    refine mx_J.step (sn_142 0) (fun _ _ => rfl) ?_
    refine JcI (z := 1) (show mx_Sn _ _ 1 (mx_const (.int 1) 2) from sn_142 1) rfl ?_
    have c22 : mx_J (tB l D b0 ad Hb tau) mt_142 (d + 2) 22 [some (.ref 1), some (.ref 38), some (xI x0), some (xI x1)] [] h Post := by
      refine JcI (z := 1) (show mx_Sn _ _ 22 (mx_const (.int 1) 23) from sn_142 22) rfl ?_
      exact mx_J.ret (sn_142 23) (fun _ _ => rfl) (hP 1 Z h hx hG fr_rf (by omega))
    refine Jicmp_lt (show mx_Sn _ _ 2 (mx_icmp_lt 22 5) from sn_142 2) (by omega) (by omega) (fun q2 => ?_) (fun q2 => ?_)
    · skip
      exact c22 
    · skip
      refine mx_J.step (sn_142 5) (fun _ _ => rfl) ?_
      refine JcI (z := 18) (show mx_Sn _ _ 6 (mx_const (.int 18) 8) from sn_142 6) rfl ?_
      refine Jicmp_gt (show mx_Sn _ _ 8 (mx_icmp_gt 22 11) from sn_142 8) (by omega) (by omega) (fun q3 => ?_) (fun q3 => ?_)
      · skip
        exact c22 
      · skip
        refine mx_J.step (sn_142 11) (fun _ _ => rfl) ?_
        refine JcI (z := 1) (show mx_Sn _ _ 12 (mx_const (.int 1) 13) from sn_142 12) rfl ?_
        refine Jicmp_lt (show mx_Sn _ _ 13 (mx_icmp_lt 22 16) from sn_142 13) (by omega) (by omega) (fun q4 => ?_) (fun q4 => ?_)
        · skip
          exact c22 
        · skip
          refine mx_J.step (sn_142 16) (fun _ _ => rfl) ?_
          refine JcI (z := 18) (show mx_Sn _ _ 17 (mx_const (.int 18) 19) from sn_142 17) rfl ?_
          refine Jicmp_le (show mx_Sn _ _ 19 (mx_icmp_le 24 22) from sn_142 19) (by omega) (by omega) (fun q5 => ?_) (fun q5 => ?_)
          · skip
            refine mx_J.step (sn_142 24) (fun _ _ => rfl) ?_
            refine JgetR (g := 5) (b := 7) hx (show mx_Sn _ _ 25 (mx_getf 11 5 28) from sn_142 25) a1 s1 rfl rfl (hG.prr 1 5 rfl) ?_
            refine mx_J.step (sn_142 28) (fun _ _ => rfl) ?_
            have b6 : 0 ≤ Z 38 2 ∧ Z 38 2 ≤ 384 := hG.pr 38 2
            refine JgetI (g := 2) (z := Z 38 2) hx (show mx_Sn _ _ 29 (mx_getf 5 2 32) from sn_142 29) a38 s38 rfl rfl rfl ?_
            refine mx_J.step (sn_142 32) (fun _ _ => rfl) ?_
            refine JgetR (g := 15) (b := 42) hx (show mx_Sn _ _ 33 (mx_getf 11 15 36) from sn_142 33) a1 s1 rfl rfl (hG.prr 1 15 rfl) ?_
            obtain ⟨Z7, h7, hc7, hx7, hG7, hf7, m7_42⟩ := ct_8_7_42 (d := d + 0) (l := l) (D := D) (b0 := b0) (ad := ad) (Hb := Hb) (tau := tau) hx hG (show (-2147483648) ≤ Z 38 2 ∧ Z 38 2 ≤ 2147483647 by omega)
            refine Jcv0 hx (show mx_Sn _ _ 36 (mx_callv 8 3 0 39) from sn_142 36) a7 s7 hc7 rfl rfl rfl ?_
            refine mx_J.step (sn_142 39) (fun _ _ => rfl) ?_
            refine JgetR (g := 15) (b := 42) hx7 (show mx_Sn _ _ 40 (mx_getf 11 15 43) from sn_142 40) a1 s1 rfl rfl (hG7.prr 1 15 rfl) ?_
            refine mx_J.step (sn_142 43) (fun _ _ => rfl) ?_
            refine mx_J.step (sn_142 44) (fun _ _ => rfl) ?_
            have b8 : 0 ≤ Z7 42 x0 ∧ Z7 42 x0 ≤ 18 := m7_42 x0 (by omega) (by omega)
            have b9 : (-2147483648) ≤ Z7 42 x0 ∧ Z7 42 x0 ≤ 2147483647 := hG7.pr 42 x0
            refine JialdI (z := Z7 42 x0) hx7 (show mx_Sn _ _ 45 (mx_iald 46) from sn_142 45) a42 s42 (by omega) rfl ?_
            refine JcI (z := 1) (show mx_Sn _ _ 46 (mx_const (.int 1) 47) from sn_142 46) rfl ?_
            refine Jisub (show mx_Sn _ _ 47 (mx_isub 48) from sn_142 47) ?_
            refine JiastI hx7 (show mx_Sn _ _ 48 (mx_iast 1 49) from sn_142 48) a42 s42 rfl (by omega) (fun Z10 h10 hx10 hE10 => ?_)
            have hG10 := GI_up hG7 hE10 (show (-2147483648) ≤ (Z7 42 x0) - 1 ∧ (Z7 42 x0) - 1 ≤ 2147483647 by omega) trivial rfl
            have m10 : AB Z10 42 19 (-1) 18 := ab_up hE10 m7_42 (by omega) (by omega) (by omega)
            refine mx_J.step (sn_142 49) (fun _ _ => rfl) ?_
            refine JgetR (g := 15) (b := 42) hx10 (show mx_Sn _ _ 50 (mx_getf 11 15 53) from sn_142 50) a1 s1 rfl rfl (hG10.prr 1 15 rfl) ?_
            refine mx_J.step (sn_142 53) (fun _ _ => rfl) ?_
            refine mx_J.step (sn_142 54) (fun _ _ => rfl) ?_
            have b11 : (-1) ≤ Z10 42 x1 ∧ Z10 42 x1 ≤ 18 := m10 x1 (by omega) (by omega)
            have b12 : (-2147483648) ≤ Z10 42 x1 ∧ Z10 42 x1 ≤ 2147483647 := hG10.pr 42 x1
            refine JialdI (z := Z10 42 x1) hx10 (show mx_Sn _ _ 55 (mx_iald 56) from sn_142 55) a42 s42 (by omega) rfl ?_
            refine JcI (z := 1) (show mx_Sn _ _ 56 (mx_const (.int 1) 57) from sn_142 56) rfl ?_
            refine Jisub (show mx_Sn _ _ 57 (mx_isub 58) from sn_142 57) ?_
            refine JiastI hx10 (show mx_Sn _ _ 58 (mx_iast 1 59) from sn_142 58) a42 s42 rfl (by omega) (fun Z13 h13 hx13 hE13 => ?_)
            have hG13 := GI_up hG10 hE13 (show (-2147483648) ≤ (Z10 42 x1) - 1 ∧ (Z10 42 x1) - 1 ≤ 2147483647 by omega) trivial rfl
            have m13 : AB Z13 42 19 (-2) 18 := ab_up hE13 m10 (by omega) (by omega) (by omega)
            refine mx_J.step (sn_142 59) (fun _ _ => rfl) ?_
            refine JgetR (g := 15) (b := 42) hx13 (show mx_Sn _ _ 60 (mx_getf 11 15 63) from sn_142 60) a1 s1 rfl rfl (hG13.prr 1 15 rfl) ?_
            refine mx_J.step (sn_142 63) (fun _ _ => rfl) ?_
            have b14 : (-2) ≤ Z13 42 x0 ∧ Z13 42 x0 ≤ 18 := m13 x0 (by omega) (by omega)
            have b15 : (-2147483648) ≤ Z13 42 x0 ∧ Z13 42 x0 ≤ 2147483647 := hG13.pr 42 x0
            refine JialdI (z := Z13 42 x0) hx13 (show mx_Sn _ _ 64 (mx_iald 65) from sn_142 64) a42 s42 (by omega) rfl ?_
            have c85 : mx_J (tB l D b0 ad Hb tau) mt_142 (d + 2) 85 [some (.ref 1), some (.ref 38), some (xI x0), some (xI x1)] [] h13 Post := by
              refine JcI (z := 2) (show mx_Sn _ _ 85 (mx_const (.int 2) 86) from sn_142 85) rfl ?_
              exact mx_J.ret (sn_142 86) (fun _ _ => rfl) (hP 2 Z13 h13 hx13 hG13 (fr_tr (M := [(38, 2), (42, (-1))]) (fr_tr (M := [(38, 2), (42, (-1))]) (fr_tr (M := [(38, 2), (42, (-1))]) fr_rf (hf7) (M1 := []) rfl rfl) (fr_ua hE10) rfl rfl) (fr_ua hE13) rfl rfl) (by omega))
            refine Jif_lt (show mx_Sn _ _ 65 (mx_if_lt 85 68) from sn_142 65) (by omega) (fun q17 => ?_) (fun q17 => ?_)
            · skip
              exact c85 
            · skip
              refine mx_J.step (sn_142 68) (fun _ _ => rfl) ?_
              refine JgetR (g := 15) (b := 42) hx13 (show mx_Sn _ _ 69 (mx_getf 11 15 72) from sn_142 69) a1 s1 rfl rfl (hG13.prr 1 15 rfl) ?_
              refine mx_J.step (sn_142 72) (fun _ _ => rfl) ?_
              have b18 : (-2) ≤ Z13 42 x1 ∧ Z13 42 x1 ≤ 18 := m13 x1 (by omega) (by omega)
              have b19 : (-2147483648) ≤ Z13 42 x1 ∧ Z13 42 x1 ≤ 2147483647 := hG13.pr 42 x1
              refine JialdI (z := Z13 42 x1) hx13 (show mx_Sn _ _ 73 (mx_iald 74) from sn_142 73) a42 s42 (by omega) rfl ?_
              refine Jif_lt (show mx_Sn _ _ 74 (mx_if_lt 85 77) from sn_142 74) (by omega) (fun q20 => ?_) (fun q20 => ?_)
              · skip
                exact c85 
              · skip
                refine mx_J.step (sn_142 77) (fun _ _ => rfl) ?_
                refine mx_J.step (sn_142 78) (fun _ _ => rfl) ?_
                refine Jiadd (show mx_Sn _ _ 79 (mx_iadd 80) from sn_142 79) ?_
                refine JcI (z := 18) (show mx_Sn _ _ 80 (mx_const (.int 18) 82) from sn_142 80) rfl ?_
                refine Jicmp_le (show mx_Sn _ _ 82 (mx_icmp_le 87 85) from sn_142 82) (by omega) (by omega) (fun q21 => ?_) (fun q21 => ?_)
                · skip
                  refine mx_J.step (sn_142 87) (fun _ _ => rfl) ?_
                  refine JgetR (g := 15) (b := 42) hx13 (show mx_Sn _ _ 88 (mx_getf 11 15 91) from sn_142 88) a1 s1 rfl rfl (hG13.prr 1 15 rfl) ?_
                  refine mx_J.step (sn_142 91) (fun _ _ => rfl) ?_
                  refine mx_J.step (sn_142 92) (fun _ _ => rfl) ?_
                  refine Jiadd (show mx_Sn _ _ 93 (mx_iadd 94) from sn_142 93) ?_
                  refine mx_J.step (sn_142 94) (fun _ _ => rfl) ?_
                  have b22 : (-2) ≤ Z13 42 (x0 + x1) ∧ Z13 42 (x0 + x1) ≤ 18 := m13 (x0 + x1) (by omega) (by omega)
                  have b23 : (-2147483648) ≤ Z13 42 (x0 + x1) ∧ Z13 42 (x0 + x1) ≤ 2147483647 := hG13.pr 42 (x0 + x1)
                  refine JialdI (z := Z13 42 (x0 + x1)) hx13 (show mx_Sn _ _ 95 (mx_iald 96) from sn_142 95) a42 s42 (by omega) rfl ?_
                  refine JcI (z := 1) (show mx_Sn _ _ 96 (mx_const (.int 1) 97) from sn_142 96) rfl ?_
                  refine Jiadd (show mx_Sn _ _ 97 (mx_iadd 98) from sn_142 97) ?_
                  refine JiastI hx13 (show mx_Sn _ _ 98 (mx_iast 1 99) from sn_142 98) a42 s42 rfl (by omega) (fun Z24 h24 hx24 hE24 => ?_)
                  have hG24 := GI_up hG13 hE24 (show (-2147483648) ≤ (Z13 42 (x0 + x1)) + 1 ∧ (Z13 42 (x0 + x1)) + 1 ≤ 2147483647 by omega) trivial rfl
                  have m24 : AB Z24 42 19 (-2) 19 := ab_up hE24 m13 (by omega) (by omega) (by omega)
                  refine mx_J.step (sn_142 99) (fun _ _ => rfl) ?_
                  refine mx_J.step (sn_142 100) (fun _ _ => rfl) ?_
                  refine JgetR (g := 5) (b := 7) hx24 (show mx_Sn _ _ 101 (mx_getf 11 5 104) from sn_142 101) a1 s1 rfl rfl (hG24.prr 1 5 rfl) ?_
                  refine mx_J.step (sn_142 104) (fun _ _ => rfl) ?_
                  refine JgetR (g := 15) (b := 42) hx24 (show mx_Sn _ _ 105 (mx_getf 11 15 108) from sn_142 105) a1 s1 rfl rfl (hG24.prr 1 15 rfl) ?_
                  obtain ⟨z25, hc25, b25⟩ := ct_9_7_42 (d := d + 0) (l := l) (D := D) (b0 := b0) (ad := ad) (Hb := Hb) (tau := tau) hx24 hG24  (ab_mono m24 (by omega) (by omega) (by omega))
                  refine Jcv hx24 (show mx_Sn _ _ 108 (mx_callv 9 2 0 111) from sn_142 108) a7 s7 hc25 rfl rfl rfl ?_
                  refine JputI (g := 2) hx24 (show mx_Sn _ _ 111 (mx_putf 1 5 2 (.int) 114) from sn_142 111) a38 s38 rfl rfl rfl rfl (fun Z26 h26 hx26 hE26 => ?_)
                  have hG26 := GI_up hG24 hE26 (show 0 ≤ z25 ∧ z25 ≤ 384 by omega) trivial rfl
                  refine JcI (z := 0) (show mx_Sn _ _ 114 (mx_const (.int 0) 115) from sn_142 114) rfl ?_
                  exact mx_J.ret (sn_142 115) (fun _ _ => rfl) (hP 0 Z26 h26 hx26 hG26 (fr_tr (M := [(38, 2), (42, (-1))]) (fr_tr (M := [(38, 2), (42, (-1))]) (fr_tr (M := [(38, 2), (42, (-1))]) (fr_tr (M := [(38, 2), (42, (-1))]) (fr_tr (M := [(38, 2), (42, (-1))]) fr_rf (hf7) (M1 := []) rfl rfl) (fr_ua hE10) rfl rfl) (fr_ua hE13) rfl rfl) (fr_ua hE24) rfl rfl) (fr_up hE26) rfl rfl) (by omega))
                · skip
                  exact c85 
          · skip
            exact c22 
theorem ct_142_1_38 {l : Launch} {D : va_G} {b0 : Nat} {ad : Nat → Nat} {Hb : Heap} {tau : Nat → Int64} {d n s : Nat} {S : Nat → xS} {Z : xZ} {h : mx_H} (hx : XH n s S Z h) (hG : GI n S Z) {x0 x1 : Int} (p0 : (-2147483648) ≤ x0 ∧ x0 ≤ 2147483647) (p1 : (-2147483648) ≤ x1 ∧ x1 ≤ 2147483647) : ∃ (z : Int) (Z' : xZ) (h' : mx_H), mx_Ca (tB l D b0 ad Hb tau) (d + 3) 142 [.ref 1, .ref 38, xI x0, xI x1] h (some (xI z), h') ∧ XH n s S Z' h' ∧ GI n S Z' ∧ fr' [(38, 2), (42, (-1))] Z Z' ∧ (0 ≤ z ∧ z ≤ 2) := by
  obtain ⟨r, hca, z, Z', h', e, q⟩ := Jmt (B := tB l D b0 ad Hb tau) (M := mt_142) (mi := 142) (as := [.ref 1, .ref 38, xI x0, xI x1]) (d := d + 2) (ls := [some (.ref 1), some (.ref 38), some (xI x0), some (xI x1)]) rfl rfl rfl rfl rfl rfl (cw_142_1_38 (l := l) (D := D) (b0 := b0) (ad := ad) (Hb := Hb) (tau := tau) (d := d) (Post := fun r => ∃ (z : Int) (Z' : xZ) (h' : mx_H), r = (some (xI z), h') ∧ XH n s S Z' h' ∧ GI n S Z' ∧ fr' [(38, 2), (42, (-1))] Z Z' ∧ (0 ≤ z ∧ z ≤ 2)) hx hG p0 p1 (fun z Z' h' q1 q2 q3 q4 => ⟨z, Z', h', rfl, q1, q2, q3, q4⟩))
  subst e; exact ⟨z, Z', h', hca, q⟩
set_option maxRecDepth 100000 in
theorem cw_27_12 {l : Launch} {D : va_G} {b0 : Nat} {ad : Nat → Nat} {Hb : Heap} {tau : Nat → Int64} {d n s : Nat} {S : Nat → xS} {Z : xZ} {h : mx_H} {Post : mx_R → Prop} (hx : XH n s S Z h) (hG : GI n S Z) {x0 : Int} (p0 : (-2147483648) ≤ x0 ∧ x0 ≤ 2147483647) (hP : ∀ (z : Int) (Z' : xZ) (h' : mx_H), XH n s S Z' h' → GI n S Z' → fr' [(14, (-1)), (16, (-1)), (17, (-1)), (18, (-1)), (19, (-1))] Z Z' → 0 ≤ z ∧ z ≤ 384 → Post (some (xI z), h')) : mx_J (tB l D b0 ad Hb tau) mt_27 (d + 8) 0 [some (.ref 12), some (xI x0)] [] h Post := by
    have a12 : 12 < n := lt83 hG.1 rfl
    have s12 : S 12 = .inl (4, [2, 2, 0, 2, 2, 2, 2, 2, 2]) := hG.2.1 12 rfl
    refine JcI (z := 0) (show mx_Sn _ _ 0 (mx_const (.int 0) 1) from sn_27 0) rfl ?_
    refine mx_J.step (sn_27 1) (fun _ _ => rfl) ?_
    refine mx_J.step (sn_27 2) (fun _ _ => rfl) ?_
    refine JcI (z := 0) (show mx_Sn _ _ 3 (mx_const (.int 0) 4) from sn_27 3) rfl ?_
    obtain ⟨z1, Z1, h1, hc1, hx1, hG1, hf1, b1⟩ := ct_26_12 (d := d + 0) (l := l) (D := D) (b0 := b0) (ad := ad) (Hb := Hb) (tau := tau) hx hG (show (-2147483648) ≤ x0 ∧ x0 ≤ 2147483647 by omega) (show (-2147483648) ≤ 0 ∧ 0 ≤ 2147483647 by omega)
    refine Jcv hx (show mx_Sn _ _ 4 (mx_callv 26 3 4 7) from sn_27 4) a12 s12 hc1 rfl rfl rfl ?_
    refine Jmmax (show mx_Sn _ _ 7 (mx_mmax 10) from sn_27 7) (by omega) (by omega) ⟨_, rfl⟩ rfl (fun y2 hy2 => ?_)
    exact mx_J.ret (sn_27 10) (fun _ _ => rfl) (hP y2 Z1 h1 hx1 hG1 (fr_tr (M := [(14, (-1)), (16, (-1)), (17, (-1)), (18, (-1)), (19, (-1))]) fr_rf (hf1) (M1 := []) rfl rfl) (by omega))
theorem ct_27_12 {l : Launch} {D : va_G} {b0 : Nat} {ad : Nat → Nat} {Hb : Heap} {tau : Nat → Int64} {d n s : Nat} {S : Nat → xS} {Z : xZ} {h : mx_H} (hx : XH n s S Z h) (hG : GI n S Z) {x0 : Int} (p0 : (-2147483648) ≤ x0 ∧ x0 ≤ 2147483647) : ∃ (z : Int) (Z' : xZ) (h' : mx_H), mx_Ca (tB l D b0 ad Hb tau) (d + 9) 27 [.ref 12, xI x0] h (some (xI z), h') ∧ XH n s S Z' h' ∧ GI n S Z' ∧ fr' [(14, (-1)), (16, (-1)), (17, (-1)), (18, (-1)), (19, (-1))] Z Z' ∧ (0 ≤ z ∧ z ≤ 384) := by
  obtain ⟨r, hca, z, Z', h', e, q⟩ := Jmt (B := tB l D b0 ad Hb tau) (M := mt_27) (mi := 27) (as := [.ref 12, xI x0]) (d := d + 8) (ls := [some (.ref 12), some (xI x0)]) rfl rfl rfl rfl rfl rfl (cw_27_12 (l := l) (D := D) (b0 := b0) (ad := ad) (Hb := Hb) (tau := tau) (d := d) (Post := fun r => ∃ (z : Int) (Z' : xZ) (h' : mx_H), r = (some (xI z), h') ∧ XH n s S Z' h' ∧ GI n S Z' ∧ fr' [(14, (-1)), (16, (-1)), (17, (-1)), (18, (-1)), (19, (-1))] Z Z' ∧ (0 ≤ z ∧ z ≤ 384)) hx hG p0 (fun z Z' h' q1 q2 q3 q4 => ⟨z, Z', h', rfl, q1, q2, q3, q4⟩))
  subst e; exact ⟨z, Z', h', hca, q⟩
set_option maxRecDepth 100000 in
theorem cw_93_1 {l : Launch} {D : va_G} {b0 : Nat} {ad : Nat → Nat} {Hb : Heap} {tau : Nat → Int64} {d n s : Nat} {S : Nat → xS} {Z : xZ} {h : mx_H} {Post : mx_R → Prop} (hx : XH n s S Z h) (hG : GI n S Z) {x0 : Int} (p0 : (-2147483648) ≤ x0 ∧ x0 ≤ 2147483647) (hP : ∀ (z : Int) (Z' : xZ) (h' : mx_H), XH n s S Z' h' → GI n S Z' → fr' [(16, (-1)), (17, (-1)), (18, (-1))] Z Z' → (-2) ≤ z ∧ z ≤ 18 → Post (some (xI z), h')) : mx_J (tB l D b0 ad Hb tau) mt_93 (d + 6) 0 [some (.ref 1), some (xI x0), none] [] h Post := by
    have a1 : 1 < n := lt83 hG.1 rfl
    have s1 : S 1 = .inl (11, [2, 0, 0, 0, 2, 2, 2, 2, 2, 2, 2, 2, 2, 2, 2, 2, 2]) := hG.2.1 1 rfl
    have a7 : 7 < n := lt83 hG.1 rfl
    have s7 : S 7 = .inl (0, [2, 2, 2, 2, 0, 0]) := hG.2.1 7 rfl
    have a12 : 12 < n := lt83 hG.1 rfl
    have s12 : S 12 = .inl (4, [2, 2, 0, 2, 2, 2, 2, 2, 2]) := hG.2.1 12 rfl
    have a36 : 36 < n := lt83 hG.1 rfl
    have s36 : S 36 = .inl (5, [2, 0, 0, 0, 0, 0]) := hG.2.1 36 rfl
    refine mx_J.step (sn_93 0) (fun _ _ => rfl) ?_
    refine JgetR (g := 5) (b := 7) hx (show mx_Sn _ _ 1 (mx_getf 11 5 4) from sn_93 1) a1 s1 rfl rfl (hG.prr 1 5 rfl) ?_
    refine mx_J.step (sn_93 4) (fun _ _ => rfl) ?_
    refine JgetR (g := 12) (b := 36) hx (show mx_Sn _ _ 5 (mx_getf 11 12 8) from sn_93 5) a1 s1 rfl rfl (hG.prr 1 12 rfl) ?_
    have b1 : 0 ≤ Z 36 2 ∧ Z 36 2 ≤ 384 := hG.pr 36 2
    refine JgetI (g := 2) (z := Z 36 2) hx (show mx_Sn _ _ 8 (mx_getf 5 2 11) from sn_93 8) a36 s36 rfl rfl rfl ?_
    obtain ⟨z2, hc2, b2⟩ := ct_5_7 (d := d + 5) (l := l) (D := D) (b0 := b0) (ad := ad) (Hb := Hb) (tau := tau) hx hG (show (-2147483648) ≤ Z 36 2 ∧ Z 36 2 ≤ 2147483647 by omega)
    refine Jcv hx (show mx_Sn _ _ 11 (mx_callv 5 2 0 14) from sn_93 11) a7 s7 hc2 rfl rfl rfl ?_
    refine mx_J.step (ls2 := [some (.ref 1), some (xI x0), some (xI z2)]) (sn_93 14) (fun _ _ => rfl) ?_
    refine mx_J.step (sn_93 15) (fun _ _ => rfl) ?_
    have c24 : mx_J (tB l D b0 ad Hb tau) mt_93 (d + 6) 24 [some (.ref 1), some (xI x0), some (xI z2)] [] h Post := by
      refine JcI (z := (-2)) (show mx_Sn _ _ 24 (mx_const (.int (-2)) 26) from sn_93 24) rfl ?_
      exact mx_J.ret (sn_93 26) (fun _ _ => rfl) (hP (-2) Z h hx hG fr_rf (by omega))
    refine Jif_lt (show mx_Sn _ _ 16 (mx_if_lt 24 19) from sn_93 16) (by omega) (fun q4 => ?_) (fun q4 => ?_)
    · skip
      exact c24 
    · skip
      refine mx_J.step (sn_93 19) (fun _ _ => rfl) ?_
      refine mx_J.step (sn_93 20) (fun _ _ => rfl) ?_
      refine Jicmp_lt (show mx_Sn _ _ 21 (mx_icmp_lt 27 24) from sn_93 21) (by omega) (by omega) (fun q5 => ?_) (fun q5 => ?_)
      · skip
        refine mx_J.step (sn_93 27) (fun _ _ => rfl) ?_
        refine JgetR (g := 6) (b := 12) hx (show mx_Sn _ _ 28 (mx_getf 11 6 31) from sn_93 28) a1 s1 rfl rfl (hG.prr 1 6 rfl) ?_
        refine mx_J.step (sn_93 31) (fun _ _ => rfl) ?_
        refine JgetR (g := 5) (b := 7) hx (show mx_Sn _ _ 32 (mx_getf 11 5 35) from sn_93 32) a1 s1 rfl rfl (hG.prr 1 5 rfl) ?_
        refine mx_J.step (sn_93 35) (fun _ _ => rfl) ?_
        refine JgetR (g := 12) (b := 36) hx (show mx_Sn _ _ 36 (mx_getf 11 12 39) from sn_93 36) a1 s1 rfl rfl (hG.prr 1 12 rfl) ?_
        have b6 : 0 ≤ Z 36 2 ∧ Z 36 2 ≤ 384 := hG.pr 36 2
        refine JgetI (g := 2) (z := Z 36 2) hx (show mx_Sn _ _ 39 (mx_getf 5 2 42) from sn_93 39) a36 s36 rfl rfl rfl ?_
        refine mx_J.step (sn_93 42) (fun _ _ => rfl) ?_
        obtain ⟨z7, hc7, b7⟩ := ct_6_7 (d := d + 4) (l := l) (D := D) (b0 := b0) (ad := ad) (Hb := Hb) (tau := tau) hx hG (show (-2147483648) ≤ Z 36 2 ∧ Z 36 2 ≤ 2147483647 by omega) (show (-2147483648) ≤ x0 ∧ x0 ≤ 2147483647 by omega)
        refine Jcv hx (show mx_Sn _ _ 43 (mx_callv 6 3 0 46) from sn_93 43) a7 s7 hc7 rfl rfl rfl ?_
        refine mx_J.step (sn_93 46) (fun _ _ => rfl) ?_
        refine mx_J.step (sn_93 47) (fun _ _ => rfl) ?_
        obtain ⟨z8, Z8, h8, hc8, hx8, hG8, hf8, b8⟩ := ct_30_12 (d := d + 0) (l := l) (D := D) (b0 := b0) (ad := ad) (Hb := Hb) (tau := tau) hx hG (show 0 ≤ z7 ∧ z7 ≤ 18 by omega) (show 0 ≤ x0 ∧ x0 ≤ 17 by omega) (show 0 ≤ z2 ∧ z2 ≤ 18 by omega)
        refine Jcv hx (show mx_Sn _ _ 48 (mx_callv 30 4 4 51) from sn_93 48) a12 s12 hc8 rfl rfl rfl ?_
        exact mx_J.ret (sn_93 51) (fun _ _ => rfl) (hP z8 Z8 h8 hx8 hG8 (fr_tr (M := [(16, (-1)), (17, (-1)), (18, (-1))]) fr_rf (hf8) (M1 := []) rfl rfl) (by omega))
      · skip
        exact c24 
theorem ct_93_1 {l : Launch} {D : va_G} {b0 : Nat} {ad : Nat → Nat} {Hb : Heap} {tau : Nat → Int64} {d n s : Nat} {S : Nat → xS} {Z : xZ} {h : mx_H} (hx : XH n s S Z h) (hG : GI n S Z) {x0 : Int} (p0 : (-2147483648) ≤ x0 ∧ x0 ≤ 2147483647) : ∃ (z : Int) (Z' : xZ) (h' : mx_H), mx_Ca (tB l D b0 ad Hb tau) (d + 7) 93 [.ref 1, xI x0] h (some (xI z), h') ∧ XH n s S Z' h' ∧ GI n S Z' ∧ fr' [(16, (-1)), (17, (-1)), (18, (-1))] Z Z' ∧ ((-2) ≤ z ∧ z ≤ 18) := by
  obtain ⟨r, hca, z, Z', h', e, q⟩ := Jmt (B := tB l D b0 ad Hb tau) (M := mt_93) (mi := 93) (as := [.ref 1, xI x0]) (d := d + 6) (ls := [some (.ref 1), some (xI x0), none]) rfl rfl rfl rfl rfl rfl (cw_93_1 (l := l) (D := D) (b0 := b0) (ad := ad) (Hb := Hb) (tau := tau) (d := d) (Post := fun r => ∃ (z : Int) (Z' : xZ) (h' : mx_H), r = (some (xI z), h') ∧ XH n s S Z' h' ∧ GI n S Z' ∧ fr' [(16, (-1)), (17, (-1)), (18, (-1))] Z Z' ∧ ((-2) ≤ z ∧ z ≤ 18)) hx hG p0 (fun z Z' h' q1 q2 q3 q4 => ⟨z, Z', h', rfl, q1, q2, q3, q4⟩))
  subst e; exact ⟨z, Z', h', hca, q⟩
set_option maxRecDepth 100000 in
theorem cw_94_1 {l : Launch} {D : va_G} {b0 : Nat} {ad : Nat → Nat} {Hb : Heap} {tau : Nat → Int64} {d n s : Nat} {S : Nat → xS} {Z : xZ} {h : mx_H} {Post : mx_R → Prop} (hx : XH n s S Z h) (hG : GI n S Z) {x0 x1 : Int} (p0 : (-2147483648) ≤ x0 ∧ x0 ≤ 2147483647) (p1 : (-2147483648) ≤ x1 ∧ x1 ≤ 2147483647) (hP : ∀ (z : Int) (Z' : xZ) (h' : mx_H), XH n s S Z' h' → GI n S Z' → fr' [(14, (-1)), (16, (-1)), (17, (-1)), (18, (-1)), (19, (-1))] Z Z' → (-5) ≤ z ∧ z ≤ 384 → Post (some (xI z), h')) : mx_J (tB l D b0 ad Hb tau) mt_94 (d + 8) 0 [some (.ref 1), some (xI x0), some (xI x1), none] [] h Post := by
    have a1 : 1 < n := lt83 hG.1 rfl
    have s1 : S 1 = .inl (11, [2, 0, 0, 0, 2, 2, 2, 2, 2, 2, 2, 2, 2, 2, 2, 2, 2]) := hG.2.1 1 rfl
    have a7 : 7 < n := lt83 hG.1 rfl
    have s7 : S 7 = .inl (0, [2, 2, 2, 2, 0, 0]) := hG.2.1 7 rfl
    have a12 : 12 < n := lt83 hG.1 rfl
    have s12 : S 12 = .inl (4, [2, 2, 0, 2, 2, 2, 2, 2, 2]) := hG.2.1 12 rfl
    have a36 : 36 < n := lt83 hG.1 rfl
    have s36 : S 36 = .inl (5, [2, 0, 0, 0, 0, 0]) := hG.2.1 36 rfl
    refine mx_J.step (sn_94 0) (fun _ _ => rfl) ?_
    have c9 : mx_J (tB l D b0 ad Hb tau) mt_94 (d + 8) 9 [some (.ref 1), some (xI x0), some (xI x1), none] [] h Post := by
      refine JcI (z := (-2)) (show mx_Sn _ _ 9 (mx_const (.int (-2)) 11) from sn_94 9) rfl ?_
      exact mx_J.ret (sn_94 11) (fun _ _ => rfl) (hP (-2) Z h hx hG fr_rf (by omega))
    refine Jif_lt (show mx_Sn _ _ 1 (mx_if_lt 9 4) from sn_94 1) (by omega) (fun q2 => ?_) (fun q2 => ?_)
    · skip
      exact c9 
    · skip
      refine mx_J.step (sn_94 4) (fun _ _ => rfl) ?_
      refine JcI (z := 2) (show mx_Sn _ _ 5 (mx_const (.int 2) 6) from sn_94 5) rfl ?_
      refine Jicmp_le (show mx_Sn _ _ 6 (mx_icmp_le 12 9) from sn_94 6) (by omega) (by omega) (fun q3 => ?_) (fun q3 => ?_)
      · skip
        refine mx_J.step (sn_94 12) (fun _ _ => rfl) ?_
        refine JgetR (g := 6) (b := 12) hx (show mx_Sn _ _ 13 (mx_getf 11 6 16) from sn_94 13) a1 s1 rfl rfl (hG.prr 1 6 rfl) ?_
        refine mx_J.step (sn_94 16) (fun _ _ => rfl) ?_
        refine JgetR (g := 12) (b := 36) hx (show mx_Sn _ _ 17 (mx_getf 11 12 20) from sn_94 17) a1 s1 rfl rfl (hG.prr 1 12 rfl) ?_
        have b4 : 0 ≤ Z 36 2 ∧ Z 36 2 ≤ 384 := hG.pr 36 2
        refine JgetI (g := 2) (z := Z 36 2) hx (show mx_Sn _ _ 20 (mx_getf 5 2 23) from sn_94 20) a36 s36 rfl rfl rfl ?_
        refine mx_J.step (sn_94 23) (fun _ _ => rfl) ?_
        obtain ⟨z5, Z5, h5, hc5, hx5, hG5, hf5, b5⟩ := ct_26_12 (d := d + 0) (l := l) (D := D) (b0 := b0) (ad := ad) (Hb := Hb) (tau := tau) hx hG (show (-2147483648) ≤ Z 36 2 ∧ Z 36 2 ≤ 2147483647 by omega) (show (-2147483648) ≤ x0 ∧ x0 ≤ 2147483647 by omega)
        refine Jcv hx (show mx_Sn _ _ 24 (mx_callv 26 3 4 27) from sn_94 24) a12 s12 hc5 rfl rfl rfl ?_
        refine mx_J.step (ls2 := [some (.ref 1), some (xI x0), some (xI x1), some (xI z5)]) (sn_94 27) (fun _ _ => rfl) ?_
        refine mx_J.step (sn_94 28) (fun _ _ => rfl) ?_
        refine Jif_ge (show mx_Sn _ _ 29 (mx_if_ge 35 32) from sn_94 29) (by omega) (fun q6 => ?_) (fun q6 => ?_)
        · skip
          refine mx_J.step (sn_94 35) (fun _ _ => rfl) ?_
          refine Jif_ne (show mx_Sn _ _ 36 (mx_if_ne 41 39) from sn_94 36) (by omega) (fun q7 => ?_) (fun q7 => ?_)
          · skip
            refine mx_J.step (sn_94 41) (fun _ _ => rfl) ?_
            refine JcI (z := 1) (show mx_Sn _ _ 42 (mx_const (.int 1) 43) from sn_94 42) rfl ?_
            have c66 : ∀ (k8_0 : Int), 0 ≤ k8_0 ∧ k8_0 ≤ 18 → mx_J (tB l D b0 ad Hb tau) mt_94 (d + 8) 66 [some (.ref 1), some (xI x0), some (xI x1), some (xI z5)] [xI k8_0] h5 Post := by
              intro k8_0 f8_0
              exact mx_J.ret (sn_94 66) (fun _ _ => rfl) (hP k8_0 Z5 h5 hx5 hG5 (fr_tr (M := [(14, (-1)), (16, (-1)), (17, (-1)), (18, (-1)), (19, (-1))]) fr_rf (hf5) (M1 := []) rfl rfl) (by omega))
            refine Jicmp_ne (show mx_Sn _ _ 43 (mx_icmp_ne 57 46) from sn_94 43) (by omega) (by omega) (fun q9 => ?_) (fun q9 => ?_)
            · skip
              refine mx_J.step (sn_94 57) (fun _ _ => rfl) ?_
              refine JgetR (g := 5) (b := 7) hx5 (show mx_Sn _ _ 58 (mx_getf 11 5 61) from sn_94 58) a1 s1 rfl rfl (hG5.prr 1 5 rfl) ?_
              refine mx_J.step (sn_94 61) (fun _ _ => rfl) ?_
              refine JcI (z := 0) (show mx_Sn _ _ 62 (mx_const (.int 0) 63) from sn_94 62) rfl ?_
              obtain ⟨z10, hc10, b10⟩ := ct_6_7 (d := d + 6) (l := l) (D := D) (b0 := b0) (ad := ad) (Hb := Hb) (tau := tau) hx5 hG5 (show (-2147483648) ≤ z5 ∧ z5 ≤ 2147483647 by omega) (show (-2147483648) ≤ 0 ∧ 0 ≤ 2147483647 by omega)
              have eq11 : Z5 9 (z5 * 18 + 0) = Z 9 (z5 * 18 + 0) := (hf5 9 (z5 * 18 + 0) rfl)
              refine Jcv hx5 (show mx_Sn _ _ 63 (mx_callv 6 3 0 66) from sn_94 63) a7 s7 hc10 rfl rfl rfl ?_
              exact c66 z10 (by omega)
            · skip
              refine mx_J.step (sn_94 46) (fun _ _ => rfl) ?_
              refine JgetR (g := 5) (b := 7) hx5 (show mx_Sn _ _ 47 (mx_getf 11 5 50) from sn_94 47) a1 s1 rfl rfl (hG5.prr 1 5 rfl) ?_
              refine mx_J.step (sn_94 50) (fun _ _ => rfl) ?_
              obtain ⟨z12, hc12, b12⟩ := ct_5_7 (d := d + 7) (l := l) (D := D) (b0 := b0) (ad := ad) (Hb := Hb) (tau := tau) hx5 hG5 (show (-2147483648) ≤ z5 ∧ z5 ≤ 2147483647 by omega)
              have eq13 : Z5 7 5 = Z 7 5 := (hf5 7 5 rfl)
              have eq14 : Z5 10 z5 = Z 10 z5 := (hf5 10 z5 rfl)
              refine Jcv hx5 (show mx_Sn _ _ 51 (mx_callv 5 2 0 54) from sn_94 51) a7 s7 hc12 rfl rfl rfl ?_
              refine mx_J.step (sn_94 54) (fun _ _ => rfl) ?_
              exact c66 z12 (by omega)
          · skip
            refine mx_J.step (sn_94 39) (fun _ _ => rfl) ?_
            exact mx_J.ret (sn_94 40) (fun _ _ => rfl) (hP z5 Z5 h5 hx5 hG5 (fr_tr (M := [(14, (-1)), (16, (-1)), (17, (-1)), (18, (-1)), (19, (-1))]) fr_rf (hf5) (M1 := []) rfl rfl) (by omega))
        · skip
          refine JcI (z := (-5)) (show mx_Sn _ _ 32 (mx_const (.int (-5)) 34) from sn_94 32) rfl ?_
          exact mx_J.ret (sn_94 34) (fun _ _ => rfl) (hP (-5) Z5 h5 hx5 hG5 (fr_tr (M := [(14, (-1)), (16, (-1)), (17, (-1)), (18, (-1)), (19, (-1))]) fr_rf (hf5) (M1 := []) rfl rfl) (by omega))
      · skip
        exact c9 
theorem ct_94_1 {l : Launch} {D : va_G} {b0 : Nat} {ad : Nat → Nat} {Hb : Heap} {tau : Nat → Int64} {d n s : Nat} {S : Nat → xS} {Z : xZ} {h : mx_H} (hx : XH n s S Z h) (hG : GI n S Z) {x0 x1 : Int} (p0 : (-2147483648) ≤ x0 ∧ x0 ≤ 2147483647) (p1 : (-2147483648) ≤ x1 ∧ x1 ≤ 2147483647) : ∃ (z : Int) (Z' : xZ) (h' : mx_H), mx_Ca (tB l D b0 ad Hb tau) (d + 9) 94 [.ref 1, xI x0, xI x1] h (some (xI z), h') ∧ XH n s S Z' h' ∧ GI n S Z' ∧ fr' [(14, (-1)), (16, (-1)), (17, (-1)), (18, (-1)), (19, (-1))] Z Z' ∧ ((-5) ≤ z ∧ z ≤ 384) := by
  obtain ⟨r, hca, z, Z', h', e, q⟩ := Jmt (B := tB l D b0 ad Hb tau) (M := mt_94) (mi := 94) (as := [.ref 1, xI x0, xI x1]) (d := d + 8) (ls := [some (.ref 1), some (xI x0), some (xI x1), none]) rfl rfl rfl rfl rfl rfl (cw_94_1 (l := l) (D := D) (b0 := b0) (ad := ad) (Hb := Hb) (tau := tau) (d := d) (Post := fun r => ∃ (z : Int) (Z' : xZ) (h' : mx_H), r = (some (xI z), h') ∧ XH n s S Z' h' ∧ GI n S Z' ∧ fr' [(14, (-1)), (16, (-1)), (17, (-1)), (18, (-1)), (19, (-1))] Z Z' ∧ ((-5) ≤ z ∧ z ≤ 384)) hx hG p0 p1 (fun z Z' h' q1 q2 q3 q4 => ⟨z, Z', h', rfl, q1, q2, q3, q4⟩))
  subst e; exact ⟨z, Z', h', hca, q⟩
set_option maxRecDepth 100000 in
theorem cw_15_20 {l : Launch} {D : va_G} {b0 : Nat} {ad : Nat → Nat} {Hb : Heap} {tau : Nat → Int64} {d n s : Nat} {S : Nat → xS} {Z : xZ} {h : mx_H} {Post : mx_R → Prop} (hx : XH n s S Z h) (hG : GI n S Z) {x0 : Int} (p0 : 0 ≤ x0 ∧ x0 ≤ 384) (hP : ∀ (Z' : xZ) (h' : mx_H), XH n s S Z' h' → GI n S Z' → fr' [(14, (-1)), (16, (-1)), (17, (-1)), (18, (-1)), (19, (-1)), (20, 6), (20, 7), (21, (-1)), (22, (-1))] Z Z' → Post (none, h')) : mx_J (tB l D b0 ad Hb tau) mt_15 (d + 9) 0 [some (.ref 20), some (xI x0), none, none] [] h Post := by
    have a12 : 12 < n := lt83 hG.1 rfl
    have s12 : S 12 = .inl (4, [2, 2, 0, 2, 2, 2, 2, 2, 2]) := hG.2.1 12 rfl
    have a20 : 20 < n := lt83 hG.1 rfl
    have s20 : S 20 = .inl (2, [2, 2, 2, 2, 2, 2, 0, 0, 0, 0, 0, 0]) := hG.2.1 20 rfl
    have a21 : 21 < n := lt83 hG.1 rfl
    have s21 : S 21 = .inr (.int, 385, 0) := hG.2.1 21 rfl
    have a22 : 22 < n := lt83 hG.1 rfl
    have s22 : S 22 = .inr (.int, 385, 0) := hG.2.1 22 rfl
    refine mx_J.step (sn_15 0) (fun _ _ => rfl) ?_
    refine JgetR (g := 3) (b := 22) hx (show mx_Sn _ _ 1 (mx_getf 2 3 4) from sn_15 1) a20 s20 rfl rfl (hG.prr 20 3 rfl) ?_
    refine JcI (z := (-1)) (show mx_Sn _ _ 4 (mx_const (.int (-1)) 5) from sn_15 4) rfl ?_
    obtain ⟨Z1, h1, hc1, hx1, hG1, hf1⟩ := ct_284_22_m1 (d := d + 8) (l := l) (D := D) (b0 := b0) (ad := ad) (Hb := Hb) (tau := tau) hx hG 
    refine Jcs0 (show mx_Sn _ _ 5 (mx_calls 284 2 8) from sn_15 5) hc1 rfl rfl rfl ?_
    refine mx_J.step (sn_15 8) (fun _ _ => rfl) ?_
    refine mx_J.step (ls2 := [some (.ref 20), some (xI x0), some (xI x0), none]) (sn_15 9) (fun _ _ => rfl) ?_
    refine JcI (z := 0) (show mx_Sn _ _ 10 (mx_const (.int 0) 11) from sn_15 10) rfl ?_
    refine mx_J.step (ls2 := [some (.ref 20), some (xI x0), some (xI x0), some (xI 0)]) (sn_15 11) (fun _ _ => rfl) ?_
    have c12 : ∀ (m2 : Nat) (w2_2 : Int) (w2_3 : Int) (Z3 : xZ) (h3 : mx_H), 385 - w2_3 < (m2 : Int) → 0 ≤ w2_2 ∧ w2_2 ≤ 384 → 0 ≤ w2_3 ∧ w2_3 ≤ 385 → XH n s S Z3 h3 → GI n S Z3 → fr' [(14, (-1)), (16, (-1)), (17, (-1)), (18, (-1)), (19, (-1)), (21, (-1)), (22, (-1))] Z1 Z3 → mx_J (tB l D b0 ad Hb tau) mt_15 (d + 9) 12 [some (.ref 20), some (xI x0), some (xI w2_2), some (xI w2_3)] [] h3 Post := by
      intro m2
      induction m2 with
      | zero => intro w2_2 w2_3 Z3 h3 q2 f2_0 f2_1 hx3 hG3 hf3; exact absurd q2 (by omega)
      | succ m2 ih2 =>
        intro w2_2 w2_3 Z3 h3 q2 f2_0 f2_1 hx3 hG3 hf3
        refine mx_J.step (sn_15 12) (fun _ _ => rfl) ?_
        refine JcI (z := 385) (show mx_Sn _ _ 13 (mx_const (.int 385) 16) from sn_15 13) rfl ?_
        have c57 : mx_J (tB l D b0 ad Hb tau) mt_15 (d + 9) 57 [some (.ref 20), some (xI x0), some (xI w2_2), some (xI w2_3)] [] h3 Post := by
          refine mx_J.step (sn_15 57) (fun _ _ => rfl) ?_
          refine JcI (z := 0) (show mx_Sn _ _ 58 (mx_const (.int 0) 59) from sn_15 58) rfl ?_
          refine mx_J.step (sn_15 59) (fun _ _ => rfl) ?_
          refine JgetR (g := 3) (b := 22) hx3 (show mx_Sn _ _ 60 (mx_getf 2 3 63) from sn_15 60) a20 s20 rfl rfl (hG3.prr 20 3 rfl) ?_
          refine mx_J.step (sn_15 63) (fun _ _ => rfl) ?_
          have b5 : (-2147483648) ≤ Z3 22 w2_2 ∧ Z3 22 w2_2 ≤ 2147483647 := hG3.pr 22 w2_2
          refine JialdI (z := Z3 22 w2_2) hx3 (show mx_Sn _ _ 64 (mx_iald 65) from sn_15 64) a22 s22 (by omega) rfl ?_
          refine Jmmax (show mx_Sn _ _ 65 (mx_mmax 68) from sn_15 65) (by omega) (by omega) ⟨_, rfl⟩ rfl (fun y6 hy6 => ?_)
          refine JputI (g := 6) hx3 (show mx_Sn _ _ 68 (mx_putf 1 2 6 (.int) 71) from sn_15 68) a20 s20 rfl rfl rfl rfl (fun Z7 h7 hx7 hE7 => ?_)
          have hG7 := GI_up hG3 hE7 (show 0 ≤ y6 ∧ y6 ≤ 2147483647 by omega) trivial rfl
          refine mx_J.step (sn_15 71) (fun _ _ => rfl) ?_
          refine JcI (z := 1) (show mx_Sn _ _ 72 (mx_const (.int 1) 73) from sn_15 72) rfl ?_
          refine mx_J.step (sn_15 73) (fun _ _ => rfl) ?_
          refine mx_J.step (sn_15 74) (fun _ _ => rfl) ?_
          refine JgetI (g := 6) (z := y6) hx7 (show mx_Sn _ _ 75 (mx_getf 2 6 78) from sn_15 75) a20 s20 rfl rfl (up_at hE7) ?_
          refine Jisub (show mx_Sn _ _ 78 (mx_isub 79) from sn_15 78) ?_
          refine Jmmax (show mx_Sn _ _ 79 (mx_mmax 82) from sn_15 79) (by omega) (by omega) ⟨_, rfl⟩ rfl (fun y8 hy8 => ?_)
          refine JputI (g := 7) hx7 (show mx_Sn _ _ 82 (mx_putf 1 2 7 (.int) 85) from sn_15 82) a20 s20 rfl rfl rfl rfl (fun Z9 h9 hx9 hE9 => ?_)
          have hG9 := GI_up hG7 hE9 (show 1 ≤ y8 ∧ y8 ≤ 2147483647 by omega) trivial rfl
          exact mx_J.ret (sn_15 85) (fun _ _ => rfl) (hP Z9 h9 hx9 hG9 (fr_tr (M := [(14, (-1)), (16, (-1)), (17, (-1)), (18, (-1)), (19, (-1)), (20, 6), (20, 7), (21, (-1)), (22, (-1))]) (fr_tr (M := [(14, (-1)), (16, (-1)), (17, (-1)), (18, (-1)), (19, (-1)), (20, 6), (20, 7), (21, (-1)), (22, (-1))]) (fr_tr (M := [(14, (-1)), (16, (-1)), (17, (-1)), (18, (-1)), (19, (-1)), (20, 6), (20, 7), (21, (-1)), (22, (-1))]) (fr_tr (M := [(14, (-1)), (16, (-1)), (17, (-1)), (18, (-1)), (19, (-1)), (20, 6), (20, 7), (21, (-1)), (22, (-1))]) fr_rf (hf1) (M1 := []) rfl rfl) (hf3) rfl rfl) (fr_up hE7) rfl rfl) (fr_up hE9) rfl rfl))
        refine Jicmp_ge (show mx_Sn _ _ 16 (mx_icmp_ge 57 19) from sn_15 16) (by omega) (by omega) (fun q10 => ?_) (fun q10 => ?_)
        · skip
          exact c57 
        · skip
          refine mx_J.step (sn_15 19) (fun _ _ => rfl) ?_
          refine JgetR (g := 3) (b := 22) hx3 (show mx_Sn _ _ 20 (mx_getf 2 3 23) from sn_15 20) a20 s20 rfl rfl (hG3.prr 20 3 rfl) ?_
          refine mx_J.step (sn_15 23) (fun _ _ => rfl) ?_
          have b11 : (-2147483648) ≤ Z3 22 w2_2 ∧ Z3 22 w2_2 ≤ 2147483647 := hG3.pr 22 w2_2
          refine JialdI (z := Z3 22 w2_2) hx3 (show mx_Sn _ _ 24 (mx_iald 25) from sn_15 24) a22 s22 (by omega) rfl ?_
          refine Jif_ge (show mx_Sn _ _ 25 (mx_if_ge 57 28) from sn_15 25) (by omega) (fun q12 => ?_) (fun q12 => ?_)
          · skip
            exact c57 
          · skip
            refine mx_J.step (sn_15 28) (fun _ _ => rfl) ?_
            refine JgetR (g := 3) (b := 22) hx3 (show mx_Sn _ _ 29 (mx_getf 2 3 32) from sn_15 29) a20 s20 rfl rfl (hG3.prr 20 3 rfl) ?_
            refine mx_J.step (sn_15 32) (fun _ _ => rfl) ?_
            refine mx_J.step (sn_15 33) (fun _ _ => rfl) ?_
            refine JiastI hx3 (show mx_Sn _ _ 34 (mx_iast 1 35) from sn_15 34) a22 s22 rfl (by omega) (fun Z13 h13 hx13 hE13 => ?_)
            have hG13 := GI_up hG3 hE13 (show (-2147483648) ≤ w2_3 ∧ w2_3 ≤ 2147483647 by omega) trivial rfl
            refine mx_J.step (sn_15 35) (fun _ _ => rfl) ?_
            refine JgetR (g := 2) (b := 21) hx13 (show mx_Sn _ _ 36 (mx_getf 2 2 39) from sn_15 36) a20 s20 rfl rfl (hG13.prr 20 2 rfl) ?_
            refine mx_J.step (sn_15 39) (fun _ _ => rfl) ?_
            refine mx_J.step (sn_15 40) (fun _ _ => rfl) ?_
            refine JiastI hx13 (show mx_Sn _ _ 41 (mx_iast 1 42) from sn_15 41) a21 s21 rfl (by omega) (fun Z14 h14 hx14 hE14 => ?_)
            have hG14 := GI_up hG13 hE14 (show 0 ≤ w2_2 ∧ w2_2 ≤ 384 by omega) trivial rfl
            refine Jiinc (z := w2_3) (cz := 1) (ls2 := [some (.ref 20), some (xI x0), some (xI w2_2), some (xI (w2_3 + 1))]) (show mx_Sn _ _ 42 (mx_iinc 3 1 45) from sn_15 42) rfl rfl rfl rfl ?_
            refine mx_J.step (sn_15 45) (fun _ _ => rfl) ?_
            refine JgetR (g := 1) (b := 12) hx14 (show mx_Sn _ _ 46 (mx_getf 2 1 49) from sn_15 46) a20 s20 rfl rfl (hG14.prr 20 1 rfl) ?_
            refine mx_J.step (sn_15 49) (fun _ _ => rfl) ?_
            obtain ⟨z15, Z15, h15, hc15, hx15, hG15, hf15, b15⟩ := ct_27_12 (d := d + 0) (l := l) (D := D) (b0 := b0) (ad := ad) (Hb := Hb) (tau := tau) hx14 hG14 (show (-2147483648) ≤ w2_2 ∧ w2_2 ≤ 2147483647 by omega)
            refine Jcv hx14 (show mx_Sn _ _ 50 (mx_callv 27 2 4 53) from sn_15 50) a12 s12 hc15 rfl rfl rfl ?_
            refine mx_J.step (ls2 := [some (.ref 20), some (xI x0), some (xI z15), some (xI (w2_3 + 1))]) (sn_15 53) (fun _ _ => rfl) ?_
            refine mx_J.step (sn_15 54) (fun _ _ => rfl) ?_
            exact ih2 z15 (w2_3 + 1) Z15 h15 (by omega) (by omega) (by omega) hx15 hG15 (fr_tr (M := [(14, (-1)), (16, (-1)), (17, (-1)), (18, (-1)), (19, (-1)), (21, (-1)), (22, (-1))]) (fr_tr (M := [(14, (-1)), (16, (-1)), (17, (-1)), (18, (-1)), (19, (-1)), (21, (-1)), (22, (-1))]) (fr_tr (M := [(14, (-1)), (16, (-1)), (17, (-1)), (18, (-1)), (19, (-1)), (21, (-1)), (22, (-1))]) (fr_tr (M := [(14, (-1)), (16, (-1)), (17, (-1)), (18, (-1)), (19, (-1)), (21, (-1)), (22, (-1))]) fr_rf (hf3) (M1 := []) rfl rfl) (fr_ua hE13) rfl rfl) (fr_ua hE14) rfl rfl) (hf15) rfl rfl)
    exact c12 (Int.toNat (385 - 0) + 1) x0 0 Z1 h1 (by omega) (by omega) (by omega) hx1 hG1 fr_rf
theorem ct_15_20 {l : Launch} {D : va_G} {b0 : Nat} {ad : Nat → Nat} {Hb : Heap} {tau : Nat → Int64} {d n s : Nat} {S : Nat → xS} {Z : xZ} {h : mx_H} (hx : XH n s S Z h) (hG : GI n S Z) {x0 : Int} (p0 : 0 ≤ x0 ∧ x0 ≤ 384) : ∃ (Z' : xZ) (h' : mx_H), mx_Ca (tB l D b0 ad Hb tau) (d + 10) 15 [.ref 20, xI x0] h (none, h') ∧ XH n s S Z' h' ∧ GI n S Z' ∧ fr' [(14, (-1)), (16, (-1)), (17, (-1)), (18, (-1)), (19, (-1)), (20, 6), (20, 7), (21, (-1)), (22, (-1))] Z Z' := by
  obtain ⟨r, hca, Z', h', e, q⟩ := Jmt (B := tB l D b0 ad Hb tau) (M := mt_15) (mi := 15) (as := [.ref 20, xI x0]) (d := d + 9) (ls := [some (.ref 20), some (xI x0), none, none]) rfl rfl rfl rfl rfl rfl (cw_15_20 (l := l) (D := D) (b0 := b0) (ad := ad) (Hb := Hb) (tau := tau) (d := d) (Post := fun r => ∃ (Z' : xZ) (h' : mx_H), r = (none, h') ∧ XH n s S Z' h' ∧ GI n S Z' ∧ fr' [(14, (-1)), (16, (-1)), (17, (-1)), (18, (-1)), (19, (-1)), (20, 6), (20, 7), (21, (-1)), (22, (-1))] Z Z') hx hG p0 (fun Z' h' q1 q2 q3 => ⟨Z', h', rfl, q1, q2, q3⟩))
  subst e; exact ⟨Z', h', hca, q⟩
set_option maxRecDepth 100000 in
theorem cw_16_20 {l : Launch} {D : va_G} {b0 : Nat} {ad : Nat → Nat} {Hb : Heap} {tau : Nat → Int64} {d n s : Nat} {S : Nat → xS} {Z : xZ} {h : mx_H} {Post : mx_R → Prop} (hx : XH n s S Z h) (hG : GI n S Z) {x0 : Int} (p0 : 0 ≤ x0 ∧ x0 ≤ 1000000000000000) (hP : ∀ z : Int, (-1) ≤ z ∧ z ≤ 384 → Post (some (xI z), h)) : mx_J (tB l D b0 ad Hb tau) mt_16 (d + 0) 0 [some (.ref 20), some (xL x0), none, none, none] [] h Post := by
    have a20 : 20 < n := lt83 hG.1 rfl
    have s20 : S 20 = .inl (2, [2, 2, 2, 2, 2, 2, 0, 0, 0, 0, 0, 0]) := hG.2.1 20 rfl
    have a21 : 21 < n := lt83 hG.1 rfl
    have s21 : S 21 = .inr (.int, 385, 0) := hG.2.1 21 rfl
    refine mx_J.step (sn_16 0) (fun _ _ => rfl) ?_
    refine mx_J.step (sn_16 1) (fun _ _ => rfl) ?_
    have b1 : 0 ≤ Z 20 6 ∧ Z 20 6 ≤ 2147483647 := hG.pr 20 6
    refine JgetI (g := 6) (z := Z 20 6) hx (show mx_Sn _ _ 2 (mx_getf 2 6 5) from sn_16 2) a20 s20 rfl rfl rfl ?_
    refine Ji2l (show mx_Sn _ _ 5 (mx_i2l 6) from sn_16 5) (by omega) ?_
    have c33 : ∀ (k2_0 : Int), (-9223372036854775808) ≤ k2_0 ∧ k2_0 ≤ 9223372036854775807 → mx_J (tB l D b0 ad Hb tau) mt_16 (d + 0) 33 [some (.ref 20), some (xL x0), none, none, none] [xL k2_0] h Post := by
      intro k2_0 f2_0
      refine mx_J.step (ls2 := [some (.ref 20), some (xL x0), none, some (xL k2_0), none]) (sn_16 33) (fun _ _ => rfl) ?_
      refine mx_J.step (sn_16 34) (fun _ _ => rfl) ?_
      refine JcL (z := 0) (show mx_Sn _ _ 35 (mx_const (.long 0) 36) from sn_16 35) rfl ?_
      have c59 : ∀ (k3_0 : Int), (-1) ≤ k3_0 ∧ k3_0 ≤ 384 → mx_J (tB l D b0 ad Hb tau) mt_16 (d + 0) 59 [some (.ref 20), some (xL x0), none, some (xL k2_0), none] [xI k3_0] h Post := by
        intro k3_0 f3_0
        exact mx_J.ret (sn_16 59) (fun _ _ => rfl) (hP k3_0 (by omega))
      have c48 : mx_J (tB l D b0 ad Hb tau) mt_16 (d + 0) 48 [some (.ref 20), some (xL x0), none, some (xL k2_0), none] [] h Post := by
        refine JcI (z := (-1)) (show mx_Sn _ _ 48 (mx_const (.int (-1)) 49) from sn_16 48) rfl ?_
        refine mx_J.step (sn_16 49) (fun _ _ => rfl) ?_
        exact c59 (-1) (by omega)
      refine Jlif_lt (show mx_Sn _ _ 36 (mx_lif_lt 48 40) from sn_16 36) (by omega) (by omega) (fun q5 => ?_) (fun q5 => ?_)
      · skip
        exact c48 
      · skip
        refine mx_J.step (sn_16 40) (fun _ _ => rfl) ?_
        refine JcL (z := 385) (show mx_Sn _ _ 41 (mx_const (.long 385) 44) from sn_16 41) rfl ?_
        refine Jlif_lt (show mx_Sn _ _ 44 (mx_lif_lt 52 48) from sn_16 44) (by omega) (by omega) (fun q6 => ?_) (fun q6 => ?_)
        · skip
          refine mx_J.step (sn_16 52) (fun _ _ => rfl) ?_
          refine JgetR (g := 2) (b := 21) hx (show mx_Sn _ _ 53 (mx_getf 2 2 56) from sn_16 53) a20 s20 rfl rfl (hG.prr 20 2 rfl) ?_
          refine mx_J.step (sn_16 56) (fun _ _ => rfl) ?_
          refine Jl2i (show mx_Sn _ _ 57 (mx_l2i 58) from sn_16 57) ?_
          have b7 : 0 ≤ Z 21 k2_0 ∧ Z 21 k2_0 ≤ 384 := hG.pr 21 k2_0
          refine JialdI (z := Z 21 k2_0) hx (show mx_Sn _ _ 58 (mx_iald 59) from sn_16 58) a21 s21 (by omega) rfl ?_
          exact c59 (Z 21 k2_0) (by omega)
        · skip
          exact c48 
    refine Jlif_ge (show mx_Sn _ _ 6 (mx_lif_ge 14 10) from sn_16 6) (by omega) (by omega) (fun q8 => ?_) (fun q8 => ?_)
    · skip
      refine mx_J.step (sn_16 14) (fun _ _ => rfl) ?_
      have b9 : 0 ≤ Z 20 6 ∧ Z 20 6 ≤ 2147483647 := hG.pr 20 6
      refine JgetI (g := 6) (z := Z 20 6) hx (show mx_Sn _ _ 15 (mx_getf 2 6 18) from sn_16 15) a20 s20 rfl rfl rfl ?_
      refine Ji2l (show mx_Sn _ _ 18 (mx_i2l 19) from sn_16 18) (by omega) ?_
      refine mx_J.step (sn_16 19) (fun _ _ => rfl) ?_
      refine mx_J.step (sn_16 20) (fun _ _ => rfl) ?_
      have b10 : 0 ≤ Z 20 6 ∧ Z 20 6 ≤ 2147483647 := hG.pr 20 6
      refine JgetI (g := 6) (z := Z 20 6) hx (show mx_Sn _ _ 21 (mx_getf 2 6 24) from sn_16 21) a20 s20 rfl rfl rfl ?_
      refine Ji2l (show mx_Sn _ _ 24 (mx_i2l 25) from sn_16 24) (by omega) ?_
      refine Jlsub (show mx_Sn _ _ 25 (mx_lsub 26) from sn_16 25) ?_
      refine mx_J.step (sn_16 26) (fun _ _ => rfl) ?_
      have b11 : 1 ≤ Z 20 7 ∧ Z 20 7 ≤ 2147483647 := hG.pr 20 7
      refine JgetI (g := 7) (z := Z 20 7) hx (show mx_Sn _ _ 27 (mx_getf 2 7 30) from sn_16 27) a20 s20 rfl rfl rfl ?_
      refine Ji2l (show mx_Sn _ _ 30 (mx_i2l 31) from sn_16 30) (by omega) ?_
      refine JlremX (show mx_Sn _ _ 31 (mx_lrem 32) from sn_16 31) (by omega) (by omega) (by omega) (fun y12 hy12 => ?_)
      refine JladdN (show mx_Sn _ _ 32 (mx_ladd 33) from sn_16 32) (fun y13 hy13 hq13 => ?_)
      exact c33 y13 (by omega)
    · skip
      refine mx_J.step (sn_16 10) (fun _ _ => rfl) ?_
      refine mx_J.step (sn_16 11) (fun _ _ => rfl) ?_
      exact c33 x0 (by omega)
theorem ct_16_20 {l : Launch} {D : va_G} {b0 : Nat} {ad : Nat → Nat} {Hb : Heap} {tau : Nat → Int64} {d n s : Nat} {S : Nat → xS} {Z : xZ} {h : mx_H} (hx : XH n s S Z h) (hG : GI n S Z) {x0 : Int} (p0 : 0 ≤ x0 ∧ x0 ≤ 1000000000000000) : ∃ z : Int, mx_Ca (tB l D b0 ad Hb tau) (d + 1) 16 [.ref 20, xL x0] h (some (xI z), h) ∧ ((-1) ≤ z ∧ z ≤ 384) := by
  obtain ⟨r, hca, z, e, hp⟩ := Jmt (B := tB l D b0 ad Hb tau) (M := mt_16) (mi := 16) (as := [.ref 20, xL x0]) (d := d + 0) (ls := [some (.ref 20), some (xL x0), none, none, none]) rfl rfl rfl rfl rfl rfl (cw_16_20 (l := l) (D := D) (b0 := b0) (ad := ad) (Hb := Hb) (tau := tau) (d := d) (Post := fun r => ∃ z : Int, r = (some (xI z), h) ∧ ((-1) ≤ z ∧ z ≤ 384)) hx hG p0 (fun z hz => ⟨z, rfl, hz⟩))
  subst e; exact ⟨z, hca, hp⟩
set_option maxRecDepth 100000 in
theorem cw_17_20 {l : Launch} {D : va_G} {b0 : Nat} {ad : Nat → Nat} {Hb : Heap} {tau : Nat → Int64} {d n s : Nat} {S : Nat → xS} {Z : xZ} {h : mx_H} {Post : mx_R → Prop} (hx : XH n s S Z h) (hG : GI n S Z) {x0 x1 : Int} (p0 : (-2147483648) ≤ x0 ∧ x0 ≤ 2147483647) (p1 : 0 ≤ x1 ∧ x1 ≤ 9) (hP : ∀ (z : Int) (Z' : xZ) (h' : mx_H), XH n s S Z' h' → GI n S Z' → fr' [(14, (-1)), (16, (-1)), (17, (-1)), (18, (-1)), (19, (-1))] Z Z' → (-2147483648) ≤ z ∧ z ≤ 2147483647 → Post (some (xI z), h')) : mx_J (tB l D b0 ad Hb tau) mt_17 (d + 9) 0 [some (.ref 20), some (xI x0), some (xI x1), none, none, none, none] [] h Post := by
    have a7 : 7 < n := lt83 hG.1 rfl
    have s7 : S 7 = .inl (0, [2, 2, 2, 2, 0, 0]) := hG.2.1 7 rfl
    have a12 : 12 < n := lt83 hG.1 rfl
    have s12 : S 12 = .inl (4, [2, 2, 0, 2, 2, 2, 2, 2, 2]) := hG.2.1 12 rfl
    have a20 : 20 < n := lt83 hG.1 rfl
    have s20 : S 20 = .inl (2, [2, 2, 2, 2, 2, 2, 0, 0, 0, 0, 0, 0]) := hG.2.1 20 rfl
    refine JcI (z := 0) (show mx_Sn _ _ 0 (mx_const (.int 0) 1) from sn_17 0) rfl ?_
    refine mx_J.step (ls2 := [some (.ref 20), some (xI x0), some (xI x1), some (xI 0), none, none, none]) (sn_17 1) (fun _ _ => rfl) ?_
    refine JcI (z := 0) (show mx_Sn _ _ 2 (mx_const (.int 0) 3) from sn_17 2) rfl ?_
    refine mx_J.step (ls2 := [some (.ref 20), some (xI x0), some (xI x1), some (xI 0), some (xI 0), none, none]) (sn_17 3) (fun _ _ => rfl) ?_
    have c5 : ∀ (m1 : Nat) (w1_3 : Int) (w1_4 : Int) (u1_5 : Option Value) (u1_6 : Option Value) (Z2 : xZ) (h2 : mx_H), 385 - w1_4 < (m1 : Int) → (-2147483648) ≤ w1_3 ∧ w1_3 ≤ 2147483647 → 0 ≤ w1_4 ∧ w1_4 ≤ 385 → XH n s S Z2 h2 → GI n S Z2 → fr' [(14, (-1)), (16, (-1)), (17, (-1)), (18, (-1)), (19, (-1))] Z Z2 → mx_J (tB l D b0 ad Hb tau) mt_17 (d + 9) 5 [some (.ref 20), some (xI x0), some (xI x1), some (xI w1_3), some (xI w1_4), u1_5, u1_6] [] h2 Post := by
      intro m1
      induction m1 with
      | zero => intro w1_3 w1_4 u1_5 u1_6 Z2 h2 q1 f1_0 f1_1 hx2 hG2 hf2; exact absurd q1 (by omega)
      | succ m1 ih1 =>
        intro w1_3 w1_4 u1_5 u1_6 Z2 h2 q1 f1_0 f1_1 hx2 hG2 hf2
        refine mx_J.step (sn_17 5) (fun _ _ => rfl) ?_
        refine mx_J.step (sn_17 7) (fun _ _ => rfl) ?_
        refine JgetR (g := 0) (b := 7) hx2 (show mx_Sn _ _ 8 (mx_getf 2 0 11) from sn_17 8) a20 s20 rfl rfl (hG2.prr 20 0 rfl) ?_
        have b3 : 0 ≤ Z 7 5 ∧ Z 7 5 ≤ 385 := hG.pr 7 5
        refine JgetI (g := 5) (z := Z 7 5) hx2 (show mx_Sn _ _ 11 (mx_getf 0 5 14) from sn_17 11) a7 s7 rfl rfl (hf2 7 5 rfl) ?_
        refine Jicmp_ge (show mx_Sn _ _ 14 (mx_icmp_ge 62 17) from sn_17 14) (by omega) (by omega) (fun q4 => ?_) (fun q4 => ?_)
        · skip
          refine mx_J.step (sn_17 62) (fun _ _ => rfl) ?_
          exact mx_J.ret (sn_17 63) (fun _ _ => rfl) (hP w1_3 Z2 h2 hx2 hG2 (fr_tr (M := [(14, (-1)), (16, (-1)), (17, (-1)), (18, (-1)), (19, (-1))]) fr_rf (hf2) (M1 := []) rfl rfl) (by omega))
        · skip
          refine mx_J.step (sn_17 17) (fun _ _ => rfl) ?_
          refine mx_J.step (ls2 := [some (.ref 20), some (xI x0), some (xI x1), some (xI w1_3), some (xI w1_4), some (xI w1_4), u1_6]) (sn_17 19) (fun _ _ => rfl) ?_
          refine JcI (z := 0) (show mx_Sn _ _ 21 (mx_const (.int 0) 22) from sn_17 21) rfl ?_
          refine mx_J.step (ls2 := [some (.ref 20), some (xI x0), some (xI x1), some (xI w1_3), some (xI w1_4), some (xI w1_4), some (xI 0)]) (sn_17 22) (fun _ _ => rfl) ?_
          have c24 : ∀ (m5 : Nat) (w5_5 : Int) (w5_6 : Int) (Z6 : xZ) (h6 : mx_H), 9 - w5_6 < (m5 : Int) → 0 ≤ w5_5 ∧ w5_5 ≤ 384 → 0 ≤ w5_6 ∧ w5_6 ≤ 9 → XH n s S Z6 h6 → GI n S Z6 → fr' [(14, (-1)), (16, (-1)), (17, (-1)), (18, (-1)), (19, (-1))] Z2 Z6 → mx_J (tB l D b0 ad Hb tau) mt_17 (d + 9) 24 [some (.ref 20), some (xI x0), some (xI x1), some (xI w1_3), some (xI w1_4), some (xI w5_5), some (xI w5_6)] [] h6 Post := by
            intro m5
            induction m5 with
            | zero => intro w5_5 w5_6 Z6 h6 q5 f5_0 f5_1 hx6 hG6 hf6; exact absurd q5 (by omega)
            | succ m5 ih5 =>
              intro w5_5 w5_6 Z6 h6 q5 f5_0 f5_1 hx6 hG6 hf6
              refine mx_J.step (sn_17 24) (fun _ _ => rfl) ?_
              refine mx_J.step (sn_17 26) (fun _ _ => rfl) ?_
              refine Jicmp_ge (show mx_Sn _ _ 27 (mx_icmp_ge 47 30) from sn_17 27) (by omega) (by omega) (fun q7 => ?_) (fun q7 => ?_)
              · skip
                refine mx_J.step (sn_17 47) (fun _ _ => rfl) ?_
                refine mx_J.step (sn_17 49) (fun _ _ => rfl) ?_
                have c56 : ∀ (w8_3 : Int), (-2147483648) ≤ w8_3 ∧ w8_3 ≤ 2147483647 → mx_J (tB l D b0 ad Hb tau) mt_17 (d + 9) 56 [some (.ref 20), some (xI x0), some (xI x1), some (xI w8_3), some (xI w1_4), some (xI w5_5), some (xI w5_6)] [] h6 Post := by
                  intro w8_3 f8_0
                  refine Jiinc (z := w1_4) (cz := 1) (ls2 := [some (.ref 20), some (xI x0), some (xI x1), some (xI w8_3), some (xI (w1_4 + 1)), some (xI w5_5), some (xI w5_6)]) (show mx_Sn _ _ 56 (mx_iinc 4 1 59) from sn_17 56) rfl rfl rfl rfl ?_
                  refine mx_J.step (sn_17 59) (fun _ _ => rfl) ?_
                  exact ih1 w8_3 (w1_4 + 1) (some (xI w5_5)) (some (xI w5_6)) Z6 h6 (by omega) (by omega) (by omega) hx6 hG6 (fr_tr (M := [(14, (-1)), (16, (-1)), (17, (-1)), (18, (-1)), (19, (-1))]) (fr_tr (M := [(14, (-1)), (16, (-1)), (17, (-1)), (18, (-1)), (19, (-1))]) fr_rf (hf2) (M1 := []) rfl rfl) (hf6) rfl rfl)
                refine Jicmp_ne (show mx_Sn _ _ 50 (mx_icmp_ne 56 53) from sn_17 50) (by omega) (by omega) (fun q9 => ?_) (fun q9 => ?_)
                · skip
                  exact c56 w1_3 (by omega)
                · skip
                  refine JiincN (z := w1_3) (cz := 1) (show mx_Sn _ _ 53 (mx_iinc 3 1 56) from sn_17 53) rfl rfl rfl (fun y10 hy10 hq10 => ?_)
                  show mx_J _ _ _ _ [some (.ref 20), some (xI x0), some (xI x1), some (xI y10), some (xI w1_4), some (xI w5_5), some (xI w5_6)] _ _ _
                  exact c56 y10 (by omega)
              · skip
                refine mx_J.step (sn_17 30) (fun _ _ => rfl) ?_
                refine JgetR (g := 1) (b := 12) hx6 (show mx_Sn _ _ 31 (mx_getf 2 1 34) from sn_17 31) a20 s20 rfl rfl (hG6.prr 20 1 rfl) ?_
                refine mx_J.step (sn_17 34) (fun _ _ => rfl) ?_
                obtain ⟨z11, Z11, h11, hc11, hx11, hG11, hf11, b11⟩ := ct_27_12 (d := d + 0) (l := l) (D := D) (b0 := b0) (ad := ad) (Hb := Hb) (tau := tau) hx6 hG6 (show (-2147483648) ≤ w5_5 ∧ w5_5 ≤ 2147483647 by omega)
                refine Jcv hx6 (show mx_Sn _ _ 36 (mx_callv 27 2 4 39) from sn_17 36) a12 s12 hc11 rfl rfl rfl ?_
                refine mx_J.step (ls2 := [some (.ref 20), some (xI x0), some (xI x1), some (xI w1_3), some (xI w1_4), some (xI z11), some (xI w5_6)]) (sn_17 39) (fun _ _ => rfl) ?_
                refine Jiinc (z := w5_6) (cz := 1) (ls2 := [some (.ref 20), some (xI x0), some (xI x1), some (xI w1_3), some (xI w1_4), some (xI z11), some (xI (w5_6 + 1))]) (show mx_Sn _ _ 41 (mx_iinc 6 1 44) from sn_17 41) rfl rfl rfl rfl ?_
                refine mx_J.step (sn_17 44) (fun _ _ => rfl) ?_
                exact ih5 z11 (w5_6 + 1) Z11 h11 (by omega) (by omega) (by omega) hx11 hG11 (fr_tr (M := [(14, (-1)), (16, (-1)), (17, (-1)), (18, (-1)), (19, (-1))]) (fr_tr (M := [(14, (-1)), (16, (-1)), (17, (-1)), (18, (-1)), (19, (-1))]) fr_rf (hf6) (M1 := []) rfl rfl) (hf11) rfl rfl)
          exact c24 (Int.toNat (9 - 0) + 1) w1_4 0 Z2 h2 (by omega) (by omega) (by omega) hx2 hG2 fr_rf
    exact c5 (Int.toNat (385 - 0) + 1) 0 0 none none Z h (by omega) (by omega) (by omega) hx hG fr_rf
theorem ct_17_20 {l : Launch} {D : va_G} {b0 : Nat} {ad : Nat → Nat} {Hb : Heap} {tau : Nat → Int64} {d n s : Nat} {S : Nat → xS} {Z : xZ} {h : mx_H} (hx : XH n s S Z h) (hG : GI n S Z) {x0 x1 : Int} (p0 : (-2147483648) ≤ x0 ∧ x0 ≤ 2147483647) (p1 : 0 ≤ x1 ∧ x1 ≤ 9) : ∃ (z : Int) (Z' : xZ) (h' : mx_H), mx_Ca (tB l D b0 ad Hb tau) (d + 10) 17 [.ref 20, xI x0, xI x1] h (some (xI z), h') ∧ XH n s S Z' h' ∧ GI n S Z' ∧ fr' [(14, (-1)), (16, (-1)), (17, (-1)), (18, (-1)), (19, (-1))] Z Z' ∧ ((-2147483648) ≤ z ∧ z ≤ 2147483647) := by
  obtain ⟨r, hca, z, Z', h', e, q⟩ := Jmt (B := tB l D b0 ad Hb tau) (M := mt_17) (mi := 17) (as := [.ref 20, xI x0, xI x1]) (d := d + 9) (ls := [some (.ref 20), some (xI x0), some (xI x1), none, none, none, none]) rfl rfl rfl rfl rfl rfl (cw_17_20 (l := l) (D := D) (b0 := b0) (ad := ad) (Hb := Hb) (tau := tau) (d := d) (Post := fun r => ∃ (z : Int) (Z' : xZ) (h' : mx_H), r = (some (xI z), h') ∧ XH n s S Z' h' ∧ GI n S Z' ∧ fr' [(14, (-1)), (16, (-1)), (17, (-1)), (18, (-1)), (19, (-1))] Z Z' ∧ ((-2147483648) ≤ z ∧ z ≤ 2147483647)) hx hG p0 p1 (fun z Z' h' q1 q2 q3 q4 => ⟨z, Z', h', rfl, q1, q2, q3, q4⟩))
  subst e; exact ⟨z, Z', h', hca, q⟩
set_option maxRecDepth 100000 in
theorem cw_19_20 {l : Launch} {D : va_G} {b0 : Nat} {ad : Nat → Nat} {Hb : Heap} {tau : Nat → Int64} {d n s : Nat} {S : Nat → xS} {Z : xZ} {h : mx_H} {Post : mx_R → Prop} (hx : XH n s S Z h) (hG : GI n S Z)  (hP : ∀ (z : Int) (Z' : xZ) (h' : mx_H), XH n s S Z' h' → GI n S Z' → fr' [(14, (-1)), (16, (-1)), (17, (-1)), (18, (-1)), (19, (-1)), (20, 8), (21, (-1)), (23, (-1))] Z Z' → 0 ≤ z ∧ z ≤ 385 → Post (some (xI z), h')) : mx_J (tB l D b0 ad Hb tau) mt_19 (d + 9) 0 [some (.ref 20), none, none, none] [] h Post := by
    have a7 : 7 < n := lt83 hG.1 rfl
    have s7 : S 7 = .inl (0, [2, 2, 2, 2, 0, 0]) := hG.2.1 7 rfl
    have a12 : 12 < n := lt83 hG.1 rfl
    have s12 : S 12 = .inl (4, [2, 2, 0, 2, 2, 2, 2, 2, 2]) := hG.2.1 12 rfl
    have a20 : 20 < n := lt83 hG.1 rfl
    have s20 : S 20 = .inl (2, [2, 2, 2, 2, 2, 2, 0, 0, 0, 0, 0, 0]) := hG.2.1 20 rfl
    have a21 : 21 < n := lt83 hG.1 rfl
    have s21 : S 21 = .inr (.int, 385, 0) := hG.2.1 21 rfl
    have a23 : 23 < n := lt83 hG.1 rfl
    have s23 : S 23 = .inr (.int, 385, 0) := hG.2.1 23 rfl
    refine mx_J.step (sn_19 0) (fun _ _ => rfl) ?_
    refine JgetR (g := 4) (b := 23) hx (show mx_Sn _ _ 1 (mx_getf 2 4 4) from sn_19 1) a20 s20 rfl rfl (hG.prr 20 4 rfl) ?_
    refine JcI (z := 0) (show mx_Sn _ _ 4 (mx_const (.int 0) 5) from sn_19 4) rfl ?_
    obtain ⟨Z1, h1, hc1, hx1, hG1, hf1⟩ := ct_284_23_i0 (d := d + 8) (l := l) (D := D) (b0 := b0) (ad := ad) (Hb := Hb) (tau := tau) hx hG 
    refine Jcs0 (show mx_Sn _ _ 5 (mx_calls 284 2 8) from sn_19 5) hc1 rfl rfl rfl ?_
    refine JcI (z := 0) (show mx_Sn _ _ 8 (mx_const (.int 0) 9) from sn_19 8) rfl ?_
    refine mx_J.step (ls2 := [some (.ref 20), some (xI 0), none, none]) (sn_19 9) (fun _ _ => rfl) ?_
    have c10 : ∀ (m2 : Nat) (w2_1 : Int) (Z3 : xZ) (h3 : mx_H), 385 - w2_1 < (m2 : Int) → 0 ≤ w2_1 ∧ w2_1 ≤ 385 → XH n s S Z3 h3 → GI n S Z3 → fr' [(14, (-1)), (16, (-1)), (17, (-1)), (18, (-1)), (19, (-1)), (23, (-1))] Z1 Z3 → mx_J (tB l D b0 ad Hb tau) mt_19 (d + 9) 10 [some (.ref 20), some (xI w2_1), none, none] [] h3 Post := by
      intro m2
      induction m2 with
      | zero => intro w2_1 Z3 h3 q2 f2_0 hx3 hG3 hf3; exact absurd q2 (by omega)
      | succ m2 ih2 =>
        intro w2_1 Z3 h3 q2 f2_0 hx3 hG3 hf3
        refine mx_J.step (sn_19 10) (fun _ _ => rfl) ?_
        refine mx_J.step (sn_19 11) (fun _ _ => rfl) ?_
        refine JgetR (g := 0) (b := 7) hx3 (show mx_Sn _ _ 12 (mx_getf 2 0 15) from sn_19 12) a20 s20 rfl rfl (hG3.prr 20 0 rfl) ?_
        have b4 : 0 ≤ Z 7 5 ∧ Z 7 5 ≤ 385 := hG.pr 7 5
        refine JgetI (g := 5) (z := Z 7 5) hx3 (show mx_Sn _ _ 15 (mx_getf 0 5 18) from sn_19 15) a7 s7 rfl rfl ((hf3 7 5 rfl).trans (hf1 7 5 rfl)) ?_
        refine Jicmp_ge (show mx_Sn _ _ 18 (mx_icmp_ge 44 21) from sn_19 18) (by omega) (by omega) (fun q5 => ?_) (fun q5 => ?_)
        · skip
          refine JcI (z := 0) (show mx_Sn _ _ 44 (mx_const (.int 0) 45) from sn_19 44) rfl ?_
          refine mx_J.step (ls2 := [some (.ref 20), some (xI 0), none, none]) (sn_19 45) (fun _ _ => rfl) ?_
          refine JcI (z := 0) (show mx_Sn _ _ 46 (mx_const (.int 0) 47) from sn_19 46) rfl ?_
          refine mx_J.step (ls2 := [some (.ref 20), some (xI 0), some (xI 0), none]) (sn_19 47) (fun _ _ => rfl) ?_
          have c48 : ∀ (m6 : Nat) (w6_1 : Int) (w6_2 : Int) (Z7 : xZ) (h7 : mx_H), 385 - w6_2 < (m6 : Int) → 0 ≤ w6_1 ∧ w6_1 ≤ 385 → 0 ≤ w6_2 ∧ w6_2 ≤ 385 → w6_1 ≤ w6_2 → XH n s S Z7 h7 → GI n S Z7 → fr' [(21, (-1))] Z3 Z7 → mx_J (tB l D b0 ad Hb tau) mt_19 (d + 9) 48 [some (.ref 20), some (xI w6_1), some (xI w6_2), none] [] h7 Post := by
            intro m6
            induction m6 with
            | zero => intro w6_1 w6_2 Z7 h7 q6 f6_0 f6_1 f6_2 hx7 hG7 hf7; exact absurd q6 (by omega)
            | succ m6 ih6 =>
              intro w6_1 w6_2 Z7 h7 q6 f6_0 f6_1 f6_2 hx7 hG7 hf7
              refine mx_J.step (sn_19 48) (fun _ _ => rfl) ?_
              refine mx_J.step (sn_19 49) (fun _ _ => rfl) ?_
              refine JgetR (g := 0) (b := 7) hx7 (show mx_Sn _ _ 50 (mx_getf 2 0 53) from sn_19 50) a20 s20 rfl rfl (hG7.prr 20 0 rfl) ?_
              have b8 : 0 ≤ Z 7 5 ∧ Z 7 5 ≤ 385 := hG.pr 7 5
              refine JgetI (g := 5) (z := Z 7 5) hx7 (show mx_Sn _ _ 53 (mx_getf 0 5 56) from sn_19 53) a7 s7 rfl rfl ((hf7 7 5 rfl).trans ((hf3 7 5 rfl).trans (hf1 7 5 rfl))) ?_
              refine Jicmp_ge (show mx_Sn _ _ 56 (mx_icmp_ge 84 59) from sn_19 56) (by omega) (by omega) (fun q9 => ?_) (fun q9 => ?_)
              · skip
                refine mx_J.step (sn_19 84) (fun _ _ => rfl) ?_
                refine mx_J.step (sn_19 85) (fun _ _ => rfl) ?_
                refine JputI (g := 8) hx7 (show mx_Sn _ _ 86 (mx_putf 1 2 8 (.int) 89) from sn_19 86) a20 s20 rfl rfl rfl rfl (fun Z10 h10 hx10 hE10 => ?_)
                have hG10 := GI_up hG7 hE10 (show (-2147483648) ≤ w6_1 ∧ w6_1 ≤ 2147483647 by omega) trivial rfl
                refine JcI (z := 0) (show mx_Sn _ _ 89 (mx_const (.int 0) 90) from sn_19 89) rfl ?_
                refine mx_J.step (ls2 := [some (.ref 20), some (xI w6_1), some (xI 0), none]) (sn_19 90) (fun _ _ => rfl) ?_
                have c91 : ∀ (m11 : Nat) (w11_1 : Int) (w11_2 : Int) (u11_3 : Option Value) (Z12 : xZ) (h12 : mx_H), 385 - w11_2 < (m11 : Int) → 0 ≤ w11_1 ∧ w11_1 ≤ 385 → 0 ≤ w11_2 ∧ w11_2 ≤ 385 → XH n s S Z12 h12 → GI n S Z12 → fr' [(14, (-1)), (16, (-1)), (17, (-1)), (18, (-1)), (19, (-1)), (21, (-1)), (23, (-1))] Z10 Z12 → mx_J (tB l D b0 ad Hb tau) mt_19 (d + 9) 91 [some (.ref 20), some (xI w11_1), some (xI w11_2), u11_3] [] h12 Post := by
                  intro m11
                  induction m11 with
                  | zero => intro w11_1 w11_2 u11_3 Z12 h12 q11 f11_0 f11_1 hx12 hG12 hf12; exact absurd q11 (by omega)
                  | succ m11 ih11 =>
                    intro w11_1 w11_2 u11_3 Z12 h12 q11 f11_0 f11_1 hx12 hG12 hf12
                    refine mx_J.step (sn_19 91) (fun _ _ => rfl) ?_
                    refine mx_J.step (sn_19 92) (fun _ _ => rfl) ?_
                    have c159 : mx_J (tB l D b0 ad Hb tau) mt_19 (d + 9) 159 [some (.ref 20), some (xI w11_1), some (xI w11_2), u11_3] [] h12 Post := by
                      refine mx_J.step (sn_19 159) (fun _ _ => rfl) ?_
                      exact mx_J.ret (sn_19 160) (fun _ _ => rfl) (hP w11_1 Z12 h12 hx12 hG12 (fr_tr (M := [(14, (-1)), (16, (-1)), (17, (-1)), (18, (-1)), (19, (-1)), (20, 8), (21, (-1)), (23, (-1))]) (fr_tr (M := [(14, (-1)), (16, (-1)), (17, (-1)), (18, (-1)), (19, (-1)), (20, 8), (21, (-1)), (23, (-1))]) (fr_tr (M := [(14, (-1)), (16, (-1)), (17, (-1)), (18, (-1)), (19, (-1)), (20, 8), (21, (-1)), (23, (-1))]) (fr_tr (M := [(14, (-1)), (16, (-1)), (17, (-1)), (18, (-1)), (19, (-1)), (20, 8), (21, (-1)), (23, (-1))]) (fr_tr (M := [(14, (-1)), (16, (-1)), (17, (-1)), (18, (-1)), (19, (-1)), (20, 8), (21, (-1)), (23, (-1))]) fr_rf (hf1) (M1 := []) rfl rfl) (hf3) rfl rfl) (hf7) rfl rfl) (fr_up hE10) rfl rfl) (hf12) rfl rfl) (by omega))
                    refine Jicmp_ge (show mx_Sn _ _ 93 (mx_icmp_ge 159 96) from sn_19 93) (by omega) (by omega) (fun q14 => ?_) (fun q14 => ?_)
                    · skip
                      exact c159 
                    · skip
                      refine mx_J.step (sn_19 96) (fun _ _ => rfl) ?_
                      refine JcI (z := 385) (show mx_Sn _ _ 97 (mx_const (.int 385) 100) from sn_19 97) rfl ?_
                      refine Jicmp_ge (show mx_Sn _ _ 100 (mx_icmp_ge 159 103) from sn_19 100) (by omega) (by omega) (fun q15 => ?_) (fun q15 => ?_)
                      · skip
                        exact c159 
                      · skip
                        refine mx_J.step (sn_19 103) (fun _ _ => rfl) ?_
                        refine JgetR (g := 1) (b := 12) hx12 (show mx_Sn _ _ 104 (mx_getf 2 1 107) from sn_19 104) a20 s20 rfl rfl (hG12.prr 20 1 rfl) ?_
                        refine mx_J.step (sn_19 107) (fun _ _ => rfl) ?_
                        refine JgetR (g := 2) (b := 21) hx12 (show mx_Sn _ _ 108 (mx_getf 2 2 111) from sn_19 108) a20 s20 rfl rfl (hG12.prr 20 2 rfl) ?_
                        refine mx_J.step (sn_19 111) (fun _ _ => rfl) ?_
                        have b16 : 0 ≤ Z12 21 w11_2 ∧ Z12 21 w11_2 ≤ 384 := hG12.pr 21 w11_2
                        refine JialdI (z := Z12 21 w11_2) hx12 (show mx_Sn _ _ 112 (mx_iald 113) from sn_19 112) a21 s21 (by omega) rfl ?_
                        obtain ⟨z17, Z17, h17, hc17, hx17, hG17, hf17, b17⟩ := ct_27_12 (d := d + 0) (l := l) (D := D) (b0 := b0) (ad := ad) (Hb := Hb) (tau := tau) hx12 hG12 (show (-2147483648) ≤ Z12 21 w11_2 ∧ Z12 21 w11_2 ≤ 2147483647 by omega)
                        refine Jcv hx12 (show mx_Sn _ _ 113 (mx_callv 27 2 4 116) from sn_19 113) a12 s12 hc17 rfl rfl rfl ?_
                        refine mx_J.step (ls2 := [some (.ref 20), some (xI w11_1), some (xI w11_2), some (xI z17)]) (sn_19 116) (fun _ _ => rfl) ?_
                        refine mx_J.step (sn_19 117) (fun _ _ => rfl) ?_
                        refine JgetR (g := 4) (b := 23) hx17 (show mx_Sn _ _ 118 (mx_getf 2 4 121) from sn_19 118) a20 s20 rfl rfl (hG17.prr 20 4 rfl) ?_
                        refine mx_J.step (sn_19 121) (fun _ _ => rfl) ?_
                        refine mx_J.step (sn_19 122) (fun _ _ => rfl) ?_
                        have b18 : (-2147483648) ≤ Z12 23 z17 ∧ Z12 23 z17 ≤ 2147483647 := hG12.pr 23 z17
                        refine JialdI (z := Z12 23 z17) hx17 (show mx_Sn _ _ 123 (mx_iald 124) from sn_19 123) a23 s23 (by omega) (hf17 23 z17 rfl) ?_
                        refine JcI (z := 1) (show mx_Sn _ _ 124 (mx_const (.int 1) 125) from sn_19 124) rfl ?_
                        refine JisubN (show mx_Sn _ _ 125 (mx_isub 126) from sn_19 125) (fun y19 hy19 hq19 => ?_)
                        refine JiastI hx17 (show mx_Sn _ _ 126 (mx_iast 1 127) from sn_19 126) a23 s23 rfl (by omega) (fun Z20 h20 hx20 hE20 => ?_)
                        have hG20 := GI_up hG17 hE20 (show (-2147483648) ≤ y19 ∧ y19 ≤ 2147483647 by omega) trivial rfl
                        refine mx_J.step (sn_19 127) (fun _ _ => rfl) ?_
                        refine JgetR (g := 4) (b := 23) hx20 (show mx_Sn _ _ 128 (mx_getf 2 4 131) from sn_19 128) a20 s20 rfl rfl (hG20.prr 20 4 rfl) ?_
                        refine mx_J.step (sn_19 131) (fun _ _ => rfl) ?_
                        have b21 : (-2147483648) ≤ Z20 23 z17 ∧ Z20 23 z17 ≤ 2147483647 := hG20.pr 23 z17
                        refine JialdI (z := Z20 23 z17) hx20 (show mx_Sn _ _ 132 (mx_iald 133) from sn_19 132) a23 s23 (by omega) rfl ?_
                        have c153 : ∀ (w22_1 : Int) (Z23 : xZ) (h23 : mx_H), 1 ≤ w22_1 ∧ w22_1 ≤ 385 → XH n s S Z23 h23 → GI n S Z23 → fr' [(21, (-1))] Z20 Z23 → mx_J (tB l D b0 ad Hb tau) mt_19 (d + 9) 153 [some (.ref 20), some (xI w22_1), some (xI w11_2), some (xI z17)] [] h23 Post := by
                          intro w22_1 Z23 h23 f22_0 hx23 hG23 hf23
                          refine Jiinc (z := w11_2) (cz := 1) (ls2 := [some (.ref 20), some (xI w22_1), some (xI (w11_2 + 1)), some (xI z17)]) (show mx_Sn _ _ 153 (mx_iinc 2 1 156) from sn_19 153) rfl rfl rfl rfl ?_
                          refine mx_J.step (sn_19 156) (fun _ _ => rfl) ?_
                          exact ih11 w22_1 (w11_2 + 1) (some (xI z17)) Z23 h23 (by omega) (by omega) (by omega) hx23 hG23 (fr_tr (M := [(14, (-1)), (16, (-1)), (17, (-1)), (18, (-1)), (19, (-1)), (21, (-1)), (23, (-1))]) (fr_tr (M := [(14, (-1)), (16, (-1)), (17, (-1)), (18, (-1)), (19, (-1)), (21, (-1)), (23, (-1))]) (fr_tr (M := [(14, (-1)), (16, (-1)), (17, (-1)), (18, (-1)), (19, (-1)), (21, (-1)), (23, (-1))]) (fr_tr (M := [(14, (-1)), (16, (-1)), (17, (-1)), (18, (-1)), (19, (-1)), (21, (-1)), (23, (-1))]) fr_rf (hf12) (M1 := []) rfl rfl) (hf17) rfl rfl) (fr_ua hE20) rfl rfl) (hf23) rfl rfl)
                        refine Jif_ne (show mx_Sn _ _ 133 (mx_if_ne 153 136) from sn_19 133) (by omega) (fun q24 => ?_) (fun q24 => ?_)
                        · skip
                          exact c153 w11_1 Z20 h20 (by omega) hx20 hG20 fr_rf
                        · skip
                          refine mx_J.step (sn_19 136) (fun _ _ => rfl) ?_
                          refine JcI (z := 385) (show mx_Sn _ _ 137 (mx_const (.int 385) 140) from sn_19 137) rfl ?_
                          refine Jicmp_ge (show mx_Sn _ _ 140 (mx_icmp_ge 153 143) from sn_19 140) (by omega) (by omega) (fun q25 => ?_) (fun q25 => ?_)
                          · skip
                            exact c153 w11_1 Z20 h20 (by omega) hx20 hG20 fr_rf
                          · skip
                            refine mx_J.step (sn_19 143) (fun _ _ => rfl) ?_
                            refine JgetR (g := 2) (b := 21) hx20 (show mx_Sn _ _ 144 (mx_getf 2 2 147) from sn_19 144) a20 s20 rfl rfl (hG20.prr 20 2 rfl) ?_
                            refine mx_J.step (sn_19 147) (fun _ _ => rfl) ?_
                            refine mx_J.step (sn_19 148) (fun _ _ => rfl) ?_
                            refine JiastI hx20 (show mx_Sn _ _ 149 (mx_iast 1 150) from sn_19 149) a21 s21 rfl (by omega) (fun Z26 h26 hx26 hE26 => ?_)
                            have hG26 := GI_up hG20 hE26 (show 0 ≤ z17 ∧ z17 ≤ 384 by omega) trivial rfl
                            refine Jiinc (z := w11_1) (cz := 1) (ls2 := [some (.ref 20), some (xI (w11_1 + 1)), some (xI w11_2), some (xI z17)]) (show mx_Sn _ _ 150 (mx_iinc 1 1 153) from sn_19 150) rfl rfl rfl rfl ?_
                            exact c153 (w11_1 + 1) Z26 h26 (by omega) hx26 hG26 (fr_tr (M := [(21, (-1))]) fr_rf (fr_ua hE26) (M1 := []) rfl rfl)
                exact c91 (Int.toNat (385 - 0) + 1) w6_1 0 none Z10 h10 (by omega) (by omega) (by omega) hx10 hG10 fr_rf
              · skip
                refine mx_J.step (sn_19 59) (fun _ _ => rfl) ?_
                refine JgetR (g := 4) (b := 23) hx7 (show mx_Sn _ _ 60 (mx_getf 2 4 63) from sn_19 60) a20 s20 rfl rfl (hG7.prr 20 4 rfl) ?_
                refine mx_J.step (sn_19 63) (fun _ _ => rfl) ?_
                have b27 : (-2147483648) ≤ Z3 23 w6_2 ∧ Z3 23 w6_2 ≤ 2147483647 := hG3.pr 23 w6_2
                refine JialdI (z := Z3 23 w6_2) hx7 (show mx_Sn _ _ 64 (mx_iald 65) from sn_19 64) a23 s23 (by omega) (hf7 23 w6_2 rfl) ?_
                have c78 : ∀ (w28_1 : Int) (Z29 : xZ) (h29 : mx_H), 0 ≤ w28_1 ∧ w28_1 ≤ 385 → w28_1 ≤ w6_2 + 1 → XH n s S Z29 h29 → GI n S Z29 → fr' [(21, (-1))] Z7 Z29 → mx_J (tB l D b0 ad Hb tau) mt_19 (d + 9) 78 [some (.ref 20), some (xI w28_1), some (xI w6_2), none] [] h29 Post := by
                  intro w28_1 Z29 h29 f28_0 f28_1 hx29 hG29 hf29
                  refine Jiinc (z := w6_2) (cz := 1) (ls2 := [some (.ref 20), some (xI w28_1), some (xI (w6_2 + 1)), none]) (show mx_Sn _ _ 78 (mx_iinc 2 1 81) from sn_19 78) rfl rfl rfl rfl ?_
                  refine mx_J.step (sn_19 81) (fun _ _ => rfl) ?_
                  exact ih6 w28_1 (w6_2 + 1) Z29 h29 (by omega) (by omega) (by omega) (by omega) hx29 hG29 (fr_tr (M := [(21, (-1))]) (fr_tr (M := [(21, (-1))]) fr_rf (hf7) (M1 := []) rfl rfl) (hf29) rfl rfl)
                refine Jif_ne (show mx_Sn _ _ 65 (mx_if_ne 78 68) from sn_19 65) (by omega) (fun q30 => ?_) (fun q30 => ?_)
                · skip
                  exact c78 w6_1 Z7 h7 (by omega) (by omega) hx7 hG7 fr_rf
                · skip
                  refine mx_J.step (sn_19 68) (fun _ _ => rfl) ?_
                  refine JgetR (g := 2) (b := 21) hx7 (show mx_Sn _ _ 69 (mx_getf 2 2 72) from sn_19 69) a20 s20 rfl rfl (hG7.prr 20 2 rfl) ?_
                  refine mx_J.step (sn_19 72) (fun _ _ => rfl) ?_
                  refine mx_J.step (sn_19 73) (fun _ _ => rfl) ?_
                  refine JiastI hx7 (show mx_Sn _ _ 74 (mx_iast 1 75) from sn_19 74) a21 s21 rfl (by omega) (fun Z31 h31 hx31 hE31 => ?_)
                  have hG31 := GI_up hG7 hE31 (show 0 ≤ w6_2 ∧ w6_2 ≤ 384 by omega) trivial rfl
                  refine Jiinc (z := w6_1) (cz := 1) (ls2 := [some (.ref 20), some (xI (w6_1 + 1)), some (xI w6_2), none]) (show mx_Sn _ _ 75 (mx_iinc 1 1 78) from sn_19 75) rfl rfl rfl rfl ?_
                  exact c78 (w6_1 + 1) Z31 h31 (by omega) (by omega) hx31 hG31 (fr_tr (M := [(21, (-1))]) fr_rf (fr_ua hE31) (M1 := []) rfl rfl)
          exact c48 (Int.toNat (385 - 0) + 1) 0 0 Z3 h3 (by omega) (by omega) (by omega) (by omega) hx3 hG3 fr_rf
        · skip
          refine mx_J.step (sn_19 21) (fun _ _ => rfl) ?_
          refine JgetR (g := 4) (b := 23) hx3 (show mx_Sn _ _ 22 (mx_getf 2 4 25) from sn_19 22) a20 s20 rfl rfl (hG3.prr 20 4 rfl) ?_
          refine mx_J.step (sn_19 25) (fun _ _ => rfl) ?_
          refine JgetR (g := 1) (b := 12) hx3 (show mx_Sn _ _ 26 (mx_getf 2 1 29) from sn_19 26) a20 s20 rfl rfl (hG3.prr 20 1 rfl) ?_
          refine mx_J.step (sn_19 29) (fun _ _ => rfl) ?_
          obtain ⟨z32, Z32, h32, hc32, hx32, hG32, hf32, b32⟩ := ct_27_12 (d := d + 0) (l := l) (D := D) (b0 := b0) (ad := ad) (Hb := Hb) (tau := tau) hx3 hG3 (show (-2147483648) ≤ w2_1 ∧ w2_1 ≤ 2147483647 by omega)
          refine Jcv hx3 (show mx_Sn _ _ 30 (mx_callv 27 2 4 33) from sn_19 30) a12 s12 hc32 rfl rfl rfl ?_
          refine mx_J.step (sn_19 33) (fun _ _ => rfl) ?_
          have b33 : (-2147483648) ≤ Z3 23 z32 ∧ Z3 23 z32 ≤ 2147483647 := hG3.pr 23 z32
          refine JialdI (z := Z3 23 z32) hx32 (show mx_Sn _ _ 34 (mx_iald 35) from sn_19 34) a23 s23 (by omega) (hf32 23 z32 rfl) ?_
          refine JcI (z := 1) (show mx_Sn _ _ 35 (mx_const (.int 1) 36) from sn_19 35) rfl ?_
          refine JiaddN (show mx_Sn _ _ 36 (mx_iadd 37) from sn_19 36) (fun y34 hy34 hq34 => ?_)
          refine JiastI hx32 (show mx_Sn _ _ 37 (mx_iast 1 38) from sn_19 37) a23 s23 rfl (by omega) (fun Z35 h35 hx35 hE35 => ?_)
          have hG35 := GI_up hG32 hE35 (show (-2147483648) ≤ y34 ∧ y34 ≤ 2147483647 by omega) trivial rfl
          refine Jiinc (z := w2_1) (cz := 1) (ls2 := [some (.ref 20), some (xI (w2_1 + 1)), none, none]) (show mx_Sn _ _ 38 (mx_iinc 1 1 41) from sn_19 38) rfl rfl rfl rfl ?_
          refine mx_J.step (sn_19 41) (fun _ _ => rfl) ?_
          exact ih2 (w2_1 + 1) Z35 h35 (by omega) (by omega) hx35 hG35 (fr_tr (M := [(14, (-1)), (16, (-1)), (17, (-1)), (18, (-1)), (19, (-1)), (23, (-1))]) (fr_tr (M := [(14, (-1)), (16, (-1)), (17, (-1)), (18, (-1)), (19, (-1)), (23, (-1))]) (fr_tr (M := [(14, (-1)), (16, (-1)), (17, (-1)), (18, (-1)), (19, (-1)), (23, (-1))]) fr_rf (hf3) (M1 := []) rfl rfl) (hf32) rfl rfl) (fr_ua hE35) rfl rfl)
    exact c10 (Int.toNat (385 - 0) + 1) 0 Z1 h1 (by omega) (by omega) hx1 hG1 fr_rf
theorem ct_19_20 {l : Launch} {D : va_G} {b0 : Nat} {ad : Nat → Nat} {Hb : Heap} {tau : Nat → Int64} {d n s : Nat} {S : Nat → xS} {Z : xZ} {h : mx_H} (hx : XH n s S Z h) (hG : GI n S Z)  : ∃ (z : Int) (Z' : xZ) (h' : mx_H), mx_Ca (tB l D b0 ad Hb tau) (d + 10) 19 [.ref 20] h (some (xI z), h') ∧ XH n s S Z' h' ∧ GI n S Z' ∧ fr' [(14, (-1)), (16, (-1)), (17, (-1)), (18, (-1)), (19, (-1)), (20, 8), (21, (-1)), (23, (-1))] Z Z' ∧ (0 ≤ z ∧ z ≤ 385) := by
  obtain ⟨r, hca, z, Z', h', e, q⟩ := Jmt (B := tB l D b0 ad Hb tau) (M := mt_19) (mi := 19) (as := [.ref 20]) (d := d + 9) (ls := [some (.ref 20), none, none, none]) rfl rfl rfl rfl rfl rfl (cw_19_20 (l := l) (D := D) (b0 := b0) (ad := ad) (Hb := Hb) (tau := tau) (d := d) (Post := fun r => ∃ (z : Int) (Z' : xZ) (h' : mx_H), r = (some (xI z), h') ∧ XH n s S Z' h' ∧ GI n S Z' ∧ fr' [(14, (-1)), (16, (-1)), (17, (-1)), (18, (-1)), (19, (-1)), (20, 8), (21, (-1)), (23, (-1))] Z Z' ∧ (0 ≤ z ∧ z ≤ 385)) hx hG  (fun z Z' h' q1 q2 q3 q4 => ⟨z, Z', h', rfl, q1, q2, q3, q4⟩))
  subst e; exact ⟨z, Z', h', hca, q⟩
set_option maxRecDepth 100000 in
theorem cw_20_20 {l : Launch} {D : va_G} {b0 : Nat} {ad : Nat → Nat} {Hb : Heap} {tau : Nat → Int64} {d n s : Nat} {S : Nat → xS} {Z : xZ} {h : mx_H} {Post : mx_R → Prop} (hx : XH n s S Z h) (hG : GI n S Z)  (hP : ∀ (Z' : xZ) (h' : mx_H), XH n s S Z' h' → GI n S Z' → fr' [(14, (-1)), (16, (-1)), (17, (-1)), (18, (-1)), (19, (-1)), (20, 10), (22, (-1)), (24, (-1))] Z Z' → Post (none, h')) : mx_J (tB l D b0 ad Hb tau) mt_20 (d + 9) 0 [some (.ref 20), none, none, none] [] h Post := by
    have a7 : 7 < n := lt83 hG.1 rfl
    have s7 : S 7 = .inl (0, [2, 2, 2, 2, 0, 0]) := hG.2.1 7 rfl
    have a12 : 12 < n := lt83 hG.1 rfl
    have s12 : S 12 = .inl (4, [2, 2, 0, 2, 2, 2, 2, 2, 2]) := hG.2.1 12 rfl
    have a20 : 20 < n := lt83 hG.1 rfl
    have s20 : S 20 = .inl (2, [2, 2, 2, 2, 2, 2, 0, 0, 0, 0, 0, 0]) := hG.2.1 20 rfl
    have a22 : 22 < n := lt83 hG.1 rfl
    have s22 : S 22 = .inr (.int, 385, 0) := hG.2.1 22 rfl
    have a23 : 23 < n := lt83 hG.1 rfl
    have s23 : S 23 = .inr (.int, 385, 0) := hG.2.1 23 rfl
    have a24 : 24 < n := lt83 hG.1 rfl
    have s24 : S 24 = .inr (.int, 385, 0) := hG.2.1 24 rfl
    refine mx_J.step (sn_20 0) (fun _ _ => rfl) ?_
    refine JgetR (g := 5) (b := 24) hx (show mx_Sn _ _ 1 (mx_getf 2 5 4) from sn_20 1) a20 s20 rfl rfl (hG.prr 20 5 rfl) ?_
    refine JcI (z := 0) (show mx_Sn _ _ 4 (mx_const (.int 0) 5) from sn_20 4) rfl ?_
    obtain ⟨Z1, h1, hc1, hx1, hG1, hf1⟩ := ct_284_24_i0 (d := d + 8) (l := l) (D := D) (b0 := b0) (ad := ad) (Hb := Hb) (tau := tau) hx hG 
    refine Jcs0 (show mx_Sn _ _ 5 (mx_calls 284 2 8) from sn_20 5) hc1 rfl rfl rfl ?_
    refine mx_J.step (sn_20 8) (fun _ _ => rfl) ?_
    refine JcI (z := 0) (show mx_Sn _ _ 9 (mx_const (.int 0) 10) from sn_20 9) rfl ?_
    refine JputI (g := 10) hx1 (show mx_Sn _ _ 10 (mx_putf 1 2 10 (.int) 13) from sn_20 10) a20 s20 rfl rfl rfl rfl (fun Z2 h2 hx2 hE2 => ?_)
    have hG2 := GI_up hG1 hE2 (show (-2147483648) ≤ 0 ∧ 0 ≤ 2147483647 by omega) trivial rfl
    refine JcI (z := 0) (show mx_Sn _ _ 13 (mx_const (.int 0) 14) from sn_20 13) rfl ?_
    refine mx_J.step (ls2 := [some (.ref 20), some (xI 0), none, none]) (sn_20 14) (fun _ _ => rfl) ?_
    have c15 : ∀ (m3 : Nat) (w3_1 : Int) (u3_2 : Option Value) (u3_3 : Option Value) (Z4 : xZ) (h4 : mx_H), 385 - w3_1 < (m3 : Int) → 0 ≤ w3_1 ∧ w3_1 ≤ 385 → XH n s S Z4 h4 → GI n S Z4 → fr' [(14, (-1)), (16, (-1)), (17, (-1)), (18, (-1)), (19, (-1)), (20, 10), (22, (-1)), (24, (-1))] Z2 Z4 → mx_J (tB l D b0 ad Hb tau) mt_20 (d + 9) 15 [some (.ref 20), some (xI w3_1), u3_2, u3_3] [] h4 Post := by
      intro m3
      induction m3 with
      | zero => intro w3_1 u3_2 u3_3 Z4 h4 q3 f3_0 hx4 hG4 hf4; exact absurd q3 (by omega)
      | succ m3 ih3 =>
        intro w3_1 u3_2 u3_3 Z4 h4 q3 f3_0 hx4 hG4 hf4
        refine mx_J.step (sn_20 15) (fun _ _ => rfl) ?_
        refine mx_J.step (sn_20 16) (fun _ _ => rfl) ?_
        refine JgetR (g := 0) (b := 7) hx4 (show mx_Sn _ _ 17 (mx_getf 2 0 20) from sn_20 17) a20 s20 rfl rfl (hG4.prr 20 0 rfl) ?_
        have b5 : 0 ≤ Z 7 5 ∧ Z 7 5 ≤ 385 := hG.pr 7 5
        refine JgetI (g := 5) (z := Z 7 5) hx4 (show mx_Sn _ _ 20 (mx_getf 0 5 23) from sn_20 20) a7 s7 rfl rfl ((hf4 7 5 rfl).trans ((up_nk hE2 rfl).trans (hf1 7 5 rfl))) ?_
        refine Jicmp_ge (show mx_Sn _ _ 23 (mx_icmp_ge 116 26) from sn_20 23) (by omega) (by omega) (fun q6 => ?_) (fun q6 => ?_)
        · skip
          exact mx_J.ret (sn_20 116) (fun _ _ => rfl) (hP Z4 h4 hx4 hG4 (fr_tr (M := [(14, (-1)), (16, (-1)), (17, (-1)), (18, (-1)), (19, (-1)), (20, 10), (22, (-1)), (24, (-1))]) (fr_tr (M := [(14, (-1)), (16, (-1)), (17, (-1)), (18, (-1)), (19, (-1)), (20, 10), (22, (-1)), (24, (-1))]) (fr_tr (M := [(14, (-1)), (16, (-1)), (17, (-1)), (18, (-1)), (19, (-1)), (20, 10), (22, (-1)), (24, (-1))]) fr_rf (hf1) (M1 := []) rfl rfl) (fr_up hE2) rfl rfl) (hf4) rfl rfl))
        · skip
          refine mx_J.step (sn_20 26) (fun _ _ => rfl) ?_
          refine JgetR (g := 4) (b := 23) hx4 (show mx_Sn _ _ 27 (mx_getf 2 4 30) from sn_20 27) a20 s20 rfl rfl (hG4.prr 20 4 rfl) ?_
          refine mx_J.step (sn_20 30) (fun _ _ => rfl) ?_
          have b7 : (-2147483648) ≤ Z 23 w3_1 ∧ Z 23 w3_1 ≤ 2147483647 := hG.pr 23 w3_1
          refine JialdI (z := Z 23 w3_1) hx4 (show mx_Sn _ _ 31 (mx_iald 32) from sn_20 31) a23 s23 (by omega) ((hf4 23 w3_1 rfl).trans ((up_nk hE2 rfl).trans (hf1 23 w3_1 rfl))) ?_
          have c110 : ∀ (u8_2 : Option Value) (u8_3 : Option Value) (Z9 : xZ) (h9 : mx_H), XH n s S Z9 h9 → GI n S Z9 → fr' [(14, (-1)), (16, (-1)), (17, (-1)), (18, (-1)), (19, (-1)), (20, 10), (22, (-1)), (24, (-1))] Z4 Z9 → mx_J (tB l D b0 ad Hb tau) mt_20 (d + 9) 110 [some (.ref 20), some (xI w3_1), u8_2, u8_3] [] h9 Post := by
            intro u8_2 u8_3 Z9 h9 hx9 hG9 hf9
            refine Jiinc (z := w3_1) (cz := 1) (ls2 := [some (.ref 20), some (xI (w3_1 + 1)), u8_2, u8_3]) (show mx_Sn _ _ 110 (mx_iinc 1 1 113) from sn_20 110) rfl rfl rfl rfl ?_
            refine mx_J.step (sn_20 113) (fun _ _ => rfl) ?_
            exact ih3 (w3_1 + 1) u8_2 u8_3 Z9 h9 (by omega) (by omega) hx9 hG9 (fr_tr (M := [(14, (-1)), (16, (-1)), (17, (-1)), (18, (-1)), (19, (-1)), (20, 10), (22, (-1)), (24, (-1))]) (fr_tr (M := [(14, (-1)), (16, (-1)), (17, (-1)), (18, (-1)), (19, (-1)), (20, 10), (22, (-1)), (24, (-1))]) fr_rf (hf4) (M1 := []) rfl rfl) (hf9) rfl rfl)
          refine Jif_le (show mx_Sn _ _ 32 (mx_if_le 110 35) from sn_20 32) (by omega) (fun q10 => ?_) (fun q10 => ?_)
          · skip
            exact c110 u3_2 u3_3 Z4 h4 hx4 hG4 fr_rf
          · skip
            refine mx_J.step (sn_20 35) (fun _ _ => rfl) ?_
            refine JgetR (g := 5) (b := 24) hx4 (show mx_Sn _ _ 36 (mx_getf 2 5 39) from sn_20 36) a20 s20 rfl rfl (hG4.prr 20 5 rfl) ?_
            refine mx_J.step (sn_20 39) (fun _ _ => rfl) ?_
            have b11 : (-2147483648) ≤ Z4 24 w3_1 ∧ Z4 24 w3_1 ≤ 2147483647 := hG4.pr 24 w3_1
            refine JialdI (z := Z4 24 w3_1) hx4 (show mx_Sn _ _ 40 (mx_iald 41) from sn_20 40) a24 s24 (by omega) rfl ?_
            refine Jif_ne (show mx_Sn _ _ 41 (mx_if_ne 110 44) from sn_20 41) (by omega) (fun q12 => ?_) (fun q12 => ?_)
            · skip
              exact c110 u3_2 u3_3 Z4 h4 hx4 hG4 fr_rf
            · skip
              refine mx_J.step (sn_20 44) (fun _ _ => rfl) ?_
              refine mx_J.step (sn_20 45) (fun _ _ => rfl) ?_
              have b13 : (-2147483648) ≤ Z4 20 10 ∧ Z4 20 10 ≤ 2147483647 := hG4.pr 20 10
              refine JgetI (g := 10) (z := Z4 20 10) hx4 (show mx_Sn _ _ 46 (mx_getf 2 10 49) from sn_20 46) a20 s20 rfl rfl rfl ?_
              refine JcI (z := 1) (show mx_Sn _ _ 49 (mx_const (.int 1) 50) from sn_20 49) rfl ?_
              refine JiaddN (show mx_Sn _ _ 50 (mx_iadd 51) from sn_20 50) (fun y14 hy14 hq14 => ?_)
              refine JputI (g := 10) hx4 (show mx_Sn _ _ 51 (mx_putf 1 2 10 (.int) 54) from sn_20 51) a20 s20 rfl rfl rfl rfl (fun Z15 h15 hx15 hE15 => ?_)
              have hG15 := GI_up hG4 hE15 (show (-2147483648) ≤ y14 ∧ y14 ≤ 2147483647 by omega) trivial rfl
              refine mx_J.step (sn_20 54) (fun _ _ => rfl) ?_
              refine mx_J.step (ls2 := [some (.ref 20), some (xI w3_1), some (xI w3_1), u3_3]) (sn_20 55) (fun _ _ => rfl) ?_
              refine JcI (z := 0) (show mx_Sn _ _ 56 (mx_const (.int 0) 57) from sn_20 56) rfl ?_
              refine mx_J.step (ls2 := [some (.ref 20), some (xI w3_1), some (xI w3_1), some (xI 0)]) (sn_20 57) (fun _ _ => rfl) ?_
              have c58 : ∀ (m16 : Nat) (w16_2 : Int) (w16_3 : Int) (Z17 : xZ) (h17 : mx_H), 385 - w16_3 < (m16 : Int) → 0 ≤ w16_2 ∧ w16_2 ≤ 384 → 0 ≤ w16_3 ∧ w16_3 ≤ 385 → XH n s S Z17 h17 → GI n S Z17 → fr' [(14, (-1)), (16, (-1)), (17, (-1)), (18, (-1)), (19, (-1)), (22, (-1)), (24, (-1))] Z15 Z17 → mx_J (tB l D b0 ad Hb tau) mt_20 (d + 9) 58 [some (.ref 20), some (xI w3_1), some (xI w16_2), some (xI w16_3)] [] h17 Post := by
                intro m16
                induction m16 with
                | zero => intro w16_2 w16_3 Z17 h17 q16 f16_0 f16_1 hx17 hG17 hf17; exact absurd q16 (by omega)
                | succ m16 ih16 =>
                  intro w16_2 w16_3 Z17 h17 q16 f16_0 f16_1 hx17 hG17 hf17
                  refine mx_J.step (sn_20 58) (fun _ _ => rfl) ?_
                  refine mx_J.step (sn_20 59) (fun _ _ => rfl) ?_
                  refine JgetR (g := 0) (b := 7) hx17 (show mx_Sn _ _ 60 (mx_getf 2 0 63) from sn_20 60) a20 s20 rfl rfl (hG17.prr 20 0 rfl) ?_
                  have b18 : 0 ≤ Z 7 5 ∧ Z 7 5 ≤ 385 := hG.pr 7 5
                  refine JgetI (g := 5) (z := Z 7 5) hx17 (show mx_Sn _ _ 63 (mx_getf 0 5 66) from sn_20 63) a7 s7 rfl rfl ((hf17 7 5 rfl).trans ((up_nk hE15 rfl).trans ((hf4 7 5 rfl).trans ((up_nk hE2 rfl).trans (hf1 7 5 rfl))))) ?_
                  refine Jicmp_ge (show mx_Sn _ _ 66 (mx_icmp_ge 110 69) from sn_20 66) (by omega) (by omega) (fun q19 => ?_) (fun q19 => ?_)
                  · skip
                    exact c110 (some (xI w16_2)) (some (xI w16_3)) Z17 h17 hx17 hG17 (fr_tr (M := [(14, (-1)), (16, (-1)), (17, (-1)), (18, (-1)), (19, (-1)), (20, 10), (22, (-1)), (24, (-1))]) (fr_tr (M := [(14, (-1)), (16, (-1)), (17, (-1)), (18, (-1)), (19, (-1)), (20, 10), (22, (-1)), (24, (-1))]) fr_rf (fr_up hE15) (M1 := []) rfl rfl) (hf17) rfl rfl)
                  · skip
                    refine mx_J.step (sn_20 69) (fun _ _ => rfl) ?_
                    refine JgetR (g := 5) (b := 24) hx17 (show mx_Sn _ _ 70 (mx_getf 2 5 73) from sn_20 70) a20 s20 rfl rfl (hG17.prr 20 5 rfl) ?_
                    refine mx_J.step (sn_20 73) (fun _ _ => rfl) ?_
                    have b20 : (-2147483648) ≤ Z17 24 w16_2 ∧ Z17 24 w16_2 ≤ 2147483647 := hG17.pr 24 w16_2
                    refine JialdI (z := Z17 24 w16_2) hx17 (show mx_Sn _ _ 74 (mx_iald 75) from sn_20 74) a24 s24 (by omega) rfl ?_
                    refine Jif_ne (show mx_Sn _ _ 75 (mx_if_ne 110 78) from sn_20 75) (by omega) (fun q21 => ?_) (fun q21 => ?_)
                    · skip
                      exact c110 (some (xI w16_2)) (some (xI w16_3)) Z17 h17 hx17 hG17 (fr_tr (M := [(14, (-1)), (16, (-1)), (17, (-1)), (18, (-1)), (19, (-1)), (20, 10), (22, (-1)), (24, (-1))]) (fr_tr (M := [(14, (-1)), (16, (-1)), (17, (-1)), (18, (-1)), (19, (-1)), (20, 10), (22, (-1)), (24, (-1))]) fr_rf (fr_up hE15) (M1 := []) rfl rfl) (hf17) rfl rfl)
                    · skip
                      refine mx_J.step (sn_20 78) (fun _ _ => rfl) ?_
                      refine JgetR (g := 5) (b := 24) hx17 (show mx_Sn _ _ 79 (mx_getf 2 5 82) from sn_20 79) a20 s20 rfl rfl (hG17.prr 20 5 rfl) ?_
                      refine mx_J.step (sn_20 82) (fun _ _ => rfl) ?_
                      refine mx_J.step (sn_20 83) (fun _ _ => rfl) ?_
                      refine JgetI (g := 10) (z := y14) hx17 (show mx_Sn _ _ 84 (mx_getf 2 10 87) from sn_20 84) a20 s20 rfl rfl ((hf17 20 10 rfl).trans (up_at hE15)) ?_
                      refine JiastI hx17 (show mx_Sn _ _ 87 (mx_iast 1 88) from sn_20 87) a24 s24 rfl (by omega) (fun Z22 h22 hx22 hE22 => ?_)
                      have hG22 := GI_up hG17 hE22 (show (-2147483648) ≤ y14 ∧ y14 ≤ 2147483647 by omega) trivial rfl
                      refine mx_J.step (sn_20 88) (fun _ _ => rfl) ?_
                      refine JgetR (g := 3) (b := 22) hx22 (show mx_Sn _ _ 89 (mx_getf 2 3 92) from sn_20 89) a20 s20 rfl rfl (hG22.prr 20 3 rfl) ?_
                      refine mx_J.step (sn_20 92) (fun _ _ => rfl) ?_
                      refine JcI (z := 0) (show mx_Sn _ _ 93 (mx_const (.int 0) 94) from sn_20 93) rfl ?_
                      refine JiastI hx22 (show mx_Sn _ _ 94 (mx_iast 1 95) from sn_20 94) a22 s22 rfl (by omega) (fun Z23 h23 hx23 hE23 => ?_)
                      have hG23 := GI_up hG22 hE23 (show (-2147483648) ≤ 0 ∧ 0 ≤ 2147483647 by omega) trivial rfl
                      refine mx_J.step (sn_20 95) (fun _ _ => rfl) ?_
                      refine JgetR (g := 1) (b := 12) hx23 (show mx_Sn _ _ 96 (mx_getf 2 1 99) from sn_20 96) a20 s20 rfl rfl (hG23.prr 20 1 rfl) ?_
                      refine mx_J.step (sn_20 99) (fun _ _ => rfl) ?_
                      obtain ⟨z24, Z24, h24, hc24, hx24, hG24, hf24, b24⟩ := ct_27_12 (d := d + 0) (l := l) (D := D) (b0 := b0) (ad := ad) (Hb := Hb) (tau := tau) hx23 hG23 (show (-2147483648) ≤ w16_2 ∧ w16_2 ≤ 2147483647 by omega)
                      refine Jcv hx23 (show mx_Sn _ _ 100 (mx_callv 27 2 4 103) from sn_20 100) a12 s12 hc24 rfl rfl rfl ?_
                      refine mx_J.step (ls2 := [some (.ref 20), some (xI w3_1), some (xI z24), some (xI w16_3)]) (sn_20 103) (fun _ _ => rfl) ?_
                      refine Jiinc (z := w16_3) (cz := 1) (ls2 := [some (.ref 20), some (xI w3_1), some (xI z24), some (xI (w16_3 + 1))]) (show mx_Sn _ _ 104 (mx_iinc 3 1 107) from sn_20 104) rfl rfl rfl rfl ?_
                      refine mx_J.step (sn_20 107) (fun _ _ => rfl) ?_
                      exact ih16 z24 (w16_3 + 1) Z24 h24 (by omega) (by omega) (by omega) hx24 hG24 (fr_tr (M := [(14, (-1)), (16, (-1)), (17, (-1)), (18, (-1)), (19, (-1)), (22, (-1)), (24, (-1))]) (fr_tr (M := [(14, (-1)), (16, (-1)), (17, (-1)), (18, (-1)), (19, (-1)), (22, (-1)), (24, (-1))]) (fr_tr (M := [(14, (-1)), (16, (-1)), (17, (-1)), (18, (-1)), (19, (-1)), (22, (-1)), (24, (-1))]) (fr_tr (M := [(14, (-1)), (16, (-1)), (17, (-1)), (18, (-1)), (19, (-1)), (22, (-1)), (24, (-1))]) fr_rf (hf17) (M1 := []) rfl rfl) (fr_ua hE22) rfl rfl) (fr_ua hE23) rfl rfl) (hf24) rfl rfl)
              exact c58 (Int.toNat (385 - 0) + 1) w3_1 0 Z15 h15 (by omega) (by omega) (by omega) hx15 hG15 fr_rf
    exact c15 (Int.toNat (385 - 0) + 1) 0 none none Z2 h2 (by omega) (by omega) hx2 hG2 fr_rf
theorem ct_20_20 {l : Launch} {D : va_G} {b0 : Nat} {ad : Nat → Nat} {Hb : Heap} {tau : Nat → Int64} {d n s : Nat} {S : Nat → xS} {Z : xZ} {h : mx_H} (hx : XH n s S Z h) (hG : GI n S Z)  : ∃ (Z' : xZ) (h' : mx_H), mx_Ca (tB l D b0 ad Hb tau) (d + 10) 20 [.ref 20] h (none, h') ∧ XH n s S Z' h' ∧ GI n S Z' ∧ fr' [(14, (-1)), (16, (-1)), (17, (-1)), (18, (-1)), (19, (-1)), (20, 10), (22, (-1)), (24, (-1))] Z Z' := by
  obtain ⟨r, hca, Z', h', e, q⟩ := Jmt (B := tB l D b0 ad Hb tau) (M := mt_20) (mi := 20) (as := [.ref 20]) (d := d + 9) (ls := [some (.ref 20), none, none, none]) rfl rfl rfl rfl rfl rfl (cw_20_20 (l := l) (D := D) (b0 := b0) (ad := ad) (Hb := Hb) (tau := tau) (d := d) (Post := fun r => ∃ (Z' : xZ) (h' : mx_H), r = (none, h') ∧ XH n s S Z' h' ∧ GI n S Z' ∧ fr' [(14, (-1)), (16, (-1)), (17, (-1)), (18, (-1)), (19, (-1)), (20, 10), (22, (-1)), (24, (-1))] Z Z') hx hG  (fun Z' h' q1 q2 q3 => ⟨Z', h', rfl, q1, q2, q3⟩))
  subst e; exact ⟨Z', h', hca, q⟩
set_option maxRecDepth 100000 in
theorem cw_18_20 {l : Launch} {D : va_G} {b0 : Nat} {ad : Nat → Nat} {Hb : Heap} {tau : Nat → Int64} {d n s : Nat} {S : Nat → xS} {Z : xZ} {h : mx_H} {Post : mx_R → Prop} (hx : XH n s S Z h) (hG : GI n S Z)  (hP : ∀ (Z' : xZ) (h' : mx_H), XH n s S Z' h' → GI n S Z' → fr' [(14, (-1)), (16, (-1)), (17, (-1)), (18, (-1)), (19, (-1)), (20, 8), (20, 9), (20, 10), (20, 11), (21, (-1)), (22, (-1)), (23, (-1)), (24, (-1))] Z Z' → Post (none, h')) : mx_J (tB l D b0 ad Hb tau) mt_18 (d + 10) 0 [some (.ref 20), none, none, none, none] [] h Post := by
    have a7 : 7 < n := lt83 hG.1 rfl
    have s7 : S 7 = .inl (0, [2, 2, 2, 2, 0, 0]) := hG.2.1 7 rfl
    have a12 : 12 < n := lt83 hG.1 rfl
    have s12 : S 12 = .inl (4, [2, 2, 0, 2, 2, 2, 2, 2, 2]) := hG.2.1 12 rfl
    have a20 : 20 < n := lt83 hG.1 rfl
    have s20 : S 20 = .inl (2, [2, 2, 2, 2, 2, 2, 0, 0, 0, 0, 0, 0]) := hG.2.1 20 rfl
    have a21 : 21 < n := lt83 hG.1 rfl
    have s21 : S 21 = .inr (.int, 385, 0) := hG.2.1 21 rfl
    have a22 : 22 < n := lt83 hG.1 rfl
    have s22 : S 22 = .inr (.int, 385, 0) := hG.2.1 22 rfl
    have a24 : 24 < n := lt83 hG.1 rfl
    have s24 : S 24 = .inr (.int, 385, 0) := hG.2.1 24 rfl
    refine mx_J.step (sn_18 0) (fun _ _ => rfl) ?_
    obtain ⟨z1, Z1, h1, hc1, hx1, hG1, hf1, b1⟩ := ct_19_20 (d := d + 0) (l := l) (D := D) (b0 := b0) (ad := ad) (Hb := Hb) (tau := tau) hx hG 
    refine Jcv hx (show mx_Sn _ _ 1 (mx_callv 19 1 2 4) from sn_18 1) a20 s20 hc1 rfl rfl rfl ?_
    refine mx_J.step (ls2 := [some (.ref 20), some (xI z1), none, none, none]) (sn_18 4) (fun _ _ => rfl) ?_
    refine mx_J.step (sn_18 5) (fun _ _ => rfl) ?_
    refine mx_J.step (sn_18 6) (fun _ _ => rfl) ?_
    refine JgetR (g := 0) (b := 7) hx1 (show mx_Sn _ _ 7 (mx_getf 2 0 10) from sn_18 7) a20 s20 rfl rfl (hG1.prr 20 0 rfl) ?_
    have b2 : 0 ≤ Z 7 5 ∧ Z 7 5 ≤ 385 := hG.pr 7 5
    refine JgetI (g := 5) (z := Z 7 5) hx1 (show mx_Sn _ _ 10 (mx_getf 0 5 13) from sn_18 10) a7 s7 rfl rfl (hf1 7 5 rfl) ?_
    refine mx_J.step (sn_18 13) (fun _ _ => rfl) ?_
    refine Jisub (show mx_Sn _ _ 14 (mx_isub 15) from sn_18 14) ?_
    refine JputI (g := 9) hx1 (show mx_Sn _ _ 15 (mx_putf 1 2 9 (.int) 18) from sn_18 15) a20 s20 rfl rfl rfl rfl (fun Z3 h3 hx3 hE3 => ?_)
    have hG3 := GI_up hG1 hE3 (show (-2147483648) ≤ (Z 7 5) - z1 ∧ (Z 7 5) - z1 ≤ 2147483647 by omega) trivial rfl
    refine mx_J.step (sn_18 18) (fun _ _ => rfl) ?_
    obtain ⟨Z4, h4, hc4, hx4, hG4, hf4⟩ := ct_20_20 (d := d + 0) (l := l) (D := D) (b0 := b0) (ad := ad) (Hb := Hb) (tau := tau) hx3 hG3 
    refine Jcv0 hx3 (show mx_Sn _ _ 19 (mx_callv 20 1 2 22) from sn_18 19) a20 s20 hc4 rfl rfl rfl ?_
    refine mx_J.step (sn_18 22) (fun _ _ => rfl) ?_
    refine JcI (z := 0) (show mx_Sn _ _ 23 (mx_const (.int 0) 24) from sn_18 23) rfl ?_
    refine JputI (g := 11) hx4 (show mx_Sn _ _ 24 (mx_putf 1 2 11 (.int) 27) from sn_18 24) a20 s20 rfl rfl rfl rfl (fun Z5 h5 hx5 hE5 => ?_)
    have hG5 := GI_up hG4 hE5 (show (-2147483648) ≤ 0 ∧ 0 ≤ 2147483647 by omega) trivial rfl
    refine mx_J.step (sn_18 27) (fun _ _ => rfl) ?_
    refine JcI (z := 1) (show mx_Sn _ _ 28 (mx_const (.int 1) 29) from sn_18 28) rfl ?_
    refine Jisub (show mx_Sn _ _ 29 (mx_isub 30) from sn_18 29) ?_
    refine mx_J.step (ls2 := [some (.ref 20), some (xI z1), some (xI (z1 - 1)), none, none]) (sn_18 30) (fun _ _ => rfl) ?_
    have c31 : ∀ (m6 : Nat) (w6_2 : Int) (u6_3 : Option Value) (u6_4 : Option Value) (Z7 : xZ) (h7 : mx_H), w6_2 - (-1) < (m6 : Int) → (-1) ≤ w6_2 ∧ w6_2 ≤ 384 → XH n s S Z7 h7 → GI n S Z7 → fr' [(14, (-1)), (16, (-1)), (17, (-1)), (18, (-1)), (19, (-1)), (20, 11), (22, (-1)), (24, (-1))] Z5 Z7 → mx_J (tB l D b0 ad Hb tau) mt_18 (d + 10) 31 [some (.ref 20), some (xI z1), some (xI w6_2), u6_3, u6_4] [] h7 Post := by
      intro m6
      induction m6 with
      | zero => intro w6_2 u6_3 u6_4 Z7 h7 q6 f6_0 hx7 hG7 hf7; exact absurd q6 (by omega)
      | succ m6 ih6 =>
        intro w6_2 u6_3 u6_4 Z7 h7 q6 f6_0 hx7 hG7 hf7
        refine mx_J.step (sn_18 31) (fun _ _ => rfl) ?_
        refine Jif_lt (show mx_Sn _ _ 32 (mx_if_lt 103 35) from sn_18 32) (by omega) (fun q8 => ?_) (fun q8 => ?_)
        · skip
          exact mx_J.ret (sn_18 103) (fun _ _ => rfl) (hP Z7 h7 hx7 hG7 (fr_tr (M := [(14, (-1)), (16, (-1)), (17, (-1)), (18, (-1)), (19, (-1)), (20, 8), (20, 9), (20, 10), (20, 11), (21, (-1)), (22, (-1)), (23, (-1)), (24, (-1))]) (fr_tr (M := [(14, (-1)), (16, (-1)), (17, (-1)), (18, (-1)), (19, (-1)), (20, 8), (20, 9), (20, 10), (20, 11), (21, (-1)), (22, (-1)), (23, (-1)), (24, (-1))]) (fr_tr (M := [(14, (-1)), (16, (-1)), (17, (-1)), (18, (-1)), (19, (-1)), (20, 8), (20, 9), (20, 10), (20, 11), (21, (-1)), (22, (-1)), (23, (-1)), (24, (-1))]) (fr_tr (M := [(14, (-1)), (16, (-1)), (17, (-1)), (18, (-1)), (19, (-1)), (20, 8), (20, 9), (20, 10), (20, 11), (21, (-1)), (22, (-1)), (23, (-1)), (24, (-1))]) (fr_tr (M := [(14, (-1)), (16, (-1)), (17, (-1)), (18, (-1)), (19, (-1)), (20, 8), (20, 9), (20, 10), (20, 11), (21, (-1)), (22, (-1)), (23, (-1)), (24, (-1))]) fr_rf (hf1) (M1 := []) rfl rfl) (fr_up hE3) rfl rfl) (hf4) rfl rfl) (fr_up hE5) rfl rfl) (hf7) rfl rfl))
        · skip
          refine mx_J.step (sn_18 35) (fun _ _ => rfl) ?_
          refine JgetR (g := 2) (b := 21) hx7 (show mx_Sn _ _ 36 (mx_getf 2 2 39) from sn_18 36) a20 s20 rfl rfl (hG7.prr 20 2 rfl) ?_
          refine mx_J.step (sn_18 39) (fun _ _ => rfl) ?_
          have b9 : 0 ≤ Z1 21 w6_2 ∧ Z1 21 w6_2 ≤ 384 := hG1.pr 21 w6_2
          refine JialdI (z := Z1 21 w6_2) hx7 (show mx_Sn _ _ 40 (mx_iald 41) from sn_18 40) a21 s21 (by omega) ((hf7 21 w6_2 rfl).trans ((up_nk hE5 rfl).trans ((hf4 21 w6_2 rfl).trans (up_nk hE3 rfl)))) ?_
          refine mx_J.step (ls2 := [some (.ref 20), some (xI z1), some (xI w6_2), some (xI (Z1 21 w6_2)), u6_4]) (sn_18 41) (fun _ _ => rfl) ?_
          refine mx_J.step (sn_18 42) (fun _ _ => rfl) ?_
          refine JgetR (g := 1) (b := 12) hx7 (show mx_Sn _ _ 43 (mx_getf 2 1 46) from sn_18 43) a20 s20 rfl rfl (hG7.prr 20 1 rfl) ?_
          refine mx_J.step (sn_18 46) (fun _ _ => rfl) ?_
          obtain ⟨z10, Z10, h10, hc10, hx10, hG10, hf10, b10⟩ := ct_27_12 (d := d + 1) (l := l) (D := D) (b0 := b0) (ad := ad) (Hb := Hb) (tau := tau) hx7 hG7 (show (-2147483648) ≤ Z1 21 w6_2 ∧ Z1 21 w6_2 ≤ 2147483647 by omega)
          refine Jcv hx7 (show mx_Sn _ _ 47 (mx_callv 27 2 4 50) from sn_18 47) a12 s12 hc10 rfl rfl rfl ?_
          refine mx_J.step (ls2 := [some (.ref 20), some (xI z1), some (xI w6_2), some (xI (Z1 21 w6_2)), some (xI z10)]) (sn_18 50) (fun _ _ => rfl) ?_
          refine mx_J.step (sn_18 52) (fun _ _ => rfl) ?_
          refine JgetR (g := 5) (b := 24) hx10 (show mx_Sn _ _ 53 (mx_getf 2 5 56) from sn_18 53) a20 s20 rfl rfl (hG10.prr 20 5 rfl) ?_
          refine mx_J.step (sn_18 56) (fun _ _ => rfl) ?_
          refine mx_J.step (sn_18 57) (fun _ _ => rfl) ?_
          refine JgetR (g := 5) (b := 24) hx10 (show mx_Sn _ _ 58 (mx_getf 2 5 61) from sn_18 58) a20 s20 rfl rfl (hG10.prr 20 5 rfl) ?_
          refine mx_J.step (sn_18 61) (fun _ _ => rfl) ?_
          have b11 : (-2147483648) ≤ Z7 24 z10 ∧ Z7 24 z10 ≤ 2147483647 := hG7.pr 24 z10
          refine JialdI (z := Z7 24 z10) hx10 (show mx_Sn _ _ 63 (mx_iald 64) from sn_18 63) a24 s24 (by omega) (hf10 24 z10 rfl) ?_
          refine JiastI hx10 (show mx_Sn _ _ 64 (mx_iast 1 65) from sn_18 64) a24 s24 rfl (by omega) (fun Z12 h12 hx12 hE12 => ?_)
          have hG12 := GI_up hG10 hE12 (show (-2147483648) ≤ Z7 24 z10 ∧ Z7 24 z10 ≤ 2147483647 by omega) trivial rfl
          refine mx_J.step (sn_18 65) (fun _ _ => rfl) ?_
          refine JgetR (g := 3) (b := 22) hx12 (show mx_Sn _ _ 66 (mx_getf 2 3 69) from sn_18 66) a20 s20 rfl rfl (hG12.prr 20 3 rfl) ?_
          refine mx_J.step (sn_18 69) (fun _ _ => rfl) ?_
          refine mx_J.step (sn_18 70) (fun _ _ => rfl) ?_
          refine JgetR (g := 3) (b := 22) hx12 (show mx_Sn _ _ 71 (mx_getf 2 3 74) from sn_18 71) a20 s20 rfl rfl (hG12.prr 20 3 rfl) ?_
          refine mx_J.step (sn_18 74) (fun _ _ => rfl) ?_
          have b13 : (-2147483648) ≤ Z7 22 z10 ∧ Z7 22 z10 ≤ 2147483647 := hG7.pr 22 z10
          refine JialdI (z := Z7 22 z10) hx12 (show mx_Sn _ _ 76 (mx_iald 77) from sn_18 76) a22 s22 (by omega) ((up_nk hE12 rfl).trans (hf10 22 z10 rfl)) ?_
          refine JcI (z := 1) (show mx_Sn _ _ 77 (mx_const (.int 1) 78) from sn_18 77) rfl ?_
          refine JiaddN (show mx_Sn _ _ 78 (mx_iadd 79) from sn_18 78) (fun y14 hy14 hq14 => ?_)
          refine JiastI hx12 (show mx_Sn _ _ 79 (mx_iast 1 80) from sn_18 79) a22 s22 rfl (by omega) (fun Z15 h15 hx15 hE15 => ?_)
          have hG15 := GI_up hG12 hE15 (show (-2147483648) ≤ y14 ∧ y14 ≤ 2147483647 by omega) trivial rfl
          refine mx_J.step (sn_18 80) (fun _ _ => rfl) ?_
          refine mx_J.step (sn_18 81) (fun _ _ => rfl) ?_
          have b16 : (-2147483648) ≤ Z7 20 11 ∧ Z7 20 11 ≤ 2147483647 := hG7.pr 20 11
          refine JgetI (g := 11) (z := Z7 20 11) hx15 (show mx_Sn _ _ 82 (mx_getf 2 11 85) from sn_18 82) a20 s20 rfl rfl ((up_nk hE15 rfl).trans ((up_nk hE12 rfl).trans (hf10 20 11 rfl))) ?_
          refine mx_J.step (sn_18 85) (fun _ _ => rfl) ?_
          refine JgetR (g := 3) (b := 22) hx15 (show mx_Sn _ _ 86 (mx_getf 2 3 89) from sn_18 86) a20 s20 rfl rfl (hG15.prr 20 3 rfl) ?_
          refine mx_J.step (sn_18 89) (fun _ _ => rfl) ?_
          have b17 : (-2147483648) ≤ Z15 22 (Z1 21 w6_2) ∧ Z15 22 (Z1 21 w6_2) ≤ 2147483647 := hG15.pr 22 (Z1 21 w6_2)
          refine JialdI (z := Z15 22 (Z1 21 w6_2)) hx15 (show mx_Sn _ _ 90 (mx_iald 91) from sn_18 90) a22 s22 (by omega) rfl ?_
          refine Jmmax (show mx_Sn _ _ 91 (mx_mmax 94) from sn_18 91) (by omega) (by omega) ⟨_, rfl⟩ rfl (fun y18 hy18 => ?_)
          refine JputI (g := 11) hx15 (show mx_Sn _ _ 94 (mx_putf 1 2 11 (.int) 97) from sn_18 94) a20 s20 rfl rfl rfl rfl (fun Z19 h19 hx19 hE19 => ?_)
          have hG19 := GI_up hG15 hE19 (show (-2147483648) ≤ y18 ∧ y18 ≤ 2147483647 by omega) trivial rfl
          refine Jiinc (z := w6_2) (cz := (-1)) (ls2 := [some (.ref 20), some (xI z1), some (xI (w6_2 + (-1))), some (xI (Z1 21 w6_2)), some (xI z10)]) (show mx_Sn _ _ 97 (mx_iinc 2 (-1) 100) from sn_18 97) rfl rfl rfl rfl ?_
          refine mx_J.step (sn_18 100) (fun _ _ => rfl) ?_
          exact ih6 (w6_2 + (-1)) (some (xI (Z1 21 w6_2))) (some (xI z10)) Z19 h19 (by omega) (by omega) hx19 hG19 (fr_tr (M := [(14, (-1)), (16, (-1)), (17, (-1)), (18, (-1)), (19, (-1)), (20, 11), (22, (-1)), (24, (-1))]) (fr_tr (M := [(14, (-1)), (16, (-1)), (17, (-1)), (18, (-1)), (19, (-1)), (20, 11), (22, (-1)), (24, (-1))]) (fr_tr (M := [(14, (-1)), (16, (-1)), (17, (-1)), (18, (-1)), (19, (-1)), (20, 11), (22, (-1)), (24, (-1))]) (fr_tr (M := [(14, (-1)), (16, (-1)), (17, (-1)), (18, (-1)), (19, (-1)), (20, 11), (22, (-1)), (24, (-1))]) (fr_tr (M := [(14, (-1)), (16, (-1)), (17, (-1)), (18, (-1)), (19, (-1)), (20, 11), (22, (-1)), (24, (-1))]) fr_rf (hf7) (M1 := []) rfl rfl) (hf10) rfl rfl) (fr_ua hE12) rfl rfl) (fr_ua hE15) rfl rfl) (fr_up hE19) rfl rfl)
    exact c31 (Int.toNat ((z1 - 1) - (-1)) + 1) (z1 - 1) none none Z5 h5 (by omega) (by omega) hx5 hG5 fr_rf
theorem ct_18_20 {l : Launch} {D : va_G} {b0 : Nat} {ad : Nat → Nat} {Hb : Heap} {tau : Nat → Int64} {d n s : Nat} {S : Nat → xS} {Z : xZ} {h : mx_H} (hx : XH n s S Z h) (hG : GI n S Z)  : ∃ (Z' : xZ) (h' : mx_H), mx_Ca (tB l D b0 ad Hb tau) (d + 11) 18 [.ref 20] h (none, h') ∧ XH n s S Z' h' ∧ GI n S Z' ∧ fr' [(14, (-1)), (16, (-1)), (17, (-1)), (18, (-1)), (19, (-1)), (20, 8), (20, 9), (20, 10), (20, 11), (21, (-1)), (22, (-1)), (23, (-1)), (24, (-1))] Z Z' := by
  obtain ⟨r, hca, Z', h', e, q⟩ := Jmt (B := tB l D b0 ad Hb tau) (M := mt_18) (mi := 18) (as := [.ref 20]) (d := d + 10) (ls := [some (.ref 20), none, none, none, none]) rfl rfl rfl rfl rfl rfl (cw_18_20 (l := l) (D := D) (b0 := b0) (ad := ad) (Hb := Hb) (tau := tau) (d := d) (Post := fun r => ∃ (Z' : xZ) (h' : mx_H), r = (none, h') ∧ XH n s S Z' h' ∧ GI n S Z' ∧ fr' [(14, (-1)), (16, (-1)), (17, (-1)), (18, (-1)), (19, (-1)), (20, 8), (20, 9), (20, 10), (20, 11), (21, (-1)), (22, (-1)), (23, (-1)), (24, (-1))] Z Z') hx hG  (fun Z' h' q1 q2 q3 => ⟨Z', h', rfl, q1, q2, q3⟩))
  subst e; exact ⟨Z', h', hca, q⟩
set_option maxRecDepth 100000 in
theorem cw_21_20 {l : Launch} {D : va_G} {b0 : Nat} {ad : Nat → Nat} {Hb : Heap} {tau : Nat → Int64} {d n s : Nat} {S : Nat → xS} {Z : xZ} {h : mx_H} {Post : mx_R → Prop} (hx : XH n s S Z h) (hG : GI n S Z) {x0 : Int} (p0 : 0 ≤ x0 ∧ x0 ≤ 384) (hP : ∀ z : Int, (-2147483648) ≤ z ∧ z ≤ 2147483647 → Post (some (xI z), h)) : mx_J (tB l D b0 ad Hb tau) mt_21 (d + 0) 0 [some (.ref 20), some (xI x0), none, none] [] h Post := by
    have a7 : 7 < n := lt83 hG.1 rfl
    have s7 : S 7 = .inl (0, [2, 2, 2, 2, 0, 0]) := hG.2.1 7 rfl
    have a20 : 20 < n := lt83 hG.1 rfl
    have s20 : S 20 = .inl (2, [2, 2, 2, 2, 2, 2, 0, 0, 0, 0, 0, 0]) := hG.2.1 20 rfl
    have a24 : 24 < n := lt83 hG.1 rfl
    have s24 : S 24 = .inr (.int, 385, 0) := hG.2.1 24 rfl
    refine JcI (z := 0) (show mx_Sn _ _ 0 (mx_const (.int 0) 1) from sn_21 0) rfl ?_
    refine mx_J.step (ls2 := [some (.ref 20), some (xI x0), some (xI 0), none]) (sn_21 1) (fun _ _ => rfl) ?_
    refine JcI (z := 0) (show mx_Sn _ _ 2 (mx_const (.int 0) 3) from sn_21 2) rfl ?_
    refine mx_J.step (ls2 := [some (.ref 20), some (xI x0), some (xI 0), some (xI 0)]) (sn_21 3) (fun _ _ => rfl) ?_
    have c4 : ∀ (m1 : Nat) (w1_2 : Int) (w1_3 : Int), 385 - w1_3 < (m1 : Int) → (-2147483648) ≤ w1_2 ∧ w1_2 ≤ 2147483647 → 0 ≤ w1_3 ∧ w1_3 ≤ 385 → mx_J (tB l D b0 ad Hb tau) mt_21 (d + 0) 4 [some (.ref 20), some (xI x0), some (xI w1_2), some (xI w1_3)] [] h Post := by
      intro m1
      induction m1 with
      | zero => intro w1_2 w1_3 q1 f1_0 f1_1; exact absurd q1 (by omega)
      | succ m1 ih1 =>
        intro w1_2 w1_3 q1 f1_0 f1_1
        refine mx_J.step (sn_21 4) (fun _ _ => rfl) ?_
        refine mx_J.step (sn_21 5) (fun _ _ => rfl) ?_
        refine JgetR (g := 0) (b := 7) hx (show mx_Sn _ _ 6 (mx_getf 2 0 9) from sn_21 6) a20 s20 rfl rfl (hG.prr 20 0 rfl) ?_
        have b2 : 0 ≤ Z 7 5 ∧ Z 7 5 ≤ 385 := hG.pr 7 5
        refine JgetI (g := 5) (z := Z 7 5) hx (show mx_Sn _ _ 9 (mx_getf 0 5 12) from sn_21 9) a7 s7 rfl rfl rfl ?_
        refine Jicmp_ge (show mx_Sn _ _ 12 (mx_icmp_ge 39 15) from sn_21 12) (by omega) (by omega) (fun q3 => ?_) (fun q3 => ?_)
        · skip
          refine mx_J.step (sn_21 39) (fun _ _ => rfl) ?_
          exact mx_J.ret (sn_21 40) (fun _ _ => rfl) (hP w1_2 (by omega))
        · skip
          refine mx_J.step (sn_21 15) (fun _ _ => rfl) ?_
          refine JgetR (g := 5) (b := 24) hx (show mx_Sn _ _ 16 (mx_getf 2 5 19) from sn_21 16) a20 s20 rfl rfl (hG.prr 20 5 rfl) ?_
          refine mx_J.step (sn_21 19) (fun _ _ => rfl) ?_
          have b4 : (-2147483648) ≤ Z 24 w1_3 ∧ Z 24 w1_3 ≤ 2147483647 := hG.pr 24 w1_3
          refine JialdI (z := Z 24 w1_3) hx (show mx_Sn _ _ 20 (mx_iald 21) from sn_21 20) a24 s24 (by omega) rfl ?_
          refine mx_J.step (sn_21 21) (fun _ _ => rfl) ?_
          refine JgetR (g := 5) (b := 24) hx (show mx_Sn _ _ 22 (mx_getf 2 5 25) from sn_21 22) a20 s20 rfl rfl (hG.prr 20 5 rfl) ?_
          refine mx_J.step (sn_21 25) (fun _ _ => rfl) ?_
          have b5 : (-2147483648) ≤ Z 24 x0 ∧ Z 24 x0 ≤ 2147483647 := hG.pr 24 x0
          refine JialdI (z := Z 24 x0) hx (show mx_Sn _ _ 26 (mx_iald 27) from sn_21 26) a24 s24 (by omega) rfl ?_
          have c33 : ∀ (w6_2 : Int), (-2147483648) ≤ w6_2 ∧ w6_2 ≤ 2147483647 → mx_J (tB l D b0 ad Hb tau) mt_21 (d + 0) 33 [some (.ref 20), some (xI x0), some (xI w6_2), some (xI w1_3)] [] h Post := by
            intro w6_2 f6_0
            refine Jiinc (z := w1_3) (cz := 1) (ls2 := [some (.ref 20), some (xI x0), some (xI w6_2), some (xI (w1_3 + 1))]) (show mx_Sn _ _ 33 (mx_iinc 3 1 36) from sn_21 33) rfl rfl rfl rfl ?_
            refine mx_J.step (sn_21 36) (fun _ _ => rfl) ?_
            exact ih1 w6_2 (w1_3 + 1) (by omega) (by omega) (by omega)
          refine Jicmp_ne (show mx_Sn _ _ 27 (mx_icmp_ne 33 30) from sn_21 27) (by omega) (by omega) (fun q7 => ?_) (fun q7 => ?_)
          · skip
            exact c33 w1_2 (by omega)
          · skip
            refine JiincN (z := w1_2) (cz := 1) (show mx_Sn _ _ 30 (mx_iinc 2 1 33) from sn_21 30) rfl rfl rfl (fun y8 hy8 hq8 => ?_)
            show mx_J _ _ _ _ [some (.ref 20), some (xI x0), some (xI y8), some (xI w1_3)] _ _ _
            exact c33 y8 (by omega)
    exact c4 (Int.toNat (385 - 0) + 1) 0 0 (by omega) (by omega) (by omega)
theorem ct_21_20 {l : Launch} {D : va_G} {b0 : Nat} {ad : Nat → Nat} {Hb : Heap} {tau : Nat → Int64} {d n s : Nat} {S : Nat → xS} {Z : xZ} {h : mx_H} (hx : XH n s S Z h) (hG : GI n S Z) {x0 : Int} (p0 : 0 ≤ x0 ∧ x0 ≤ 384) : ∃ z : Int, mx_Ca (tB l D b0 ad Hb tau) (d + 1) 21 [.ref 20, xI x0] h (some (xI z), h) ∧ ((-2147483648) ≤ z ∧ z ≤ 2147483647) := by
  obtain ⟨r, hca, z, e, hp⟩ := Jmt (B := tB l D b0 ad Hb tau) (M := mt_21) (mi := 21) (as := [.ref 20, xI x0]) (d := d + 0) (ls := [some (.ref 20), some (xI x0), none, none]) rfl rfl rfl rfl rfl rfl (cw_21_20 (l := l) (D := D) (b0 := b0) (ad := ad) (Hb := Hb) (tau := tau) (d := d) (Post := fun r => ∃ z : Int, r = (some (xI z), h) ∧ ((-2147483648) ≤ z ∧ z ≤ 2147483647)) hx hG p0 (fun z hz => ⟨z, rfl, hz⟩))
  subst e; exact ⟨z, hca, hp⟩
set_option maxRecDepth 100000 in
theorem cw_62_25 {l : Launch} {D : va_G} {b0 : Nat} {ad : Nat → Nat} {Hb : Heap} {tau : Nat → Int64} {d n s : Nat} {S : Nat → xS} {Z : xZ} {h : mx_H} {Post : mx_R → Prop} (hx : XH n s S Z h) (hG : GI n S Z) {x0 : Int} (p0 : 0 ≤ x0 ∧ x0 ≤ 384) (hP : ∀ (Z' : xZ) (h' : mx_H), XH n s S Z' h' → GI n S Z' → fr' [(14, (-1)), (16, (-1)), (17, (-1)), (18, (-1)), (19, (-1)), (25, 8), (26, (-1)), (27, (-1)), (28, (-1)), (29, (-1))] Z Z' → Post (none, h')) : mx_J (tB l D b0 ad Hb tau) mt_62 (d + 8) 0 [some (.ref 25), some (xI x0), none, none, none] [] h Post := by
    have a7 : 7 < n := lt83 hG.1 rfl
    have s7 : S 7 = .inl (0, [2, 2, 2, 2, 0, 0]) := hG.2.1 7 rfl
    have a12 : 12 < n := lt83 hG.1 rfl
    have s12 : S 12 = .inl (4, [2, 2, 0, 2, 2, 2, 2, 2, 2]) := hG.2.1 12 rfl
    have a25 : 25 < n := lt83 hG.1 rfl
    have s25 : S 25 = .inl (8, [2, 2, 2, 2, 2, 2, 2, 2, 0]) := hG.2.1 25 rfl
    have a26 : 26 < n := lt83 hG.1 rfl
    have s26 : S 26 = .inr (.int, 385, 0) := hG.2.1 26 rfl
    have a27 : 27 < n := lt83 hG.1 rfl
    have s27 : S 27 = .inr (.int, 385, 0) := hG.2.1 27 rfl
    have a28 : 28 < n := lt83 hG.1 rfl
    have s28 : S 28 = .inr (.int, 385, 0) := hG.2.1 28 rfl
    have a29 : 29 < n := lt83 hG.1 rfl
    have s29 : S 29 = .inr (.int, 385, 0) := hG.2.1 29 rfl
    refine mx_J.step (sn_62 0) (fun _ _ => rfl) ?_
    refine JgetR (g := 0) (b := 7) hx (show mx_Sn _ _ 1 (mx_getf 8 0 4) from sn_62 1) a25 s25 rfl rfl (hG.prr 25 0 rfl) ?_
    refine mx_J.step (sn_62 4) (fun _ _ => rfl) ?_
    refine JcI (z := 0) (show mx_Sn _ _ 5 (mx_const (.int 0) 6) from sn_62 5) rfl ?_
    obtain ⟨z1, hc1, b1⟩ := ct_6_7 (d := d + 6) (l := l) (D := D) (b0 := b0) (ad := ad) (Hb := Hb) (tau := tau) hx hG (show (-2147483648) ≤ x0 ∧ x0 ≤ 2147483647 by omega) (show (-2147483648) ≤ 0 ∧ 0 ≤ 2147483647 by omega)
    refine Jcv hx (show mx_Sn _ _ 6 (mx_callv 6 3 0 9) from sn_62 6) a7 s7 hc1 rfl rfl rfl ?_
    refine mx_J.step (ls2 := [some (.ref 25), some (xI x0), some (xI z1), none, none]) (sn_62 9) (fun _ _ => rfl) ?_
    refine JcI (z := 0) (show mx_Sn _ _ 10 (mx_const (.int 0) 11) from sn_62 10) rfl ?_
    refine mx_J.step (ls2 := [some (.ref 25), some (xI x0), some (xI z1), some (xI 0), none]) (sn_62 11) (fun _ _ => rfl) ?_
    have c12 : ∀ (m2 : Nat) (w2_3 : Int) (u2_4 : Option Value) (Z3 : xZ) (h3 : mx_H), 19 - w2_3 < (m2 : Int) → 0 ≤ w2_3 ∧ w2_3 ≤ 19 → XH n s S Z3 h3 → GI n S Z3 → fr' [(14, (-1)), (16, (-1)), (17, (-1)), (18, (-1)), (19, (-1)), (25, 8), (26, (-1)), (27, (-1)), (28, (-1)), (29, (-1))] Z Z3 → mx_J (tB l D b0 ad Hb tau) mt_62 (d + 8) 12 [some (.ref 25), some (xI x0), some (xI z1), some (xI w2_3), u2_4] [] h3 Post := by
      intro m2
      induction m2 with
      | zero => intro w2_3 u2_4 Z3 h3 q2 f2_0 hx3 hG3 hf3; exact absurd q2 (by omega)
      | succ m2 ih2 =>
        intro w2_3 u2_4 Z3 h3 q2 f2_0 hx3 hG3 hf3
        refine mx_J.step (sn_62 12) (fun _ _ => rfl) ?_
        refine mx_J.step (sn_62 13) (fun _ _ => rfl) ?_
        refine Jicmp_gt (show mx_Sn _ _ 14 (mx_icmp_gt 111 17) from sn_62 14) (by omega) (by omega) (fun q4 => ?_) (fun q4 => ?_)
        · skip
          exact mx_J.ret (sn_62 111) (fun _ _ => rfl) (hP Z3 h3 hx3 hG3 (fr_tr (M := [(14, (-1)), (16, (-1)), (17, (-1)), (18, (-1)), (19, (-1)), (25, 8), (26, (-1)), (27, (-1)), (28, (-1)), (29, (-1))]) fr_rf (hf3) (M1 := []) rfl rfl))
        · skip
          refine mx_J.step (sn_62 17) (fun _ _ => rfl) ?_
          refine JgetR (g := 1) (b := 12) hx3 (show mx_Sn _ _ 18 (mx_getf 8 1 21) from sn_62 18) a25 s25 rfl rfl (hG3.prr 25 1 rfl) ?_
          refine mx_J.step (sn_62 21) (fun _ _ => rfl) ?_
          refine mx_J.step (sn_62 22) (fun _ _ => rfl) ?_
          obtain ⟨z5, Z5, h5, hc5, hx5, hG5, hf5, b5⟩ := ct_26_12 (d := d + 0) (l := l) (D := D) (b0 := b0) (ad := ad) (Hb := Hb) (tau := tau) hx3 hG3 (show (-2147483648) ≤ x0 ∧ x0 ≤ 2147483647 by omega) (show (-2147483648) ≤ w2_3 ∧ w2_3 ≤ 2147483647 by omega)
          refine Jcv hx3 (show mx_Sn _ _ 23 (mx_callv 26 3 4 26) from sn_62 23) a12 s12 hc5 rfl rfl rfl ?_
          refine mx_J.step (ls2 := [some (.ref 25), some (xI x0), some (xI z1), some (xI w2_3), some (xI z5)]) (sn_62 26) (fun _ _ => rfl) ?_
          refine mx_J.step (sn_62 28) (fun _ _ => rfl) ?_
          have c105 : ∀  (Z7 : xZ) (h7 : mx_H), XH n s S Z7 h7 → GI n S Z7 → fr' [(25, 8), (26, (-1)), (27, (-1)), (28, (-1)), (29, (-1))] Z5 Z7 → mx_J (tB l D b0 ad Hb tau) mt_62 (d + 8) 105 [some (.ref 25), some (xI x0), some (xI z1), some (xI w2_3), some (xI z5)] [] h7 Post := by
            intro Z7 h7 hx7 hG7 hf7
            refine Jiinc (z := w2_3) (cz := 1) (ls2 := [some (.ref 25), some (xI x0), some (xI z1), some (xI (w2_3 + 1)), some (xI z5)]) (show mx_Sn _ _ 105 (mx_iinc 3 1 108) from sn_62 105) rfl rfl rfl rfl ?_
            refine mx_J.step (sn_62 108) (fun _ _ => rfl) ?_
            exact ih2 (w2_3 + 1) (some (xI z5)) Z7 h7 (by omega) (by omega) hx7 hG7 (fr_tr (M := [(14, (-1)), (16, (-1)), (17, (-1)), (18, (-1)), (19, (-1)), (25, 8), (26, (-1)), (27, (-1)), (28, (-1)), (29, (-1))]) (fr_tr (M := [(14, (-1)), (16, (-1)), (17, (-1)), (18, (-1)), (19, (-1)), (25, 8), (26, (-1)), (27, (-1)), (28, (-1)), (29, (-1))]) (fr_tr (M := [(14, (-1)), (16, (-1)), (17, (-1)), (18, (-1)), (19, (-1)), (25, 8), (26, (-1)), (27, (-1)), (28, (-1)), (29, (-1))]) fr_rf (hf3) (M1 := []) rfl rfl) (hf5) rfl rfl) (hf7) rfl rfl)
          refine Jif_lt (show mx_Sn _ _ 30 (mx_if_lt 105 33) from sn_62 30) (by omega) (fun q8 => ?_) (fun q8 => ?_)
          · skip
            exact c105 Z5 h5 hx5 hG5 fr_rf
          · skip
            refine mx_J.step (sn_62 33) (fun _ _ => rfl) ?_
            refine JgetR (g := 5) (b := 29) hx5 (show mx_Sn _ _ 34 (mx_getf 8 5 37) from sn_62 34) a25 s25 rfl rfl (hG5.prr 25 5 rfl) ?_
            refine mx_J.step (sn_62 37) (fun _ _ => rfl) ?_
            have b9 : (-2147483648) ≤ Z3 29 z5 ∧ Z3 29 z5 ≤ 2147483647 := hG3.pr 29 z5
            refine JialdI (z := Z3 29 z5) hx5 (show mx_Sn _ _ 39 (mx_iald 40) from sn_62 39) a29 s29 (by omega) (hf5 29 z5 rfl) ?_
            refine Jif_ge (show mx_Sn _ _ 40 (mx_if_ge 105 43) from sn_62 40) (by omega) (fun q10 => ?_) (fun q10 => ?_)
            · skip
              exact c105 Z5 h5 hx5 hG5 fr_rf
            · skip
              refine mx_J.step (sn_62 43) (fun _ _ => rfl) ?_
              have b11 : 0 ≤ Z3 25 8 ∧ Z3 25 8 ≤ 385 := hG3.pr 25 8
              refine JgetI (g := 8) (z := Z3 25 8) hx5 (show mx_Sn _ _ 44 (mx_getf 8 8 47) from sn_62 44) a25 s25 rfl rfl (hf5 25 8 rfl) ?_
              refine JcI (z := 385) (show mx_Sn _ _ 47 (mx_const (.int 385) 50) from sn_62 47) rfl ?_
              refine Jicmp_ge (show mx_Sn _ _ 50 (mx_icmp_ge 105 53) from sn_62 50) (by omega) (by omega) (fun q12 => ?_) (fun q12 => ?_)
              · skip
                exact c105 Z5 h5 hx5 hG5 fr_rf
              · skip
                refine mx_J.step (sn_62 53) (fun _ _ => rfl) ?_
                refine JgetR (g := 5) (b := 29) hx5 (show mx_Sn _ _ 54 (mx_getf 8 5 57) from sn_62 54) a25 s25 rfl rfl (hG5.prr 25 5 rfl) ?_
                refine mx_J.step (sn_62 57) (fun _ _ => rfl) ?_
                refine mx_J.step (sn_62 59) (fun _ _ => rfl) ?_
                refine JgetR (g := 5) (b := 29) hx5 (show mx_Sn _ _ 60 (mx_getf 8 5 63) from sn_62 60) a25 s25 rfl rfl (hG5.prr 25 5 rfl) ?_
                refine mx_J.step (sn_62 63) (fun _ _ => rfl) ?_
                have b13 : (-2147483648) ≤ Z3 29 x0 ∧ Z3 29 x0 ≤ 2147483647 := hG3.pr 29 x0
                refine JialdI (z := Z3 29 x0) hx5 (show mx_Sn _ _ 64 (mx_iald 65) from sn_62 64) a29 s29 (by omega) (hf5 29 x0 rfl) ?_
                refine JcI (z := 1) (show mx_Sn _ _ 65 (mx_const (.int 1) 66) from sn_62 65) rfl ?_
                refine JiaddN (show mx_Sn _ _ 66 (mx_iadd 67) from sn_62 66) (fun y14 hy14 hq14 => ?_)
                refine JiastI hx5 (show mx_Sn _ _ 67 (mx_iast 1 68) from sn_62 67) a29 s29 rfl (by omega) (fun Z15 h15 hx15 hE15 => ?_)
                have hG15 := GI_up hG5 hE15 (show (-2147483648) ≤ y14 ∧ y14 ≤ 2147483647 by omega) trivial rfl
                refine mx_J.step (sn_62 68) (fun _ _ => rfl) ?_
                refine JgetR (g := 3) (b := 27) hx15 (show mx_Sn _ _ 69 (mx_getf 8 3 72) from sn_62 69) a25 s25 rfl rfl (hG15.prr 25 3 rfl) ?_
                refine mx_J.step (sn_62 72) (fun _ _ => rfl) ?_
                refine mx_J.step (sn_62 74) (fun _ _ => rfl) ?_
                refine JiastI hx15 (show mx_Sn _ _ 75 (mx_iast 1 76) from sn_62 75) a27 s27 rfl (by omega) (fun Z16 h16 hx16 hE16 => ?_)
                have hG16 := GI_up hG15 hE16 (show 0 ≤ x0 ∧ x0 ≤ 384 by omega) trivial rfl
                refine mx_J.step (sn_62 76) (fun _ _ => rfl) ?_
                refine JgetR (g := 4) (b := 28) hx16 (show mx_Sn _ _ 77 (mx_getf 8 4 80) from sn_62 77) a25 s25 rfl rfl (hG16.prr 25 4 rfl) ?_
                refine mx_J.step (sn_62 80) (fun _ _ => rfl) ?_
                refine mx_J.step (sn_62 82) (fun _ _ => rfl) ?_
                refine JiastI hx16 (show mx_Sn _ _ 83 (mx_iast 1 84) from sn_62 83) a28 s28 rfl (by omega) (fun Z17 h17 hx17 hE17 => ?_)
                have hG17 := GI_up hG16 hE17 (show 0 ≤ w2_3 ∧ w2_3 ≤ 18 by omega) trivial rfl
                refine mx_J.step (sn_62 84) (fun _ _ => rfl) ?_
                refine JgetR (g := 2) (b := 26) hx17 (show mx_Sn _ _ 85 (mx_getf 8 2 88) from sn_62 85) a25 s25 rfl rfl (hG17.prr 25 2 rfl) ?_
                refine mx_J.step (sn_62 88) (fun _ _ => rfl) ?_
                have b18 : 0 ≤ Z3 25 8 ∧ Z3 25 8 ≤ 385 := hG3.pr 25 8
                refine JgetI (g := 8) (z := Z3 25 8) hx17 (show mx_Sn _ _ 89 (mx_getf 8 8 92) from sn_62 89) a25 s25 rfl rfl ((up_nk hE17 rfl).trans ((up_nk hE16 rfl).trans ((up_nk hE15 rfl).trans (hf5 25 8 rfl)))) ?_
                refine mx_J.step (sn_62 92) (fun _ _ => rfl) ?_
                refine JiastI hx17 (show mx_Sn _ _ 94 (mx_iast 1 95) from sn_62 94) a26 s26 rfl (by omega) (fun Z19 h19 hx19 hE19 => ?_)
                have hG19 := GI_up hG17 hE19 (show 0 ≤ z5 ∧ z5 ≤ 384 by omega) trivial rfl
                refine mx_J.step (sn_62 95) (fun _ _ => rfl) ?_
                refine mx_J.step (sn_62 96) (fun _ _ => rfl) ?_
                have b20 : 0 ≤ Z3 25 8 ∧ Z3 25 8 ≤ 385 := hG3.pr 25 8
                refine JgetI (g := 8) (z := Z3 25 8) hx19 (show mx_Sn _ _ 97 (mx_getf 8 8 100) from sn_62 97) a25 s25 rfl rfl ((up_nk hE19 rfl).trans ((up_nk hE17 rfl).trans ((up_nk hE16 rfl).trans ((up_nk hE15 rfl).trans (hf5 25 8 rfl))))) ?_
                refine JcI (z := 1) (show mx_Sn _ _ 100 (mx_const (.int 1) 101) from sn_62 100) rfl ?_
                refine Jiadd (show mx_Sn _ _ 101 (mx_iadd 102) from sn_62 101) ?_
                refine JputI (g := 8) hx19 (show mx_Sn _ _ 102 (mx_putf 1 8 8 (.int) 105) from sn_62 102) a25 s25 rfl rfl rfl rfl (fun Z21 h21 hx21 hE21 => ?_)
                have hG21 := GI_up hG19 hE21 (show 0 ≤ (Z3 25 8) + 1 ∧ (Z3 25 8) + 1 ≤ 385 by omega) trivial rfl
                exact c105 Z21 h21 hx21 hG21 (fr_tr (M := [(25, 8), (26, (-1)), (27, (-1)), (28, (-1)), (29, (-1))]) (fr_tr (M := [(25, 8), (26, (-1)), (27, (-1)), (28, (-1)), (29, (-1))]) (fr_tr (M := [(25, 8), (26, (-1)), (27, (-1)), (28, (-1)), (29, (-1))]) (fr_tr (M := [(25, 8), (26, (-1)), (27, (-1)), (28, (-1)), (29, (-1))]) (fr_tr (M := [(25, 8), (26, (-1)), (27, (-1)), (28, (-1)), (29, (-1))]) fr_rf (fr_ua hE15) (M1 := []) rfl rfl) (fr_ua hE16) rfl rfl) (fr_ua hE17) rfl rfl) (fr_ua hE19) rfl rfl) (fr_up hE21) rfl rfl)
    exact c12 (Int.toNat (19 - 0) + 1) 0 none Z h (by omega) (by omega) hx hG fr_rf
theorem ct_62_25 {l : Launch} {D : va_G} {b0 : Nat} {ad : Nat → Nat} {Hb : Heap} {tau : Nat → Int64} {d n s : Nat} {S : Nat → xS} {Z : xZ} {h : mx_H} (hx : XH n s S Z h) (hG : GI n S Z) {x0 : Int} (p0 : 0 ≤ x0 ∧ x0 ≤ 384) : ∃ (Z' : xZ) (h' : mx_H), mx_Ca (tB l D b0 ad Hb tau) (d + 9) 62 [.ref 25, xI x0] h (none, h') ∧ XH n s S Z' h' ∧ GI n S Z' ∧ fr' [(14, (-1)), (16, (-1)), (17, (-1)), (18, (-1)), (19, (-1)), (25, 8), (26, (-1)), (27, (-1)), (28, (-1)), (29, (-1))] Z Z' := by
  obtain ⟨r, hca, Z', h', e, q⟩ := Jmt (B := tB l D b0 ad Hb tau) (M := mt_62) (mi := 62) (as := [.ref 25, xI x0]) (d := d + 8) (ls := [some (.ref 25), some (xI x0), none, none, none]) rfl rfl rfl rfl rfl rfl (cw_62_25 (l := l) (D := D) (b0 := b0) (ad := ad) (Hb := Hb) (tau := tau) (d := d) (Post := fun r => ∃ (Z' : xZ) (h' : mx_H), r = (none, h') ∧ XH n s S Z' h' ∧ GI n S Z' ∧ fr' [(14, (-1)), (16, (-1)), (17, (-1)), (18, (-1)), (19, (-1)), (25, 8), (26, (-1)), (27, (-1)), (28, (-1)), (29, (-1))] Z Z') hx hG p0 (fun Z' h' q1 q2 q3 => ⟨Z', h', rfl, q1, q2, q3⟩))
  subst e; exact ⟨Z', h', hca, q⟩
set_option maxRecDepth 100000 in
theorem cw_61_25 {l : Launch} {D : va_G} {b0 : Nat} {ad : Nat → Nat} {Hb : Heap} {tau : Nat → Int64} {d n s : Nat} {S : Nat → xS} {Z : xZ} {h : mx_H} {Post : mx_R → Prop} (hx : XH n s S Z h) (hG : GI n S Z) {x0 x1 : Int} (p0 : 0 ≤ x0 ∧ x0 ≤ 384) (p1 : (-1) ≤ x1 ∧ x1 ≤ 384) (hP : ∀ (z : Int) (Z' : xZ) (h' : mx_H), XH n s S Z' h' → GI n S Z' → fr' [(14, (-1)), (16, (-1)), (17, (-1)), (18, (-1)), (19, (-1)), (25, 8), (26, (-1)), (27, (-1)), (28, (-1)), (29, (-1))] Z Z' → (-2147483648) ≤ z ∧ z ≤ 2147483647 → Post (some (xI z), h')) : mx_J (tB l D b0 ad Hb tau) mt_61 (d + 9) 0 [some (.ref 25), some (xI x0), some (xI x1), none] [] h Post := by
    have a25 : 25 < n := lt83 hG.1 rfl
    have s25 : S 25 = .inl (8, [2, 2, 2, 2, 2, 2, 2, 2, 0]) := hG.2.1 25 rfl
    have a26 : 26 < n := lt83 hG.1 rfl
    have s26 : S 26 = .inr (.int, 385, 0) := hG.2.1 26 rfl
    have a29 : 29 < n := lt83 hG.1 rfl
    have s29 : S 29 = .inr (.int, 385, 0) := hG.2.1 29 rfl
    refine mx_J.step (sn_61 0) (fun _ _ => rfl) ?_
    refine JgetR (g := 5) (b := 29) hx (show mx_Sn _ _ 1 (mx_getf 8 5 4) from sn_61 1) a25 s25 rfl rfl (hG.prr 25 5 rfl) ?_
    refine JcI (z := (-1)) (show mx_Sn _ _ 4 (mx_const (.int (-1)) 5) from sn_61 4) rfl ?_
    obtain ⟨Z1, h1, hc1, hx1, hG1, hf1⟩ := ct_284_29_m1 (d := d + 8) (l := l) (D := D) (b0 := b0) (ad := ad) (Hb := Hb) (tau := tau) hx hG 
    refine Jcs0 (show mx_Sn _ _ 5 (mx_calls 284 2 8) from sn_61 5) hc1 rfl rfl rfl ?_
    refine mx_J.step (sn_61 8) (fun _ _ => rfl) ?_
    refine JgetR (g := 5) (b := 29) hx1 (show mx_Sn _ _ 9 (mx_getf 8 5 12) from sn_61 9) a25 s25 rfl rfl (hG1.prr 25 5 rfl) ?_
    refine mx_J.step (sn_61 12) (fun _ _ => rfl) ?_
    refine JcI (z := 0) (show mx_Sn _ _ 13 (mx_const (.int 0) 14) from sn_61 13) rfl ?_
    refine JiastI hx1 (show mx_Sn _ _ 14 (mx_iast 1 15) from sn_61 14) a29 s29 rfl (by omega) (fun Z2 h2 hx2 hE2 => ?_)
    have hG2 := GI_up hG1 hE2 (show (-2147483648) ≤ 0 ∧ 0 ≤ 2147483647 by omega) trivial rfl
    refine mx_J.step (sn_61 15) (fun _ _ => rfl) ?_
    refine JgetR (g := 2) (b := 26) hx2 (show mx_Sn _ _ 16 (mx_getf 8 2 19) from sn_61 16) a25 s25 rfl rfl (hG2.prr 25 2 rfl) ?_
    refine JcI (z := 0) (show mx_Sn _ _ 19 (mx_const (.int 0) 20) from sn_61 19) rfl ?_
    refine mx_J.step (sn_61 20) (fun _ _ => rfl) ?_
    refine JiastI hx2 (show mx_Sn _ _ 21 (mx_iast 1 22) from sn_61 21) a26 s26 rfl (by omega) (fun Z3 h3 hx3 hE3 => ?_)
    have hG3 := GI_up hG2 hE3 (show 0 ≤ x0 ∧ x0 ≤ 384 by omega) trivial rfl
    refine mx_J.step (sn_61 22) (fun _ _ => rfl) ?_
    refine JcI (z := 1) (show mx_Sn _ _ 23 (mx_const (.int 1) 24) from sn_61 23) rfl ?_
    refine JputI (g := 8) hx3 (show mx_Sn _ _ 24 (mx_putf 1 8 8 (.int) 27) from sn_61 24) a25 s25 rfl rfl rfl rfl (fun Z4 h4 hx4 hE4 => ?_)
    have hG4 := GI_up hG3 hE4 (show 0 ≤ 1 ∧ 1 ≤ 385 by omega) trivial rfl
    refine JcI (z := 0) (show mx_Sn _ _ 27 (mx_const (.int 0) 28) from sn_61 27) rfl ?_
    refine mx_J.step (ls2 := [some (.ref 25), some (xI x0), some (xI x1), some (xI 0)]) (sn_61 28) (fun _ _ => rfl) ?_
    have c29 : ∀ (m5 : Nat) (w5_3 : Int) (Z6 : xZ) (h6 : mx_H), 385 - w5_3 < (m5 : Int) → 0 ≤ w5_3 ∧ w5_3 ≤ 385 → XH n s S Z6 h6 → GI n S Z6 → fr' [(14, (-1)), (16, (-1)), (17, (-1)), (18, (-1)), (19, (-1)), (25, 8), (26, (-1)), (27, (-1)), (28, (-1)), (29, (-1))] Z4 Z6 → mx_J (tB l D b0 ad Hb tau) mt_61 (d + 9) 29 [some (.ref 25), some (xI x0), some (xI x1), some (xI w5_3)] [] h6 Post := by
      intro m5
      induction m5 with
      | zero => intro w5_3 Z6 h6 q5 f5_0 hx6 hG6 hf6; exact absurd q5 (by omega)
      | succ m5 ih5 =>
        intro w5_3 Z6 h6 q5 f5_0 hx6 hG6 hf6
        refine mx_J.step (sn_61 29) (fun _ _ => rfl) ?_
        refine mx_J.step (sn_61 30) (fun _ _ => rfl) ?_
        have b7 : 0 ≤ Z6 25 8 ∧ Z6 25 8 ≤ 385 := hG6.pr 25 8
        refine JgetI (g := 8) (z := Z6 25 8) hx6 (show mx_Sn _ _ 31 (mx_getf 8 8 34) from sn_61 31) a25 s25 rfl rfl rfl ?_
        have c77 : mx_J (tB l D b0 ad Hb tau) mt_61 (d + 9) 77 [some (.ref 25), some (xI x0), some (xI x1), some (xI w5_3)] [] h6 Post := by
          refine JcI (z := (-1)) (show mx_Sn _ _ 77 (mx_const (.int (-1)) 78) from sn_61 77) rfl ?_
          exact mx_J.ret (sn_61 78) (fun _ _ => rfl) (hP (-1) Z6 h6 hx6 hG6 (fr_tr (M := [(14, (-1)), (16, (-1)), (17, (-1)), (18, (-1)), (19, (-1)), (25, 8), (26, (-1)), (27, (-1)), (28, (-1)), (29, (-1))]) (fr_tr (M := [(14, (-1)), (16, (-1)), (17, (-1)), (18, (-1)), (19, (-1)), (25, 8), (26, (-1)), (27, (-1)), (28, (-1)), (29, (-1))]) (fr_tr (M := [(14, (-1)), (16, (-1)), (17, (-1)), (18, (-1)), (19, (-1)), (25, 8), (26, (-1)), (27, (-1)), (28, (-1)), (29, (-1))]) (fr_tr (M := [(14, (-1)), (16, (-1)), (17, (-1)), (18, (-1)), (19, (-1)), (25, 8), (26, (-1)), (27, (-1)), (28, (-1)), (29, (-1))]) (fr_tr (M := [(14, (-1)), (16, (-1)), (17, (-1)), (18, (-1)), (19, (-1)), (25, 8), (26, (-1)), (27, (-1)), (28, (-1)), (29, (-1))]) fr_rf (hf1) (M1 := []) rfl rfl) (fr_ua hE2) rfl rfl) (fr_ua hE3) rfl rfl) (fr_up hE4) rfl rfl) (hf6) rfl rfl) (by omega))
        refine Jicmp_ge (show mx_Sn _ _ 34 (mx_icmp_ge 77 37) from sn_61 34) (by omega) (by omega) (fun q9 => ?_) (fun q9 => ?_)
        · skip
          exact c77 
        · skip
          refine mx_J.step (sn_61 37) (fun _ _ => rfl) ?_
          refine JcI (z := 385) (show mx_Sn _ _ 38 (mx_const (.int 385) 41) from sn_61 38) rfl ?_
          refine Jicmp_ge (show mx_Sn _ _ 41 (mx_icmp_ge 77 44) from sn_61 41) (by omega) (by omega) (fun q10 => ?_) (fun q10 => ?_)
          · skip
            exact c77 
          · skip
            refine mx_J.step (sn_61 44) (fun _ _ => rfl) ?_
            refine JgetR (g := 2) (b := 26) hx6 (show mx_Sn _ _ 45 (mx_getf 8 2 48) from sn_61 45) a25 s25 rfl rfl (hG6.prr 25 2 rfl) ?_
            refine mx_J.step (sn_61 48) (fun _ _ => rfl) ?_
            have b11 : 0 ≤ Z6 26 w5_3 ∧ Z6 26 w5_3 ≤ 384 := hG6.pr 26 w5_3
            refine JialdI (z := Z6 26 w5_3) hx6 (show mx_Sn _ _ 49 (mx_iald 50) from sn_61 49) a26 s26 (by omega) rfl ?_
            refine mx_J.step (sn_61 50) (fun _ _ => rfl) ?_
            refine Jicmp_ne (show mx_Sn _ _ 51 (mx_icmp_ne 61 54) from sn_61 51) (by omega) (by omega) (fun q12 => ?_) (fun q12 => ?_)
            · skip
              refine mx_J.step (sn_61 61) (fun _ _ => rfl) ?_
              refine mx_J.step (sn_61 62) (fun _ _ => rfl) ?_
              refine JgetR (g := 2) (b := 26) hx6 (show mx_Sn _ _ 63 (mx_getf 8 2 66) from sn_61 63) a25 s25 rfl rfl (hG6.prr 25 2 rfl) ?_
              refine mx_J.step (sn_61 66) (fun _ _ => rfl) ?_
              have b13 : 0 ≤ Z6 26 w5_3 ∧ Z6 26 w5_3 ≤ 384 := hG6.pr 26 w5_3
              refine JialdI (z := Z6 26 w5_3) hx6 (show mx_Sn _ _ 67 (mx_iald 68) from sn_61 67) a26 s26 (by omega) rfl ?_
              obtain ⟨Z14, h14, hc14, hx14, hG14, hf14⟩ := ct_62_25 (d := d + 0) (l := l) (D := D) (b0 := b0) (ad := ad) (Hb := Hb) (tau := tau) hx6 hG6 (show 0 ≤ Z6 26 w5_3 ∧ Z6 26 w5_3 ≤ 384 by omega)
              refine Jcv0 hx6 (show mx_Sn _ _ 68 (mx_callv 62 2 8 71) from sn_61 68) a25 s25 hc14 rfl rfl rfl ?_
              refine Jiinc (z := w5_3) (cz := 1) (ls2 := [some (.ref 25), some (xI x0), some (xI x1), some (xI (w5_3 + 1))]) (show mx_Sn _ _ 71 (mx_iinc 3 1 74) from sn_61 71) rfl rfl rfl rfl ?_
              refine mx_J.step (sn_61 74) (fun _ _ => rfl) ?_
              exact ih5 (w5_3 + 1) Z14 h14 (by omega) (by omega) hx14 hG14 (fr_tr (M := [(14, (-1)), (16, (-1)), (17, (-1)), (18, (-1)), (19, (-1)), (25, 8), (26, (-1)), (27, (-1)), (28, (-1)), (29, (-1))]) (fr_tr (M := [(14, (-1)), (16, (-1)), (17, (-1)), (18, (-1)), (19, (-1)), (25, 8), (26, (-1)), (27, (-1)), (28, (-1)), (29, (-1))]) fr_rf (hf6) (M1 := []) rfl rfl) (hf14) rfl rfl)
            · skip
              refine mx_J.step (sn_61 54) (fun _ _ => rfl) ?_
              refine JgetR (g := 5) (b := 29) hx6 (show mx_Sn _ _ 55 (mx_getf 8 5 58) from sn_61 55) a25 s25 rfl rfl (hG6.prr 25 5 rfl) ?_
              refine mx_J.step (sn_61 58) (fun _ _ => rfl) ?_
              have b15 : (-2147483648) ≤ Z6 29 x1 ∧ Z6 29 x1 ≤ 2147483647 := hG6.pr 29 x1
              refine JialdI (z := Z6 29 x1) hx6 (show mx_Sn _ _ 59 (mx_iald 60) from sn_61 59) a29 s29 (by omega) rfl ?_
              exact mx_J.ret (sn_61 60) (fun _ _ => rfl) (hP (Z6 29 x1) Z6 h6 hx6 hG6 (fr_tr (M := [(14, (-1)), (16, (-1)), (17, (-1)), (18, (-1)), (19, (-1)), (25, 8), (26, (-1)), (27, (-1)), (28, (-1)), (29, (-1))]) (fr_tr (M := [(14, (-1)), (16, (-1)), (17, (-1)), (18, (-1)), (19, (-1)), (25, 8), (26, (-1)), (27, (-1)), (28, (-1)), (29, (-1))]) (fr_tr (M := [(14, (-1)), (16, (-1)), (17, (-1)), (18, (-1)), (19, (-1)), (25, 8), (26, (-1)), (27, (-1)), (28, (-1)), (29, (-1))]) (fr_tr (M := [(14, (-1)), (16, (-1)), (17, (-1)), (18, (-1)), (19, (-1)), (25, 8), (26, (-1)), (27, (-1)), (28, (-1)), (29, (-1))]) (fr_tr (M := [(14, (-1)), (16, (-1)), (17, (-1)), (18, (-1)), (19, (-1)), (25, 8), (26, (-1)), (27, (-1)), (28, (-1)), (29, (-1))]) fr_rf (hf1) (M1 := []) rfl rfl) (fr_ua hE2) rfl rfl) (fr_ua hE3) rfl rfl) (fr_up hE4) rfl rfl) (hf6) rfl rfl) (by omega))
    exact c29 (Int.toNat (385 - 0) + 1) 0 Z4 h4 (by omega) (by omega) hx4 hG4 fr_rf
theorem ct_61_25 {l : Launch} {D : va_G} {b0 : Nat} {ad : Nat → Nat} {Hb : Heap} {tau : Nat → Int64} {d n s : Nat} {S : Nat → xS} {Z : xZ} {h : mx_H} (hx : XH n s S Z h) (hG : GI n S Z) {x0 x1 : Int} (p0 : 0 ≤ x0 ∧ x0 ≤ 384) (p1 : (-1) ≤ x1 ∧ x1 ≤ 384) : ∃ (z : Int) (Z' : xZ) (h' : mx_H), mx_Ca (tB l D b0 ad Hb tau) (d + 10) 61 [.ref 25, xI x0, xI x1] h (some (xI z), h') ∧ XH n s S Z' h' ∧ GI n S Z' ∧ fr' [(14, (-1)), (16, (-1)), (17, (-1)), (18, (-1)), (19, (-1)), (25, 8), (26, (-1)), (27, (-1)), (28, (-1)), (29, (-1))] Z Z' ∧ ((-2147483648) ≤ z ∧ z ≤ 2147483647) := by
  obtain ⟨r, hca, z, Z', h', e, q⟩ := Jmt (B := tB l D b0 ad Hb tau) (M := mt_61) (mi := 61) (as := [.ref 25, xI x0, xI x1]) (d := d + 9) (ls := [some (.ref 25), some (xI x0), some (xI x1), none]) rfl rfl rfl rfl rfl rfl (cw_61_25 (l := l) (D := D) (b0 := b0) (ad := ad) (Hb := Hb) (tau := tau) (d := d) (Post := fun r => ∃ (z : Int) (Z' : xZ) (h' : mx_H), r = (some (xI z), h') ∧ XH n s S Z' h' ∧ GI n S Z' ∧ fr' [(14, (-1)), (16, (-1)), (17, (-1)), (18, (-1)), (19, (-1)), (25, 8), (26, (-1)), (27, (-1)), (28, (-1)), (29, (-1))] Z Z' ∧ ((-2147483648) ≤ z ∧ z ≤ 2147483647)) hx hG p0 p1 (fun z Z' h' q1 q2 q3 q4 => ⟨z, Z', h', rfl, q1, q2, q3, q4⟩))
  subst e; exact ⟨z, Z', h', hca, q⟩
set_option maxRecDepth 100000 in
theorem cw_63_25 {l : Launch} {D : va_G} {b0 : Nat} {ad : Nat → Nat} {Hb : Heap} {tau : Nat → Int64} {d n s : Nat} {S : Nat → xS} {Z : xZ} {h : mx_H} {Post : mx_R → Prop} (hx : XH n s S Z h) (hG : GI n S Z) {x0 x1 : Int} (p0 : 0 ≤ x0 ∧ x0 ≤ 384) (p1 : (-2147483648) ≤ x1 ∧ x1 ≤ 2147483647) (hP : ∀ z : Int, 0 ≤ z ∧ z ≤ 18 → Post (some (xI z), h)) : mx_J (tB l D b0 ad Hb tau) mt_63 (d + 0) 0 [some (.ref 25), some (xI x0), some (xI x1), none, none] [] h Post := by
    have a25 : 25 < n := lt83 hG.1 rfl
    have s25 : S 25 = .inl (8, [2, 2, 2, 2, 2, 2, 2, 2, 0]) := hG.2.1 25 rfl
    have a27 : 27 < n := lt83 hG.1 rfl
    have s27 : S 27 = .inr (.int, 385, 0) := hG.2.1 27 rfl
    have a28 : 28 < n := lt83 hG.1 rfl
    have s28 : S 28 = .inr (.int, 385, 0) := hG.2.1 28 rfl
    refine mx_J.step (sn_63 0) (fun _ _ => rfl) ?_
    refine mx_J.step (ls2 := [some (.ref 25), some (xI x0), some (xI x1), some (xI x0), none]) (sn_63 1) (fun _ _ => rfl) ?_
    refine JcI (z := 0) (show mx_Sn _ _ 2 (mx_const (.int 0) 3) from sn_63 2) rfl ?_
    refine mx_J.step (ls2 := [some (.ref 25), some (xI x0), some (xI x1), some (xI x0), some (xI 0)]) (sn_63 3) (fun _ _ => rfl) ?_
    have c5 : ∀ (m1 : Nat) (w1_3 : Int) (w1_4 : Int), (((x1 - w1_4).toNat : Nat) : Int) < (m1 : Int) → 0 ≤ w1_3 ∧ w1_3 ≤ 384 → 0 ≤ w1_4 ∧ w1_4 ≤ 2147483647 → mx_J (tB l D b0 ad Hb tau) mt_63 (d + 0) 5 [some (.ref 25), some (xI x0), some (xI x1), some (xI w1_3), some (xI w1_4)] [] h Post := by
      intro m1
      induction m1 with
      | zero => intro w1_3 w1_4 q1 f1_0 f1_1; exact absurd q1 (by omega)
      | succ m1 ih1 =>
        intro w1_3 w1_4 q1 f1_0 f1_1
        refine mx_J.step (sn_63 5) (fun _ _ => rfl) ?_
        refine mx_J.step (sn_63 7) (fun _ _ => rfl) ?_
        refine Jicmp_ge (show mx_Sn _ _ 8 (mx_icmp_ge 24 11) from sn_63 8) (by omega) (by omega) (fun q2 => ?_) (fun q2 => ?_)
        · skip
          refine mx_J.step (sn_63 24) (fun _ _ => rfl) ?_
          refine JgetR (g := 4) (b := 28) hx (show mx_Sn _ _ 25 (mx_getf 8 4 28) from sn_63 25) a25 s25 rfl rfl (hG.prr 25 4 rfl) ?_
          refine mx_J.step (sn_63 28) (fun _ _ => rfl) ?_
          have b3 : 0 ≤ Z 28 w1_3 ∧ Z 28 w1_3 ≤ 18 := hG.pr 28 w1_3
          refine JialdI (z := Z 28 w1_3) hx (show mx_Sn _ _ 29 (mx_iald 30) from sn_63 29) a28 s28 (by omega) rfl ?_
          exact mx_J.ret (sn_63 30) (fun _ _ => rfl) (hP (Z 28 w1_3) (by omega))
        · skip
          refine mx_J.step (sn_63 11) (fun _ _ => rfl) ?_
          refine JgetR (g := 3) (b := 27) hx (show mx_Sn _ _ 12 (mx_getf 8 3 15) from sn_63 12) a25 s25 rfl rfl (hG.prr 25 3 rfl) ?_
          refine mx_J.step (sn_63 15) (fun _ _ => rfl) ?_
          have b4 : 0 ≤ Z 27 w1_3 ∧ Z 27 w1_3 ≤ 384 := hG.pr 27 w1_3
          refine JialdI (z := Z 27 w1_3) hx (show mx_Sn _ _ 16 (mx_iald 17) from sn_63 16) a27 s27 (by omega) rfl ?_
          refine mx_J.step (ls2 := [some (.ref 25), some (xI x0), some (xI x1), some (xI (Z 27 w1_3)), some (xI w1_4)]) (sn_63 17) (fun _ _ => rfl) ?_
          refine Jiinc (z := w1_4) (cz := 1) (ls2 := [some (.ref 25), some (xI x0), some (xI x1), some (xI (Z 27 w1_3)), some (xI (w1_4 + 1))]) (show mx_Sn _ _ 18 (mx_iinc 4 1 21) from sn_63 18) rfl rfl rfl rfl ?_
          refine mx_J.step (sn_63 21) (fun _ _ => rfl) ?_
          exact ih1 (Z 27 w1_3) (w1_4 + 1) (by omega) (by omega) (by omega)
    exact c5 (Int.toNat ((((x1 - 0).toNat : Nat) : Int)) + 1) x0 0 (by omega) (by omega) (by omega)
theorem ct_63_25 {l : Launch} {D : va_G} {b0 : Nat} {ad : Nat → Nat} {Hb : Heap} {tau : Nat → Int64} {d n s : Nat} {S : Nat → xS} {Z : xZ} {h : mx_H} (hx : XH n s S Z h) (hG : GI n S Z) {x0 x1 : Int} (p0 : 0 ≤ x0 ∧ x0 ≤ 384) (p1 : (-2147483648) ≤ x1 ∧ x1 ≤ 2147483647) : ∃ z : Int, mx_Ca (tB l D b0 ad Hb tau) (d + 1) 63 [.ref 25, xI x0, xI x1] h (some (xI z), h) ∧ (0 ≤ z ∧ z ≤ 18) := by
  obtain ⟨r, hca, z, e, hp⟩ := Jmt (B := tB l D b0 ad Hb tau) (M := mt_63) (mi := 63) (as := [.ref 25, xI x0, xI x1]) (d := d + 0) (ls := [some (.ref 25), some (xI x0), some (xI x1), none, none]) rfl rfl rfl rfl rfl rfl (cw_63_25 (l := l) (D := D) (b0 := b0) (ad := ad) (Hb := Hb) (tau := tau) (d := d) (Post := fun r => ∃ z : Int, r = (some (xI z), h) ∧ (0 ≤ z ∧ z ≤ 18)) hx hG p0 p1 (fun z hz => ⟨z, rfl, hz⟩))
  subst e; exact ⟨z, hca, hp⟩
set_option maxRecDepth 100000 in
theorem cw_65_25 {l : Launch} {D : va_G} {b0 : Nat} {ad : Nat → Nat} {Hb : Heap} {tau : Nat → Int64} {d n s : Nat} {S : Nat → xS} {Z : xZ} {h : mx_H} {Post : mx_R → Prop} (hx : XH n s S Z h) (hG : GI n S Z) {x0 x1 x2 : Int} (p0 : (-2147483648) ≤ x0 ∧ x0 ≤ 2147483647) (p1 : 1 ≤ x1 ∧ x1 ≤ 18) (p2 : 0 ≤ x2 ∧ x2 ≤ 385) (hP : ∀ (z : Int) (Z' : xZ) (h' : mx_H), XH n s S Z' h' → GI n S Z' → fr' [(14, (-1)), (16, (-1)), (17, (-1)), (18, (-1)), (19, (-1))] Z Z' → 0 ≤ z ∧ z ≤ 1 → Post (some (xI z), h')) : mx_J (tB l D b0 ad Hb tau) mt_65 (d + 8) 0 [some (.ref 25), some (xI x0), some (xI x1), some (xI x2), none, none, none] [] h Post := by
    have a7 : 7 < n := lt83 hG.1 rfl
    have s7 : S 7 = .inl (0, [2, 2, 2, 2, 0, 0]) := hG.2.1 7 rfl
    have a12 : 12 < n := lt83 hG.1 rfl
    have s12 : S 12 = .inl (4, [2, 2, 0, 2, 2, 2, 2, 2, 2]) := hG.2.1 12 rfl
    have a25 : 25 < n := lt83 hG.1 rfl
    have s25 : S 25 = .inl (8, [2, 2, 2, 2, 2, 2, 2, 2, 0]) := hG.2.1 25 rfl
    have a29 : 29 < n := lt83 hG.1 rfl
    have s29 : S 29 = .inr (.int, 385, 0) := hG.2.1 29 rfl
    refine mx_J.step (sn_65 0) (fun _ _ => rfl) ?_
    refine JgetR (g := 0) (b := 7) hx (show mx_Sn _ _ 1 (mx_getf 8 0 4) from sn_65 1) a25 s25 rfl rfl (hG.prr 25 0 rfl) ?_
    refine mx_J.step (sn_65 4) (fun _ _ => rfl) ?_
    refine JcI (z := 0) (show mx_Sn _ _ 5 (mx_const (.int 0) 6) from sn_65 5) rfl ?_
    obtain ⟨z1, hc1, b1⟩ := ct_6_7 (d := d + 6) (l := l) (D := D) (b0 := b0) (ad := ad) (Hb := Hb) (tau := tau) hx hG (show (-2147483648) ≤ x0 ∧ x0 ≤ 2147483647 by omega) (show (-2147483648) ≤ 0 ∧ 0 ≤ 2147483647 by omega)
    refine Jcv hx (show mx_Sn _ _ 6 (mx_callv 6 3 0 9) from sn_65 6) a7 s7 hc1 rfl rfl rfl ?_
    refine mx_J.step (ls2 := [some (.ref 25), some (xI x0), some (xI x1), some (xI x2), some (xI z1), none, none]) (sn_65 9) (fun _ _ => rfl) ?_
    refine JcI (z := 0) (show mx_Sn _ _ 11 (mx_const (.int 0) 12) from sn_65 11) rfl ?_
    refine mx_J.step (ls2 := [some (.ref 25), some (xI x0), some (xI x1), some (xI x2), some (xI z1), some (xI 0), none]) (sn_65 12) (fun _ _ => rfl) ?_
    have c14 : ∀ (m2 : Nat) (w2_5 : Int) (u2_6 : Option Value) (Z3 : xZ) (h3 : mx_H), 19 - w2_5 < (m2 : Int) → 0 ≤ w2_5 ∧ w2_5 ≤ 19 → XH n s S Z3 h3 → GI n S Z3 → fr' [(14, (-1)), (16, (-1)), (17, (-1)), (18, (-1)), (19, (-1))] Z Z3 → mx_J (tB l D b0 ad Hb tau) mt_65 (d + 8) 14 [some (.ref 25), some (xI x0), some (xI x1), some (xI x2), some (xI z1), some (xI w2_5), u2_6] [] h3 Post := by
      intro m2
      induction m2 with
      | zero => intro w2_5 u2_6 Z3 h3 q2 f2_0 hx3 hG3 hf3; exact absurd q2 (by omega)
      | succ m2 ih2 =>
        intro w2_5 u2_6 Z3 h3 q2 f2_0 hx3 hG3 hf3
        refine mx_J.step (sn_65 14) (fun _ _ => rfl) ?_
        refine mx_J.step (sn_65 16) (fun _ _ => rfl) ?_
        refine Jicmp_gt (show mx_Sn _ _ 18 (mx_icmp_gt 74 21) from sn_65 18) (by omega) (by omega) (fun q4 => ?_) (fun q4 => ?_)
        · skip
          refine JcI (z := 1) (show mx_Sn _ _ 74 (mx_const (.int 1) 75) from sn_65 74) rfl ?_
          exact mx_J.ret (show mx_Sn _ _ 75 (mx_zret) from sn_65 75) (fun _ _ => zr_ok (by omega)) (hP 1 Z3 h3 hx3 hG3 (fr_tr (M := [(14, (-1)), (16, (-1)), (17, (-1)), (18, (-1)), (19, (-1))]) fr_rf (hf3) (M1 := []) rfl rfl) (by omega))
        · skip
          refine mx_J.step (sn_65 21) (fun _ _ => rfl) ?_
          refine JgetR (g := 1) (b := 12) hx3 (show mx_Sn _ _ 22 (mx_getf 8 1 25) from sn_65 22) a25 s25 rfl rfl (hG3.prr 25 1 rfl) ?_
          refine mx_J.step (sn_65 25) (fun _ _ => rfl) ?_
          refine mx_J.step (sn_65 26) (fun _ _ => rfl) ?_
          obtain ⟨z5, Z5, h5, hc5, hx5, hG5, hf5, b5⟩ := ct_26_12 (d := d + 0) (l := l) (D := D) (b0 := b0) (ad := ad) (Hb := Hb) (tau := tau) hx3 hG3 (show (-2147483648) ≤ x0 ∧ x0 ≤ 2147483647 by omega) (show (-2147483648) ≤ w2_5 ∧ w2_5 ≤ 2147483647 by omega)
          refine Jcv hx3 (show mx_Sn _ _ 28 (mx_callv 26 3 4 31) from sn_65 28) a12 s12 hc5 rfl rfl rfl ?_
          refine mx_J.step (ls2 := [some (.ref 25), some (xI x0), some (xI x1), some (xI x2), some (xI z1), some (xI w2_5), some (xI z5)]) (sn_65 31) (fun _ _ => rfl) ?_
          refine mx_J.step (sn_65 33) (fun _ _ => rfl) ?_
          have c68 : mx_J (tB l D b0 ad Hb tau) mt_65 (d + 8) 68 [some (.ref 25), some (xI x0), some (xI x1), some (xI x2), some (xI z1), some (xI w2_5), some (xI z5)] [] h5 Post := by
            refine Jiinc (z := w2_5) (cz := 1) (ls2 := [some (.ref 25), some (xI x0), some (xI x1), some (xI x2), some (xI z1), some (xI (w2_5 + 1)), some (xI z5)]) (show mx_Sn _ _ 68 (mx_iinc 5 1 71) from sn_65 68) rfl rfl rfl rfl ?_
            refine mx_J.step (sn_65 71) (fun _ _ => rfl) ?_
            exact ih2 (w2_5 + 1) (some (xI z5)) Z5 h5 (by omega) (by omega) hx5 hG5 (fr_tr (M := [(14, (-1)), (16, (-1)), (17, (-1)), (18, (-1)), (19, (-1))]) (fr_tr (M := [(14, (-1)), (16, (-1)), (17, (-1)), (18, (-1)), (19, (-1))]) fr_rf (hf3) (M1 := []) rfl rfl) (hf5) rfl rfl)
          refine Jif_lt (show mx_Sn _ _ 35 (mx_if_lt 68 38) from sn_65 35) (by omega) (fun q7 => ?_) (fun q7 => ?_)
          · skip
            exact c68 
          · skip
            refine mx_J.step (sn_65 38) (fun _ _ => rfl) ?_
            refine JgetR (g := 0) (b := 7) hx5 (show mx_Sn _ _ 39 (mx_getf 8 0 42) from sn_65 39) a25 s25 rfl rfl (hG5.prr 25 0 rfl) ?_
            refine mx_J.step (sn_65 42) (fun _ _ => rfl) ?_
            refine JcI (z := 0) (show mx_Sn _ _ 44 (mx_const (.int 0) 45) from sn_65 44) rfl ?_
            obtain ⟨z8, hc8, b8⟩ := ct_6_7 (d := d + 6) (l := l) (D := D) (b0 := b0) (ad := ad) (Hb := Hb) (tau := tau) hx5 hG5 (show (-2147483648) ≤ z5 ∧ z5 ≤ 2147483647 by omega) (show (-2147483648) ≤ 0 ∧ 0 ≤ 2147483647 by omega)
            have eq9 : Z5 9 (z5 * 18 + 0) = Z 9 (z5 * 18 + 0) := ((hf5 9 (z5 * 18 + 0) rfl).trans (hf3 9 (z5 * 18 + 0) rfl))
            refine Jcv hx5 (show mx_Sn _ _ 45 (mx_callv 6 3 0 48) from sn_65 45) a7 s7 hc8 rfl rfl rfl ?_
            refine mx_J.step (sn_65 48) (fun _ _ => rfl) ?_
            refine Jicmp_gt (show mx_Sn _ _ 49 (mx_icmp_gt 68 52) from sn_65 49) (by omega) (by omega) (fun q10 => ?_) (fun q10 => ?_)
            · skip
              exact c68 
            · skip
              refine mx_J.step (sn_65 52) (fun _ _ => rfl) ?_
              refine JgetR (g := 5) (b := 29) hx5 (show mx_Sn _ _ 53 (mx_getf 8 5 56) from sn_65 53) a25 s25 rfl rfl (hG5.prr 25 5 rfl) ?_
              refine mx_J.step (sn_65 56) (fun _ _ => rfl) ?_
              have b11 : (-2147483648) ≤ Z 29 z5 ∧ Z 29 z5 ≤ 2147483647 := hG.pr 29 z5
              refine JialdI (z := Z 29 z5) hx5 (show mx_Sn _ _ 58 (mx_iald 59) from sn_65 58) a29 s29 (by omega) ((hf5 29 z5 rfl).trans (hf3 29 z5 rfl)) ?_
              refine mx_J.step (sn_65 59) (fun _ _ => rfl) ?_
              obtain ⟨z12, hc12, b12⟩ := ct_66_ (d := d + 7) (l := l) (D := D) (b0 := b0) (ad := ad) (Hb := Hb) (tau := tau) hx5 hG5 (show (-2147483648) ≤ Z 29 z5 ∧ Z 29 z5 ≤ 2147483647 by omega) (show (-2147483648) ≤ x2 ∧ x2 ≤ 2147483647 by omega)
              refine Jcs (show mx_Sn _ _ 60 (mx_calls 66 2 63) from sn_65 60) hc12 rfl rfl rfl ?_
              refine Jif_ne (show mx_Sn _ _ 63 (mx_if_ne 68 66) from sn_65 63) (by omega) (fun q13 => ?_) (fun q13 => ?_)
              · skip
                exact c68 
              · skip
                refine JcI (z := 0) (show mx_Sn _ _ 66 (mx_const (.int 0) 67) from sn_65 66) rfl ?_
                exact mx_J.ret (show mx_Sn _ _ 67 (mx_zret) from sn_65 67) (fun _ _ => zr_ok (by omega)) (hP 0 Z5 h5 hx5 hG5 (fr_tr (M := [(14, (-1)), (16, (-1)), (17, (-1)), (18, (-1)), (19, (-1))]) (fr_tr (M := [(14, (-1)), (16, (-1)), (17, (-1)), (18, (-1)), (19, (-1))]) fr_rf (hf3) (M1 := []) rfl rfl) (hf5) rfl rfl) (by omega))
    exact c14 (Int.toNat (19 - 0) + 1) 0 none Z h (by omega) (by omega) hx hG fr_rf
theorem ct_65_25 {l : Launch} {D : va_G} {b0 : Nat} {ad : Nat → Nat} {Hb : Heap} {tau : Nat → Int64} {d n s : Nat} {S : Nat → xS} {Z : xZ} {h : mx_H} (hx : XH n s S Z h) (hG : GI n S Z) {x0 x1 x2 : Int} (p0 : (-2147483648) ≤ x0 ∧ x0 ≤ 2147483647) (p1 : 1 ≤ x1 ∧ x1 ≤ 18) (p2 : 0 ≤ x2 ∧ x2 ≤ 385) : ∃ (z : Int) (Z' : xZ) (h' : mx_H), mx_Ca (tB l D b0 ad Hb tau) (d + 9) 65 [.ref 25, xI x0, xI x1, xI x2] h (some (xI z), h') ∧ XH n s S Z' h' ∧ GI n S Z' ∧ fr' [(14, (-1)), (16, (-1)), (17, (-1)), (18, (-1)), (19, (-1))] Z Z' ∧ (0 ≤ z ∧ z ≤ 1) := by
  obtain ⟨r, hca, z, Z', h', e, q⟩ := Jmt (B := tB l D b0 ad Hb tau) (M := mt_65) (mi := 65) (as := [.ref 25, xI x0, xI x1, xI x2]) (d := d + 8) (ls := [some (.ref 25), some (xI x0), some (xI x1), some (xI x2), none, none, none]) rfl rfl rfl rfl rfl rfl (cw_65_25 (l := l) (D := D) (b0 := b0) (ad := ad) (Hb := Hb) (tau := tau) (d := d) (Post := fun r => ∃ (z : Int) (Z' : xZ) (h' : mx_H), r = (some (xI z), h') ∧ XH n s S Z' h' ∧ GI n S Z' ∧ fr' [(14, (-1)), (16, (-1)), (17, (-1)), (18, (-1)), (19, (-1))] Z Z' ∧ (0 ≤ z ∧ z ≤ 1)) hx hG p0 p1 p2 (fun z Z' h' q1 q2 q3 q4 => ⟨z, Z', h', rfl, q1, q2, q3, q4⟩))
  subst e; exact ⟨z, Z', h', hca, q⟩
set_option maxRecDepth 100000 in
theorem cw_64_25 {l : Launch} {D : va_G} {b0 : Nat} {ad : Nat → Nat} {Hb : Heap} {tau : Nat → Int64} {d n s : Nat} {S : Nat → xS} {Z : xZ} {h : mx_H} {Post : mx_R → Prop} (hx : XH n s S Z h) (hG : GI n S Z) {x0 x1 : Int} (p0 : 0 ≤ x0 ∧ x0 ≤ 384) (p1 : 1 ≤ x1 ∧ x1 ≤ 18) (hP : ∀ (z : Int) (Z' : xZ) (h' : mx_H), XH n s S Z' h' → GI n S Z' → fr' [(14, (-1)), (16, (-1)), (17, (-1)), (18, (-1)), (19, (-1)), (29, (-1))] Z Z' → (-2147483648) ≤ z ∧ z ≤ 2147483647 → Post (some (xI z), h')) : mx_J (tB l D b0 ad Hb tau) mt_64 (d + 9) 0 [some (.ref 25), some (xI x0), some (xI x1), none, none, none] [] h Post := by
    have a7 : 7 < n := lt83 hG.1 rfl
    have s7 : S 7 = .inl (0, [2, 2, 2, 2, 0, 0]) := hG.2.1 7 rfl
    have a25 : 25 < n := lt83 hG.1 rfl
    have s25 : S 25 = .inl (8, [2, 2, 2, 2, 2, 2, 2, 2, 0]) := hG.2.1 25 rfl
    have a29 : 29 < n := lt83 hG.1 rfl
    have s29 : S 29 = .inr (.int, 385, 0) := hG.2.1 29 rfl
    refine mx_J.step (sn_64 0) (fun _ _ => rfl) ?_
    refine JgetR (g := 5) (b := 29) hx (show mx_Sn _ _ 1 (mx_getf 8 5 4) from sn_64 1) a25 s25 rfl rfl (hG.prr 25 5 rfl) ?_
    refine JcI (z := (-1)) (show mx_Sn _ _ 4 (mx_const (.int (-1)) 5) from sn_64 4) rfl ?_
    obtain ⟨Z1, h1, hc1, hx1, hG1, hf1⟩ := ct_284_29_m1 (d := d + 8) (l := l) (D := D) (b0 := b0) (ad := ad) (Hb := Hb) (tau := tau) hx hG 
    refine Jcs0 (show mx_Sn _ _ 5 (mx_calls 284 2 8) from sn_64 5) hc1 rfl rfl rfl ?_
    refine JcI (z := 1) (show mx_Sn _ _ 8 (mx_const (.int 1) 9) from sn_64 8) rfl ?_
    refine mx_J.step (ls2 := [some (.ref 25), some (xI x0), some (xI x1), some (xI 1), none, none]) (sn_64 9) (fun _ _ => rfl) ?_
    refine JcI (z := 0) (show mx_Sn _ _ 10 (mx_const (.int 0) 11) from sn_64 10) rfl ?_
    refine mx_J.step (ls2 := [some (.ref 25), some (xI x0), some (xI x1), some (xI 1), some (xI 0), none]) (sn_64 11) (fun _ _ => rfl) ?_
    have c13 : ∀ (m2 : Nat) (w2_3 : Int) (w2_4 : Int) (u2_5 : Option Value) (Z3 : xZ) (h3 : mx_H), 386 - w2_4 < (m2 : Int) → 0 ≤ w2_3 ∧ w2_3 ≤ 1 → 0 ≤ w2_4 ∧ w2_4 ≤ 386 → XH n s S Z3 h3 → GI n S Z3 → fr' [(14, (-1)), (16, (-1)), (17, (-1)), (18, (-1)), (19, (-1)), (29, (-1))] Z1 Z3 → mx_J (tB l D b0 ad Hb tau) mt_64 (d + 9) 13 [some (.ref 25), some (xI x0), some (xI x1), some (xI w2_3), some (xI w2_4), u2_5] [] h3 Post := by
      intro m2
      induction m2 with
      | zero => intro w2_3 w2_4 u2_5 Z3 h3 q2 f2_0 f2_1 hx3 hG3 hf3; exact absurd q2 (by omega)
      | succ m2 ih2 =>
        intro w2_3 w2_4 u2_5 Z3 h3 q2 f2_0 f2_1 hx3 hG3 hf3
        refine mx_J.step (sn_64 13) (fun _ _ => rfl) ?_
        refine JcI (z := 385) (show mx_Sn _ _ 15 (mx_const (.int 385) 18) from sn_64 15) rfl ?_
        have c103 : mx_J (tB l D b0 ad Hb tau) mt_64 (d + 9) 103 [some (.ref 25), some (xI x0), some (xI x1), some (xI w2_3), some (xI w2_4), u2_5] [] h3 Post := by
          refine JcI (z := (-1)) (show mx_Sn _ _ 103 (mx_const (.int (-1)) 104) from sn_64 103) rfl ?_
          exact mx_J.ret (sn_64 104) (fun _ _ => rfl) (hP (-1) Z3 h3 hx3 hG3 (fr_tr (M := [(14, (-1)), (16, (-1)), (17, (-1)), (18, (-1)), (19, (-1)), (29, (-1))]) (fr_tr (M := [(14, (-1)), (16, (-1)), (17, (-1)), (18, (-1)), (19, (-1)), (29, (-1))]) fr_rf (hf1) (M1 := []) rfl rfl) (hf3) rfl rfl) (by omega))
        refine Jicmp_gt (show mx_Sn _ _ 18 (mx_icmp_gt 103 21) from sn_64 18) (by omega) (by omega) (fun q5 => ?_) (fun q5 => ?_)
        · skip
          exact c103 
        · skip
          refine mx_J.step (sn_64 21) (fun _ _ => rfl) ?_
          refine Jif_eq (show mx_Sn _ _ 22 (mx_if_eq 103 25) from sn_64 22) (by omega) (fun q6 => ?_) (fun q6 => ?_)
          · skip
            exact c103 
          · skip
            refine JcI (z := 0) (show mx_Sn _ _ 25 (mx_const (.int 0) 26) from sn_64 25) rfl ?_
            refine mx_J.step (ls2 := [some (.ref 25), some (xI x0), some (xI x1), some (xI 0), some (xI w2_4), u2_5]) (sn_64 26) (fun _ _ => rfl) ?_
            refine JcI (z := 0) (show mx_Sn _ _ 27 (mx_const (.int 0) 28) from sn_64 27) rfl ?_
            refine mx_J.step (ls2 := [some (.ref 25), some (xI x0), some (xI x1), some (xI 0), some (xI w2_4), some (xI 0)]) (sn_64 28) (fun _ _ => rfl) ?_
            have c30 : ∀ (m7 : Nat) (w7_3 : Int) (w7_5 : Int) (Z8 : xZ) (h8 : mx_H), 385 - w7_5 < (m7 : Int) → 0 ≤ w7_3 ∧ w7_3 ≤ 1 → 0 ≤ w7_5 ∧ w7_5 ≤ 385 → XH n s S Z8 h8 → GI n S Z8 → fr' [(14, (-1)), (16, (-1)), (17, (-1)), (18, (-1)), (19, (-1)), (29, (-1))] Z3 Z8 → mx_J (tB l D b0 ad Hb tau) mt_64 (d + 9) 30 [some (.ref 25), some (xI x0), some (xI x1), some (xI w7_3), some (xI w2_4), some (xI w7_5)] [] h8 Post := by
              intro m7
              induction m7 with
              | zero => intro w7_3 w7_5 Z8 h8 q7 f7_0 f7_1 hx8 hG8 hf8; exact absurd q7 (by omega)
              | succ m7 ih7 =>
                intro w7_3 w7_5 Z8 h8 q7 f7_0 f7_1 hx8 hG8 hf8
                refine mx_J.step (sn_64 30) (fun _ _ => rfl) ?_
                refine mx_J.step (sn_64 32) (fun _ _ => rfl) ?_
                refine JgetR (g := 0) (b := 7) hx8 (show mx_Sn _ _ 33 (mx_getf 8 0 36) from sn_64 33) a25 s25 rfl rfl (hG8.prr 25 0 rfl) ?_
                have b9 : 0 ≤ Z 7 5 ∧ Z 7 5 ≤ 385 := hG.pr 7 5
                refine JgetI (g := 5) (z := Z 7 5) hx8 (show mx_Sn _ _ 36 (mx_getf 0 5 39) from sn_64 36) a7 s7 rfl rfl ((hf8 7 5 rfl).trans ((hf3 7 5 rfl).trans (hf1 7 5 rfl))) ?_
                refine Jicmp_ge (show mx_Sn _ _ 39 (mx_icmp_ge 81 42) from sn_64 39) (by omega) (by omega) (fun q10 => ?_) (fun q10 => ?_)
                · skip
                  refine mx_J.step (sn_64 81) (fun _ _ => rfl) ?_
                  refine JgetR (g := 5) (b := 29) hx8 (show mx_Sn _ _ 82 (mx_getf 8 5 85) from sn_64 82) a25 s25 rfl rfl (hG8.prr 25 5 rfl) ?_
                  refine mx_J.step (sn_64 85) (fun _ _ => rfl) ?_
                  have b11 : (-2147483648) ≤ Z8 29 x0 ∧ Z8 29 x0 ≤ 2147483647 := hG8.pr 29 x0
                  refine JialdI (z := Z8 29 x0) hx8 (show mx_Sn _ _ 86 (mx_iald 87) from sn_64 86) a29 s29 (by omega) rfl ?_
                  refine Jif_lt (show mx_Sn _ _ 87 (mx_if_lt 97 90) from sn_64 87) (by omega) (fun q12 => ?_) (fun q12 => ?_)
                  · skip
                    refine Jiinc (z := w2_4) (cz := 1) (ls2 := [some (.ref 25), some (xI x0), some (xI x1), some (xI w7_3), some (xI (w2_4 + 1)), some (xI w7_5)]) (show mx_Sn _ _ 97 (mx_iinc 4 1 100) from sn_64 97) rfl rfl rfl rfl ?_
                    refine mx_J.step (sn_64 100) (fun _ _ => rfl) ?_
                    exact ih2 w7_3 (w2_4 + 1) (some (xI w7_5)) Z8 h8 (by omega) (by omega) (by omega) hx8 hG8 (fr_tr (M := [(14, (-1)), (16, (-1)), (17, (-1)), (18, (-1)), (19, (-1)), (29, (-1))]) (fr_tr (M := [(14, (-1)), (16, (-1)), (17, (-1)), (18, (-1)), (19, (-1)), (29, (-1))]) fr_rf (hf3) (M1 := []) rfl rfl) (hf8) rfl rfl)
                  · skip
                    refine mx_J.step (sn_64 90) (fun _ _ => rfl) ?_
                    refine JgetR (g := 5) (b := 29) hx8 (show mx_Sn _ _ 91 (mx_getf 8 5 94) from sn_64 91) a25 s25 rfl rfl (hG8.prr 25 5 rfl) ?_
                    refine mx_J.step (sn_64 94) (fun _ _ => rfl) ?_
                    have b13 : (-2147483648) ≤ Z8 29 x0 ∧ Z8 29 x0 ≤ 2147483647 := hG8.pr 29 x0
                    refine JialdI (z := Z8 29 x0) hx8 (show mx_Sn _ _ 95 (mx_iald 96) from sn_64 95) a29 s29 (by omega) rfl ?_
                    exact mx_J.ret (sn_64 96) (fun _ _ => rfl) (hP (Z8 29 x0) Z8 h8 hx8 hG8 (fr_tr (M := [(14, (-1)), (16, (-1)), (17, (-1)), (18, (-1)), (19, (-1)), (29, (-1))]) (fr_tr (M := [(14, (-1)), (16, (-1)), (17, (-1)), (18, (-1)), (19, (-1)), (29, (-1))]) (fr_tr (M := [(14, (-1)), (16, (-1)), (17, (-1)), (18, (-1)), (19, (-1)), (29, (-1))]) fr_rf (hf1) (M1 := []) rfl rfl) (hf3) rfl rfl) (hf8) rfl rfl) (by omega))
                · skip
                  refine mx_J.step (sn_64 42) (fun _ _ => rfl) ?_
                  refine JgetR (g := 5) (b := 29) hx8 (show mx_Sn _ _ 43 (mx_getf 8 5 46) from sn_64 43) a25 s25 rfl rfl (hG8.prr 25 5 rfl) ?_
                  refine mx_J.step (sn_64 46) (fun _ _ => rfl) ?_
                  have b14 : (-2147483648) ≤ Z8 29 w7_5 ∧ Z8 29 w7_5 ≤ 2147483647 := hG8.pr 29 w7_5
                  refine JialdI (z := Z8 29 w7_5) hx8 (show mx_Sn _ _ 48 (mx_iald 49) from sn_64 48) a29 s29 (by omega) rfl ?_
                  have c75 : ∀ (w15_3 : Int) (Z16 : xZ) (h16 : mx_H), 0 ≤ w15_3 ∧ w15_3 ≤ 1 → XH n s S Z16 h16 → GI n S Z16 → fr' [(14, (-1)), (16, (-1)), (17, (-1)), (18, (-1)), (19, (-1)), (29, (-1))] Z8 Z16 → mx_J (tB l D b0 ad Hb tau) mt_64 (d + 9) 75 [some (.ref 25), some (xI x0), some (xI x1), some (xI w15_3), some (xI w2_4), some (xI w7_5)] [] h16 Post := by
                    intro w15_3 Z16 h16 f15_0 hx16 hG16 hf16
                    refine Jiinc (z := w7_5) (cz := 1) (ls2 := [some (.ref 25), some (xI x0), some (xI x1), some (xI w15_3), some (xI w2_4), some (xI (w7_5 + 1))]) (show mx_Sn _ _ 75 (mx_iinc 5 1 78) from sn_64 75) rfl rfl rfl rfl ?_
                    refine mx_J.step (sn_64 78) (fun _ _ => rfl) ?_
                    exact ih7 w15_3 (w7_5 + 1) Z16 h16 (by omega) (by omega) (by omega) hx16 hG16 (fr_tr (M := [(14, (-1)), (16, (-1)), (17, (-1)), (18, (-1)), (19, (-1)), (29, (-1))]) (fr_tr (M := [(14, (-1)), (16, (-1)), (17, (-1)), (18, (-1)), (19, (-1)), (29, (-1))]) fr_rf (hf8) (M1 := []) rfl rfl) (hf16) rfl rfl)
                  refine Jif_ge (show mx_Sn _ _ 49 (mx_if_ge 75 52) from sn_64 49) (by omega) (fun q17 => ?_) (fun q17 => ?_)
                  · skip
                    exact c75 w7_3 Z8 h8 (by omega) hx8 hG8 fr_rf
                  · skip
                    refine mx_J.step (sn_64 52) (fun _ _ => rfl) ?_
                    refine mx_J.step (sn_64 53) (fun _ _ => rfl) ?_
                    refine mx_J.step (sn_64 55) (fun _ _ => rfl) ?_
                    refine mx_J.step (sn_64 56) (fun _ _ => rfl) ?_
                    obtain ⟨z18, Z18, h18, hc18, hx18, hG18, hf18, b18⟩ := ct_65_25 (d := d + 0) (l := l) (D := D) (b0 := b0) (ad := ad) (Hb := Hb) (tau := tau) hx8 hG8 (show (-2147483648) ≤ w7_5 ∧ w7_5 ≤ 2147483647 by omega) (show 1 ≤ x1 ∧ x1 ≤ 18 by omega) (show 0 ≤ w2_4 ∧ w2_4 ≤ 385 by omega)
                    refine Jcv hx8 (show mx_Sn _ _ 58 (mx_callv 65 4 8 61) from sn_64 58) a25 s25 hc18 rfl rfl rfl ?_
                    refine Jif_eq (show mx_Sn _ _ 61 (mx_if_eq 75 64) from sn_64 61) (by omega) (fun q19 => ?_) (fun q19 => ?_)
                    · skip
                      exact c75 w7_3 Z18 h18 (by omega) hx18 hG18 (fr_tr (M := [(14, (-1)), (16, (-1)), (17, (-1)), (18, (-1)), (19, (-1)), (29, (-1))]) fr_rf (hf18) (M1 := []) rfl rfl)
                    · skip
                      refine mx_J.step (sn_64 64) (fun _ _ => rfl) ?_
                      refine JgetR (g := 5) (b := 29) hx18 (show mx_Sn _ _ 65 (mx_getf 8 5 68) from sn_64 65) a25 s25 rfl rfl (hG18.prr 25 5 rfl) ?_
                      refine mx_J.step (sn_64 68) (fun _ _ => rfl) ?_
                      refine mx_J.step (sn_64 70) (fun _ _ => rfl) ?_
                      refine JiastI hx18 (show mx_Sn _ _ 72 (mx_iast 1 73) from sn_64 72) a29 s29 rfl (by omega) (fun Z20 h20 hx20 hE20 => ?_)
                      have hG20 := GI_up hG18 hE20 (show (-2147483648) ≤ w2_4 ∧ w2_4 ≤ 2147483647 by omega) trivial rfl
                      refine JcI (z := 1) (show mx_Sn _ _ 73 (mx_const (.int 1) 74) from sn_64 73) rfl ?_
                      refine mx_J.step (ls2 := [some (.ref 25), some (xI x0), some (xI x1), some (xI 1), some (xI w2_4), some (xI w7_5)]) (sn_64 74) (fun _ _ => rfl) ?_
                      exact c75 1 Z20 h20 (by omega) hx20 hG20 (fr_tr (M := [(14, (-1)), (16, (-1)), (17, (-1)), (18, (-1)), (19, (-1)), (29, (-1))]) (fr_tr (M := [(14, (-1)), (16, (-1)), (17, (-1)), (18, (-1)), (19, (-1)), (29, (-1))]) fr_rf (hf18) (M1 := []) rfl rfl) (fr_ua hE20) rfl rfl)
            exact c30 (Int.toNat (385 - 0) + 1) 0 0 Z3 h3 (by omega) (by omega) (by omega) hx3 hG3 fr_rf
    exact c13 (Int.toNat (386 - 0) + 1) 1 0 none Z1 h1 (by omega) (by omega) (by omega) hx1 hG1 fr_rf
theorem ct_64_25 {l : Launch} {D : va_G} {b0 : Nat} {ad : Nat → Nat} {Hb : Heap} {tau : Nat → Int64} {d n s : Nat} {S : Nat → xS} {Z : xZ} {h : mx_H} (hx : XH n s S Z h) (hG : GI n S Z) {x0 x1 : Int} (p0 : 0 ≤ x0 ∧ x0 ≤ 384) (p1 : 1 ≤ x1 ∧ x1 ≤ 18) : ∃ (z : Int) (Z' : xZ) (h' : mx_H), mx_Ca (tB l D b0 ad Hb tau) (d + 10) 64 [.ref 25, xI x0, xI x1] h (some (xI z), h') ∧ XH n s S Z' h' ∧ GI n S Z' ∧ fr' [(14, (-1)), (16, (-1)), (17, (-1)), (18, (-1)), (19, (-1)), (29, (-1))] Z Z' ∧ ((-2147483648) ≤ z ∧ z ≤ 2147483647) := by
  obtain ⟨r, hca, z, Z', h', e, q⟩ := Jmt (B := tB l D b0 ad Hb tau) (M := mt_64) (mi := 64) (as := [.ref 25, xI x0, xI x1]) (d := d + 9) (ls := [some (.ref 25), some (xI x0), some (xI x1), none, none, none]) rfl rfl rfl rfl rfl rfl (cw_64_25 (l := l) (D := D) (b0 := b0) (ad := ad) (Hb := Hb) (tau := tau) (d := d) (Post := fun r => ∃ (z : Int) (Z' : xZ) (h' : mx_H), r = (some (xI z), h') ∧ XH n s S Z' h' ∧ GI n S Z' ∧ fr' [(14, (-1)), (16, (-1)), (17, (-1)), (18, (-1)), (19, (-1)), (29, (-1))] Z Z' ∧ ((-2147483648) ≤ z ∧ z ≤ 2147483647)) hx hG p0 p1 (fun z Z' h' q1 q2 q3 q4 => ⟨z, Z', h', rfl, q1, q2, q3, q4⟩))
  subst e; exact ⟨z, Z', h', hca, q⟩
set_option maxRecDepth 100000 in
theorem cw_68_25 {l : Launch} {D : va_G} {b0 : Nat} {ad : Nat → Nat} {Hb : Heap} {tau : Nat → Int64} {d n s : Nat} {S : Nat → xS} {Z : xZ} {h : mx_H} {Post : mx_R → Prop} (hx : XH n s S Z h) (hG : GI n S Z) {x0 x1 : Int} (p0 : (-2147483648) ≤ x0 ∧ x0 ≤ 2147483647) (p1 : (-2147483648) ≤ x1 ∧ x1 ≤ 2147483647) (hP : ∀ (z : Int) (Z' : xZ) (h' : mx_H), XH n s S Z' h' → GI n S Z' → fr' [(14, (-1)), (16, (-1)), (17, (-1)), (18, (-1)), (19, (-1))] Z Z' → (-1) ≤ z ∧ z ≤ 18 → Post (some (xI z), h')) : mx_J (tB l D b0 ad Hb tau) mt_68 (d + 8) 0 [some (.ref 25), some (xI x0), some (xI x1), none, none, none] [] h Post := by
    have a7 : 7 < n := lt83 hG.1 rfl
    have s7 : S 7 = .inl (0, [2, 2, 2, 2, 0, 0]) := hG.2.1 7 rfl
    have a12 : 12 < n := lt83 hG.1 rfl
    have s12 : S 12 = .inl (4, [2, 2, 0, 2, 2, 2, 2, 2, 2]) := hG.2.1 12 rfl
    have a25 : 25 < n := lt83 hG.1 rfl
    have s25 : S 25 = .inl (8, [2, 2, 2, 2, 2, 2, 2, 2, 0]) := hG.2.1 25 rfl
    have a31 : 31 < n := lt83 hG.1 rfl
    have s31 : S 31 = .inr (.int, 385, 0) := hG.2.1 31 rfl
    refine mx_J.step (sn_68 0) (fun _ _ => rfl) ?_
    refine JgetR (g := 0) (b := 7) hx (show mx_Sn _ _ 1 (mx_getf 8 0 4) from sn_68 1) a25 s25 rfl rfl (hG.prr 25 0 rfl) ?_
    refine mx_J.step (sn_68 4) (fun _ _ => rfl) ?_
    refine JcI (z := 0) (show mx_Sn _ _ 5 (mx_const (.int 0) 6) from sn_68 5) rfl ?_
    obtain ⟨z1, hc1, b1⟩ := ct_6_7 (d := d + 6) (l := l) (D := D) (b0 := b0) (ad := ad) (Hb := Hb) (tau := tau) hx hG (show (-2147483648) ≤ x0 ∧ x0 ≤ 2147483647 by omega) (show (-2147483648) ≤ 0 ∧ 0 ≤ 2147483647 by omega)
    refine Jcv hx (show mx_Sn _ _ 6 (mx_callv 6 3 0 9) from sn_68 6) a7 s7 hc1 rfl rfl rfl ?_
    refine mx_J.step (ls2 := [some (.ref 25), some (xI x0), some (xI x1), some (xI z1), none, none]) (sn_68 9) (fun _ _ => rfl) ?_
    refine JcI (z := 0) (show mx_Sn _ _ 10 (mx_const (.int 0) 11) from sn_68 10) rfl ?_
    refine mx_J.step (ls2 := [some (.ref 25), some (xI x0), some (xI x1), some (xI z1), some (xI 0), none]) (sn_68 11) (fun _ _ => rfl) ?_
    have c13 : ∀ (m2 : Nat) (w2_4 : Int) (u2_5 : Option Value) (Z3 : xZ) (h3 : mx_H), 19 - w2_4 < (m2 : Int) → 0 ≤ w2_4 ∧ w2_4 ≤ 19 → XH n s S Z3 h3 → GI n S Z3 → fr' [(14, (-1)), (16, (-1)), (17, (-1)), (18, (-1)), (19, (-1))] Z Z3 → mx_J (tB l D b0 ad Hb tau) mt_68 (d + 8) 13 [some (.ref 25), some (xI x0), some (xI x1), some (xI z1), some (xI w2_4), u2_5] [] h3 Post := by
      intro m2
      induction m2 with
      | zero => intro w2_4 u2_5 Z3 h3 q2 f2_0 hx3 hG3 hf3; exact absurd q2 (by omega)
      | succ m2 ih2 =>
        intro w2_4 u2_5 Z3 h3 q2 f2_0 hx3 hG3 hf3
        refine mx_J.step (sn_68 13) (fun _ _ => rfl) ?_
        refine mx_J.step (sn_68 15) (fun _ _ => rfl) ?_
        refine Jicmp_gt (show mx_Sn _ _ 16 (mx_icmp_gt 59 19) from sn_68 16) (by omega) (by omega) (fun q4 => ?_) (fun q4 => ?_)
        · skip
          refine JcI (z := (-1)) (show mx_Sn _ _ 59 (mx_const (.int (-1)) 60) from sn_68 59) rfl ?_
          exact mx_J.ret (sn_68 60) (fun _ _ => rfl) (hP (-1) Z3 h3 hx3 hG3 (fr_tr (M := [(14, (-1)), (16, (-1)), (17, (-1)), (18, (-1)), (19, (-1))]) fr_rf (hf3) (M1 := []) rfl rfl) (by omega))
        · skip
          refine mx_J.step (sn_68 19) (fun _ _ => rfl) ?_
          refine JgetR (g := 1) (b := 12) hx3 (show mx_Sn _ _ 20 (mx_getf 8 1 23) from sn_68 20) a25 s25 rfl rfl (hG3.prr 25 1 rfl) ?_
          refine mx_J.step (sn_68 23) (fun _ _ => rfl) ?_
          refine mx_J.step (sn_68 24) (fun _ _ => rfl) ?_
          obtain ⟨z5, Z5, h5, hc5, hx5, hG5, hf5, b5⟩ := ct_26_12 (d := d + 0) (l := l) (D := D) (b0 := b0) (ad := ad) (Hb := Hb) (tau := tau) hx3 hG3 (show (-2147483648) ≤ x0 ∧ x0 ≤ 2147483647 by omega) (show (-2147483648) ≤ w2_4 ∧ w2_4 ≤ 2147483647 by omega)
          refine Jcv hx3 (show mx_Sn _ _ 26 (mx_callv 26 3 4 29) from sn_68 26) a12 s12 hc5 rfl rfl rfl ?_
          refine mx_J.step (ls2 := [some (.ref 25), some (xI x0), some (xI x1), some (xI z1), some (xI w2_4), some (xI z5)]) (sn_68 29) (fun _ _ => rfl) ?_
          refine mx_J.step (sn_68 31) (fun _ _ => rfl) ?_
          have c53 : mx_J (tB l D b0 ad Hb tau) mt_68 (d + 8) 53 [some (.ref 25), some (xI x0), some (xI x1), some (xI z1), some (xI w2_4), some (xI z5)] [] h5 Post := by
            refine Jiinc (z := w2_4) (cz := 1) (ls2 := [some (.ref 25), some (xI x0), some (xI x1), some (xI z1), some (xI (w2_4 + 1)), some (xI z5)]) (show mx_Sn _ _ 53 (mx_iinc 4 1 56) from sn_68 53) rfl rfl rfl rfl ?_
            refine mx_J.step (sn_68 56) (fun _ _ => rfl) ?_
            exact ih2 (w2_4 + 1) (some (xI z5)) Z5 h5 (by omega) (by omega) hx5 hG5 (fr_tr (M := [(14, (-1)), (16, (-1)), (17, (-1)), (18, (-1)), (19, (-1))]) (fr_tr (M := [(14, (-1)), (16, (-1)), (17, (-1)), (18, (-1)), (19, (-1))]) fr_rf (hf3) (M1 := []) rfl rfl) (hf5) rfl rfl)
          refine Jif_lt (show mx_Sn _ _ 33 (mx_if_lt 53 36) from sn_68 33) (by omega) (fun q7 => ?_) (fun q7 => ?_)
          · skip
            exact c53 
          · skip
            refine mx_J.step (sn_68 36) (fun _ _ => rfl) ?_
            refine JgetR (g := 7) (b := 31) hx5 (show mx_Sn _ _ 37 (mx_getf 8 7 40) from sn_68 37) a25 s25 rfl rfl (hG5.prr 25 7 rfl) ?_
            refine mx_J.step (sn_68 40) (fun _ _ => rfl) ?_
            have b8 : (-2147483648) ≤ Z 31 z5 ∧ Z 31 z5 ≤ 2147483647 := hG.pr 31 z5
            refine JialdI (z := Z 31 z5) hx5 (show mx_Sn _ _ 42 (mx_iald 43) from sn_68 42) a31 s31 (by omega) ((hf5 31 z5 rfl).trans (hf3 31 z5 rfl)) ?_
            refine mx_J.step (sn_68 43) (fun _ _ => rfl) ?_
            obtain ⟨z9, hc9, b9⟩ := ct_66_ (d := d + 7) (l := l) (D := D) (b0 := b0) (ad := ad) (Hb := Hb) (tau := tau) hx5 hG5 (show (-2147483648) ≤ Z 31 z5 ∧ Z 31 z5 ≤ 2147483647 by omega) (show (-2147483648) ≤ x1 ∧ x1 ≤ 2147483647 by omega)
            refine Jcs (show mx_Sn _ _ 44 (mx_calls 66 2 47) from sn_68 44) hc9 rfl rfl rfl ?_
            refine Jif_eq (show mx_Sn _ _ 47 (mx_if_eq 53 50) from sn_68 47) (by omega) (fun q10 => ?_) (fun q10 => ?_)
            · skip
              exact c53 
            · skip
              refine mx_J.step (sn_68 50) (fun _ _ => rfl) ?_
              exact mx_J.ret (sn_68 52) (fun _ _ => rfl) (hP w2_4 Z5 h5 hx5 hG5 (fr_tr (M := [(14, (-1)), (16, (-1)), (17, (-1)), (18, (-1)), (19, (-1))]) (fr_tr (M := [(14, (-1)), (16, (-1)), (17, (-1)), (18, (-1)), (19, (-1))]) fr_rf (hf3) (M1 := []) rfl rfl) (hf5) rfl rfl) (by omega))
    exact c13 (Int.toNat (19 - 0) + 1) 0 none Z h (by omega) (by omega) hx hG fr_rf
theorem ct_68_25 {l : Launch} {D : va_G} {b0 : Nat} {ad : Nat → Nat} {Hb : Heap} {tau : Nat → Int64} {d n s : Nat} {S : Nat → xS} {Z : xZ} {h : mx_H} (hx : XH n s S Z h) (hG : GI n S Z) {x0 x1 : Int} (p0 : (-2147483648) ≤ x0 ∧ x0 ≤ 2147483647) (p1 : (-2147483648) ≤ x1 ∧ x1 ≤ 2147483647) : ∃ (z : Int) (Z' : xZ) (h' : mx_H), mx_Ca (tB l D b0 ad Hb tau) (d + 9) 68 [.ref 25, xI x0, xI x1] h (some (xI z), h') ∧ XH n s S Z' h' ∧ GI n S Z' ∧ fr' [(14, (-1)), (16, (-1)), (17, (-1)), (18, (-1)), (19, (-1))] Z Z' ∧ ((-1) ≤ z ∧ z ≤ 18) := by
  obtain ⟨r, hca, z, Z', h', e, q⟩ := Jmt (B := tB l D b0 ad Hb tau) (M := mt_68) (mi := 68) (as := [.ref 25, xI x0, xI x1]) (d := d + 8) (ls := [some (.ref 25), some (xI x0), some (xI x1), none, none, none]) rfl rfl rfl rfl rfl rfl (cw_68_25 (l := l) (D := D) (b0 := b0) (ad := ad) (Hb := Hb) (tau := tau) (d := d) (Post := fun r => ∃ (z : Int) (Z' : xZ) (h' : mx_H), r = (some (xI z), h') ∧ XH n s S Z' h' ∧ GI n S Z' ∧ fr' [(14, (-1)), (16, (-1)), (17, (-1)), (18, (-1)), (19, (-1))] Z Z' ∧ ((-1) ≤ z ∧ z ≤ 18)) hx hG p0 p1 (fun z Z' h' q1 q2 q3 q4 => ⟨z, Z', h', rfl, q1, q2, q3, q4⟩))
  subst e; exact ⟨z, Z', h', hca, q⟩
set_option maxRecDepth 100000 in
theorem cw_69_25 {l : Launch} {D : va_G} {b0 : Nat} {ad : Nat → Nat} {Hb : Heap} {tau : Nat → Int64} {d n s : Nat} {S : Nat → xS} {Z : xZ} {h : mx_H} {Post : mx_R → Prop} (hx : XH n s S Z h) (hG : GI n S Z) {x0 x1 : Int} (p0 : (-2147483648) ≤ x0 ∧ x0 ≤ 2147483647) (p1 : 0 ≤ x1 ∧ x1 ≤ 770) (hP : ∀ (z : Int) (Z' : xZ) (h' : mx_H), XH n s S Z' h' → GI n S Z' → fr' [(14, (-1)), (16, (-1)), (17, (-1)), (18, (-1)), (19, (-1))] Z Z' → 0 ≤ z ∧ z ≤ 1 → Post (some (xI z), h')) : mx_J (tB l D b0 ad Hb tau) mt_69 (d + 8) 0 [some (.ref 25), some (xI x0), some (xI x1), none, none, none] [] h Post := by
    have a7 : 7 < n := lt83 hG.1 rfl
    have s7 : S 7 = .inl (0, [2, 2, 2, 2, 0, 0]) := hG.2.1 7 rfl
    have a12 : 12 < n := lt83 hG.1 rfl
    have s12 : S 12 = .inl (4, [2, 2, 0, 2, 2, 2, 2, 2, 2]) := hG.2.1 12 rfl
    have a25 : 25 < n := lt83 hG.1 rfl
    have s25 : S 25 = .inl (8, [2, 2, 2, 2, 2, 2, 2, 2, 0]) := hG.2.1 25 rfl
    have a30 : 30 < n := lt83 hG.1 rfl
    have s30 : S 30 = .inr (.int, 385, 0) := hG.2.1 30 rfl
    refine mx_J.step (sn_69 0) (fun _ _ => rfl) ?_
    refine JgetR (g := 0) (b := 7) hx (show mx_Sn _ _ 1 (mx_getf 8 0 4) from sn_69 1) a25 s25 rfl rfl (hG.prr 25 0 rfl) ?_
    refine mx_J.step (sn_69 4) (fun _ _ => rfl) ?_
    refine JcI (z := 0) (show mx_Sn _ _ 5 (mx_const (.int 0) 6) from sn_69 5) rfl ?_
    obtain ⟨z1, hc1, b1⟩ := ct_6_7 (d := d + 6) (l := l) (D := D) (b0 := b0) (ad := ad) (Hb := Hb) (tau := tau) hx hG (show (-2147483648) ≤ x0 ∧ x0 ≤ 2147483647 by omega) (show (-2147483648) ≤ 0 ∧ 0 ≤ 2147483647 by omega)
    refine Jcv hx (show mx_Sn _ _ 6 (mx_callv 6 3 0 9) from sn_69 6) a7 s7 hc1 rfl rfl rfl ?_
    refine mx_J.step (ls2 := [some (.ref 25), some (xI x0), some (xI x1), some (xI z1), none, none]) (sn_69 9) (fun _ _ => rfl) ?_
    refine JcI (z := 0) (show mx_Sn _ _ 10 (mx_const (.int 0) 11) from sn_69 10) rfl ?_
    refine mx_J.step (ls2 := [some (.ref 25), some (xI x0), some (xI x1), some (xI z1), some (xI 0), none]) (sn_69 11) (fun _ _ => rfl) ?_
    have c13 : ∀ (m2 : Nat) (w2_4 : Int) (u2_5 : Option Value) (Z3 : xZ) (h3 : mx_H), 19 - w2_4 < (m2 : Int) → 0 ≤ w2_4 ∧ w2_4 ≤ 19 → XH n s S Z3 h3 → GI n S Z3 → fr' [(14, (-1)), (16, (-1)), (17, (-1)), (18, (-1)), (19, (-1))] Z Z3 → mx_J (tB l D b0 ad Hb tau) mt_69 (d + 8) 13 [some (.ref 25), some (xI x0), some (xI x1), some (xI z1), some (xI w2_4), u2_5] [] h3 Post := by
      intro m2
      induction m2 with
      | zero => intro w2_4 u2_5 Z3 h3 q2 f2_0 hx3 hG3 hf3; exact absurd q2 (by omega)
      | succ m2 ih2 =>
        intro w2_4 u2_5 Z3 h3 q2 f2_0 hx3 hG3 hf3
        refine mx_J.step (sn_69 13) (fun _ _ => rfl) ?_
        refine mx_J.step (sn_69 15) (fun _ _ => rfl) ?_
        refine Jicmp_gt (show mx_Sn _ _ 16 (mx_icmp_gt 58 19) from sn_69 16) (by omega) (by omega) (fun q4 => ?_) (fun q4 => ?_)
        · skip
          refine JcI (z := 1) (show mx_Sn _ _ 58 (mx_const (.int 1) 59) from sn_69 58) rfl ?_
          exact mx_J.ret (show mx_Sn _ _ 59 (mx_zret) from sn_69 59) (fun _ _ => zr_ok (by omega)) (hP 1 Z3 h3 hx3 hG3 (fr_tr (M := [(14, (-1)), (16, (-1)), (17, (-1)), (18, (-1)), (19, (-1))]) fr_rf (hf3) (M1 := []) rfl rfl) (by omega))
        · skip
          refine mx_J.step (sn_69 19) (fun _ _ => rfl) ?_
          refine JgetR (g := 1) (b := 12) hx3 (show mx_Sn _ _ 20 (mx_getf 8 1 23) from sn_69 20) a25 s25 rfl rfl (hG3.prr 25 1 rfl) ?_
          refine mx_J.step (sn_69 23) (fun _ _ => rfl) ?_
          refine mx_J.step (sn_69 24) (fun _ _ => rfl) ?_
          obtain ⟨z5, Z5, h5, hc5, hx5, hG5, hf5, b5⟩ := ct_26_12 (d := d + 0) (l := l) (D := D) (b0 := b0) (ad := ad) (Hb := Hb) (tau := tau) hx3 hG3 (show (-2147483648) ≤ x0 ∧ x0 ≤ 2147483647 by omega) (show (-2147483648) ≤ w2_4 ∧ w2_4 ≤ 2147483647 by omega)
          refine Jcv hx3 (show mx_Sn _ _ 26 (mx_callv 26 3 4 29) from sn_69 26) a12 s12 hc5 rfl rfl rfl ?_
          refine mx_J.step (ls2 := [some (.ref 25), some (xI x0), some (xI x1), some (xI z1), some (xI w2_4), some (xI z5)]) (sn_69 29) (fun _ _ => rfl) ?_
          refine mx_J.step (sn_69 31) (fun _ _ => rfl) ?_
          have c52 : mx_J (tB l D b0 ad Hb tau) mt_69 (d + 8) 52 [some (.ref 25), some (xI x0), some (xI x1), some (xI z1), some (xI w2_4), some (xI z5)] [] h5 Post := by
            refine Jiinc (z := w2_4) (cz := 1) (ls2 := [some (.ref 25), some (xI x0), some (xI x1), some (xI z1), some (xI (w2_4 + 1)), some (xI z5)]) (show mx_Sn _ _ 52 (mx_iinc 4 1 55) from sn_69 52) rfl rfl rfl rfl ?_
            refine mx_J.step (sn_69 55) (fun _ _ => rfl) ?_
            exact ih2 (w2_4 + 1) (some (xI z5)) Z5 h5 (by omega) (by omega) hx5 hG5 (fr_tr (M := [(14, (-1)), (16, (-1)), (17, (-1)), (18, (-1)), (19, (-1))]) (fr_tr (M := [(14, (-1)), (16, (-1)), (17, (-1)), (18, (-1)), (19, (-1))]) fr_rf (hf3) (M1 := []) rfl rfl) (hf5) rfl rfl)
          refine Jif_lt (show mx_Sn _ _ 33 (mx_if_lt 52 36) from sn_69 33) (by omega) (fun q7 => ?_) (fun q7 => ?_)
          · skip
            exact c52 
          · skip
            refine mx_J.step (sn_69 36) (fun _ _ => rfl) ?_
            refine JgetR (g := 6) (b := 30) hx5 (show mx_Sn _ _ 37 (mx_getf 8 6 40) from sn_69 37) a25 s25 rfl rfl (hG5.prr 25 6 rfl) ?_
            refine mx_J.step (sn_69 40) (fun _ _ => rfl) ?_
            have b8 : (-2147483648) ≤ Z 30 z5 ∧ Z 30 z5 ≤ 2147483647 := hG.pr 30 z5
            refine JialdI (z := Z 30 z5) hx5 (show mx_Sn _ _ 42 (mx_iald 43) from sn_69 42) a30 s30 (by omega) ((hf5 30 z5 rfl).trans (hf3 30 z5 rfl)) ?_
            refine mx_J.step (sn_69 43) (fun _ _ => rfl) ?_
            obtain ⟨z9, hc9, b9⟩ := ct_66_ (d := d + 7) (l := l) (D := D) (b0 := b0) (ad := ad) (Hb := Hb) (tau := tau) hx5 hG5 (show (-2147483648) ≤ Z 30 z5 ∧ Z 30 z5 ≤ 2147483647 by omega) (show (-2147483648) ≤ x1 ∧ x1 ≤ 2147483647 by omega)
            refine Jcs (show mx_Sn _ _ 44 (mx_calls 66 2 47) from sn_69 44) hc9 rfl rfl rfl ?_
            refine Jif_ne (show mx_Sn _ _ 47 (mx_if_ne 52 50) from sn_69 47) (by omega) (fun q10 => ?_) (fun q10 => ?_)
            · skip
              exact c52 
            · skip
              refine JcI (z := 0) (show mx_Sn _ _ 50 (mx_const (.int 0) 51) from sn_69 50) rfl ?_
              exact mx_J.ret (show mx_Sn _ _ 51 (mx_zret) from sn_69 51) (fun _ _ => zr_ok (by omega)) (hP 0 Z5 h5 hx5 hG5 (fr_tr (M := [(14, (-1)), (16, (-1)), (17, (-1)), (18, (-1)), (19, (-1))]) (fr_tr (M := [(14, (-1)), (16, (-1)), (17, (-1)), (18, (-1)), (19, (-1))]) fr_rf (hf3) (M1 := []) rfl rfl) (hf5) rfl rfl) (by omega))
    exact c13 (Int.toNat (19 - 0) + 1) 0 none Z h (by omega) (by omega) hx hG fr_rf
theorem ct_69_25 {l : Launch} {D : va_G} {b0 : Nat} {ad : Nat → Nat} {Hb : Heap} {tau : Nat → Int64} {d n s : Nat} {S : Nat → xS} {Z : xZ} {h : mx_H} (hx : XH n s S Z h) (hG : GI n S Z) {x0 x1 : Int} (p0 : (-2147483648) ≤ x0 ∧ x0 ≤ 2147483647) (p1 : 0 ≤ x1 ∧ x1 ≤ 770) : ∃ (z : Int) (Z' : xZ) (h' : mx_H), mx_Ca (tB l D b0 ad Hb tau) (d + 9) 69 [.ref 25, xI x0, xI x1] h (some (xI z), h') ∧ XH n s S Z' h' ∧ GI n S Z' ∧ fr' [(14, (-1)), (16, (-1)), (17, (-1)), (18, (-1)), (19, (-1))] Z Z' ∧ (0 ≤ z ∧ z ≤ 1) := by
  obtain ⟨r, hca, z, Z', h', e, q⟩ := Jmt (B := tB l D b0 ad Hb tau) (M := mt_69) (mi := 69) (as := [.ref 25, xI x0, xI x1]) (d := d + 8) (ls := [some (.ref 25), some (xI x0), some (xI x1), none, none, none]) rfl rfl rfl rfl rfl rfl (cw_69_25 (l := l) (D := D) (b0 := b0) (ad := ad) (Hb := Hb) (tau := tau) (d := d) (Post := fun r => ∃ (z : Int) (Z' : xZ) (h' : mx_H), r = (some (xI z), h') ∧ XH n s S Z' h' ∧ GI n S Z' ∧ fr' [(14, (-1)), (16, (-1)), (17, (-1)), (18, (-1)), (19, (-1))] Z Z' ∧ (0 ≤ z ∧ z ≤ 1)) hx hG p0 p1 (fun z Z' h' q1 q2 q3 q4 => ⟨z, Z', h', rfl, q1, q2, q3, q4⟩))
  subst e; exact ⟨z, Z', h', hca, q⟩
set_option maxRecDepth 100000 in
theorem cw_67_25 {l : Launch} {D : va_G} {b0 : Nat} {ad : Nat → Nat} {Hb : Heap} {tau : Nat → Int64} {d n s : Nat} {S : Nat → xS} {Z : xZ} {h : mx_H} {Post : mx_R → Prop} (hx : XH n s S Z h) (hG : GI n S Z) {x0 x1 : Int} (p0 : 0 ≤ x0 ∧ x0 ≤ 384) (p1 : 1 ≤ x1 ∧ x1 ≤ 18) (hP : ∀ (z : Int) (Z' : xZ) (h' : mx_H), XH n s S Z' h' → GI n S Z' → fr' [(14, (-1)), (16, (-1)), (17, (-1)), (18, (-1)), (19, (-1)), (30, (-1)), (31, (-1))] Z Z' → (-2147483648) ≤ z ∧ z ≤ 2147483647 → Post (some (xI z), h')) : mx_J (tB l D b0 ad Hb tau) mt_67 (d + 9) 0 [some (.ref 25), some (xI x0), some (xI x1), none, none, none] [] h Post := by
    have a7 : 7 < n := lt83 hG.1 rfl
    have s7 : S 7 = .inl (0, [2, 2, 2, 2, 0, 0]) := hG.2.1 7 rfl
    have a25 : 25 < n := lt83 hG.1 rfl
    have s25 : S 25 = .inl (8, [2, 2, 2, 2, 2, 2, 2, 2, 0]) := hG.2.1 25 rfl
    have a30 : 30 < n := lt83 hG.1 rfl
    have s30 : S 30 = .inr (.int, 385, 0) := hG.2.1 30 rfl
    have a31 : 31 < n := lt83 hG.1 rfl
    have s31 : S 31 = .inr (.int, 385, 0) := hG.2.1 31 rfl
    refine JcI (z := 0) (show mx_Sn _ _ 0 (mx_const (.int 0) 1) from sn_67 0) rfl ?_
    refine mx_J.step (ls2 := [some (.ref 25), some (xI x0), some (xI x1), some (xI 0), none, none]) (sn_67 1) (fun _ _ => rfl) ?_
    have c2 : ∀ (m1 : Nat) (w1_3 : Int) (Z2 : xZ) (h2 : mx_H), 385 - w1_3 < (m1 : Int) → 0 ≤ w1_3 ∧ w1_3 ≤ 385 → XH n s S Z2 h2 → GI n S Z2 → fr' [(30, (-1)), (31, (-1))] Z Z2 → mx_J (tB l D b0 ad Hb tau) mt_67 (d + 9) 2 [some (.ref 25), some (xI x0), some (xI x1), some (xI w1_3), none, none] [] h2 Post := by
      intro m1
      induction m1 with
      | zero => intro w1_3 Z2 h2 q1 f1_0 hx2 hG2 hf2; exact absurd q1 (by omega)
      | succ m1 ih1 =>
        intro w1_3 Z2 h2 q1 f1_0 hx2 hG2 hf2
        refine mx_J.step (sn_67 2) (fun _ _ => rfl) ?_
        refine mx_J.step (sn_67 3) (fun _ _ => rfl) ?_
        refine JgetR (g := 0) (b := 7) hx2 (show mx_Sn _ _ 4 (mx_getf 8 0 7) from sn_67 4) a25 s25 rfl rfl (hG2.prr 25 0 rfl) ?_
        have b3 : 0 ≤ Z 7 5 ∧ Z 7 5 ≤ 385 := hG.pr 7 5
        refine JgetI (g := 5) (z := Z 7 5) hx2 (show mx_Sn _ _ 7 (mx_getf 0 5 10) from sn_67 7) a7 s7 rfl rfl (hf2 7 5 rfl) ?_
        refine Jicmp_ge (show mx_Sn _ _ 10 (mx_icmp_ge 54 13) from sn_67 10) (by omega) (by omega) (fun q4 => ?_) (fun q4 => ?_)
        · skip
          refine JcI (z := 1) (show mx_Sn _ _ 54 (mx_const (.int 1) 55) from sn_67 54) rfl ?_
          refine mx_J.step (ls2 := [some (.ref 25), some (xI x0), some (xI x1), some (xI 1), none, none]) (sn_67 55) (fun _ _ => rfl) ?_
          refine JcI (z := 1) (show mx_Sn _ _ 56 (mx_const (.int 1) 57) from sn_67 56) rfl ?_
          refine mx_J.step (ls2 := [some (.ref 25), some (xI x0), some (xI x1), some (xI 1), some (xI 1), none]) (sn_67 57) (fun _ _ => rfl) ?_
          have c59 : ∀ (m5 : Nat) (w5_3 : Int) (w5_4 : Int) (u5_5 : Option Value) (Z6 : xZ) (h6 : mx_H), 771 - w5_4 < (m5 : Int) → 0 ≤ w5_3 ∧ w5_3 ≤ 1 → 1 ≤ w5_4 ∧ w5_4 ≤ 771 → XH n s S Z6 h6 → GI n S Z6 → fr' [(14, (-1)), (16, (-1)), (17, (-1)), (18, (-1)), (19, (-1)), (30, (-1)), (31, (-1))] Z2 Z6 → mx_J (tB l D b0 ad Hb tau) mt_67 (d + 9) 59 [some (.ref 25), some (xI x0), some (xI x1), some (xI w5_3), some (xI w5_4), u5_5] [] h6 Post := by
            intro m5
            induction m5 with
            | zero => intro w5_3 w5_4 u5_5 Z6 h6 q5 f5_0 f5_1 hx6 hG6 hf6; exact absurd q5 (by omega)
            | succ m5 ih5 =>
              intro w5_3 w5_4 u5_5 Z6 h6 q5 f5_0 f5_1 hx6 hG6 hf6
              refine mx_J.step (sn_67 59) (fun _ _ => rfl) ?_
              refine JcI (z := 770) (show mx_Sn _ _ 61 (mx_const (.int 770) 64) from sn_67 61) rfl ?_
              have c173 : mx_J (tB l D b0 ad Hb tau) mt_67 (d + 9) 173 [some (.ref 25), some (xI x0), some (xI x1), some (xI w5_3), some (xI w5_4), u5_5] [] h6 Post := by
                refine mx_J.step (sn_67 173) (fun _ _ => rfl) ?_
                refine JgetR (g := 6) (b := 30) hx6 (show mx_Sn _ _ 174 (mx_getf 8 6 177) from sn_67 174) a25 s25 rfl rfl (hG6.prr 25 6 rfl) ?_
                refine mx_J.step (sn_67 177) (fun _ _ => rfl) ?_
                have b8 : (-2147483648) ≤ Z6 30 x0 ∧ Z6 30 x0 ≤ 2147483647 := hG6.pr 30 x0
                refine JialdI (z := Z6 30 x0) hx6 (show mx_Sn _ _ 178 (mx_iald 179) from sn_67 178) a30 s30 (by omega) rfl ?_
                exact mx_J.ret (sn_67 179) (fun _ _ => rfl) (hP (Z6 30 x0) Z6 h6 hx6 hG6 (fr_tr (M := [(14, (-1)), (16, (-1)), (17, (-1)), (18, (-1)), (19, (-1)), (30, (-1)), (31, (-1))]) (fr_tr (M := [(14, (-1)), (16, (-1)), (17, (-1)), (18, (-1)), (19, (-1)), (30, (-1)), (31, (-1))]) fr_rf (hf2) (M1 := []) rfl rfl) (hf6) rfl rfl) (by omega))
              refine Jicmp_gt (show mx_Sn _ _ 64 (mx_icmp_gt 173 67) from sn_67 64) (by omega) (by omega) (fun q9 => ?_) (fun q9 => ?_)
              · skip
                exact c173 
              · skip
                refine mx_J.step (sn_67 67) (fun _ _ => rfl) ?_
                refine Jif_eq (show mx_Sn _ _ 68 (mx_if_eq 173 71) from sn_67 68) (by omega) (fun q10 => ?_) (fun q10 => ?_)
                · skip
                  exact c173 
                · skip
                  refine mx_J.step (sn_67 71) (fun _ _ => rfl) ?_
                  refine JgetR (g := 6) (b := 30) hx6 (show mx_Sn _ _ 72 (mx_getf 8 6 75) from sn_67 72) a25 s25 rfl rfl (hG6.prr 25 6 rfl) ?_
                  refine mx_J.step (sn_67 75) (fun _ _ => rfl) ?_
                  have b11 : (-2147483648) ≤ Z6 30 x0 ∧ Z6 30 x0 ≤ 2147483647 := hG6.pr 30 x0
                  refine JialdI (z := Z6 30 x0) hx6 (show mx_Sn _ _ 76 (mx_iald 77) from sn_67 76) a30 s30 (by omega) rfl ?_
                  refine Jif_ge (show mx_Sn _ _ 77 (mx_if_ge 173 80) from sn_67 77) (by omega) (fun q12 => ?_) (fun q12 => ?_)
                  · skip
                    exact c173 
                  · skip
                    refine JcI (z := 0) (show mx_Sn _ _ 80 (mx_const (.int 0) 81) from sn_67 80) rfl ?_
                    refine mx_J.step (ls2 := [some (.ref 25), some (xI x0), some (xI x1), some (xI 0), some (xI w5_4), u5_5]) (sn_67 81) (fun _ _ => rfl) ?_
                    refine JcI (z := 0) (show mx_Sn _ _ 82 (mx_const (.int 0) 83) from sn_67 82) rfl ?_
                    refine mx_J.step (ls2 := [some (.ref 25), some (xI x0), some (xI x1), some (xI 0), some (xI w5_4), some (xI 0)]) (sn_67 83) (fun _ _ => rfl) ?_
                    have c85 : ∀ (m13 : Nat) (w13_3 : Int) (w13_5 : Int) (Z14 : xZ) (h14 : mx_H), 385 - w13_5 < (m13 : Int) → 0 ≤ w13_3 ∧ w13_3 ≤ 1 → 0 ≤ w13_5 ∧ w13_5 ≤ 385 → XH n s S Z14 h14 → GI n S Z14 → fr' [(14, (-1)), (16, (-1)), (17, (-1)), (18, (-1)), (19, (-1)), (30, (-1)), (31, (-1))] Z6 Z14 → mx_J (tB l D b0 ad Hb tau) mt_67 (d + 9) 85 [some (.ref 25), some (xI x0), some (xI x1), some (xI w13_3), some (xI w5_4), some (xI w13_5)] [] h14 Post := by
                      intro m13
                      induction m13 with
                      | zero => intro w13_3 w13_5 Z14 h14 q13 f13_0 f13_1 hx14 hG14 hf14; exact absurd q13 (by omega)
                      | succ m13 ih13 =>
                        intro w13_3 w13_5 Z14 h14 q13 f13_0 f13_1 hx14 hG14 hf14
                        refine mx_J.step (sn_67 85) (fun _ _ => rfl) ?_
                        refine mx_J.step (sn_67 87) (fun _ _ => rfl) ?_
                        refine JgetR (g := 0) (b := 7) hx14 (show mx_Sn _ _ 88 (mx_getf 8 0 91) from sn_67 88) a25 s25 rfl rfl (hG14.prr 25 0 rfl) ?_
                        have b15 : 0 ≤ Z 7 5 ∧ Z 7 5 ≤ 385 := hG.pr 7 5
                        refine JgetI (g := 5) (z := Z 7 5) hx14 (show mx_Sn _ _ 91 (mx_getf 0 5 94) from sn_67 91) a7 s7 rfl rfl ((hf14 7 5 rfl).trans ((hf6 7 5 rfl).trans (hf2 7 5 rfl))) ?_
                        refine Jicmp_ge (show mx_Sn _ _ 94 (mx_icmp_ge 167 97) from sn_67 94) (by omega) (by omega) (fun q16 => ?_) (fun q16 => ?_)
                        · skip
                          refine Jiinc (z := w5_4) (cz := 1) (ls2 := [some (.ref 25), some (xI x0), some (xI x1), some (xI w13_3), some (xI (w5_4 + 1)), some (xI w13_5)]) (show mx_Sn _ _ 167 (mx_iinc 4 1 170) from sn_67 167) rfl rfl rfl rfl ?_
                          refine mx_J.step (sn_67 170) (fun _ _ => rfl) ?_
                          exact ih5 w13_3 (w5_4 + 1) (some (xI w13_5)) Z14 h14 (by omega) (by omega) (by omega) hx14 hG14 (fr_tr (M := [(14, (-1)), (16, (-1)), (17, (-1)), (18, (-1)), (19, (-1)), (30, (-1)), (31, (-1))]) (fr_tr (M := [(14, (-1)), (16, (-1)), (17, (-1)), (18, (-1)), (19, (-1)), (30, (-1)), (31, (-1))]) fr_rf (hf6) (M1 := []) rfl rfl) (hf14) rfl rfl)
                        · skip
                          refine mx_J.step (sn_67 97) (fun _ _ => rfl) ?_
                          refine JgetR (g := 6) (b := 30) hx14 (show mx_Sn _ _ 98 (mx_getf 8 6 101) from sn_67 98) a25 s25 rfl rfl (hG14.prr 25 6 rfl) ?_
                          refine mx_J.step (sn_67 101) (fun _ _ => rfl) ?_
                          have b17 : (-2147483648) ≤ Z14 30 w13_5 ∧ Z14 30 w13_5 ≤ 2147483647 := hG14.pr 30 w13_5
                          refine JialdI (z := Z14 30 w13_5) hx14 (show mx_Sn _ _ 103 (mx_iald 104) from sn_67 103) a30 s30 (by omega) rfl ?_
                          have c129 : ∀ (w18_3 : Int) (Z19 : xZ) (h19 : mx_H), 0 ≤ w18_3 ∧ w18_3 ≤ 1 → XH n s S Z19 h19 → GI n S Z19 → fr' [(14, (-1)), (16, (-1)), (17, (-1)), (18, (-1)), (19, (-1)), (30, (-1))] Z14 Z19 → mx_J (tB l D b0 ad Hb tau) mt_67 (d + 9) 129 [some (.ref 25), some (xI x0), some (xI x1), some (xI w18_3), some (xI w5_4), some (xI w13_5)] [] h19 Post := by
                            intro w18_3 Z19 h19 f18_0 hx19 hG19 hf19
                            refine mx_J.step (sn_67 129) (fun _ _ => rfl) ?_
                            refine JgetR (g := 7) (b := 31) hx19 (show mx_Sn _ _ 130 (mx_getf 8 7 133) from sn_67 130) a25 s25 rfl rfl (hG19.prr 25 7 rfl) ?_
                            refine mx_J.step (sn_67 133) (fun _ _ => rfl) ?_
                            have b20 : (-2147483648) ≤ Z14 31 w13_5 ∧ Z14 31 w13_5 ≤ 2147483647 := hG14.pr 31 w13_5
                            refine JialdI (z := Z14 31 w13_5) hx19 (show mx_Sn _ _ 135 (mx_iald 136) from sn_67 135) a31 s31 (by omega) (hf19 31 w13_5 rfl) ?_
                            have c161 : ∀ (w21_3 : Int) (Z22 : xZ) (h22 : mx_H), 0 ≤ w21_3 ∧ w21_3 ≤ 1 → XH n s S Z22 h22 → GI n S Z22 → fr' [(14, (-1)), (16, (-1)), (17, (-1)), (18, (-1)), (19, (-1)), (31, (-1))] Z19 Z22 → mx_J (tB l D b0 ad Hb tau) mt_67 (d + 9) 161 [some (.ref 25), some (xI x0), some (xI x1), some (xI w21_3), some (xI w5_4), some (xI w13_5)] [] h22 Post := by
                              intro w21_3 Z22 h22 f21_0 hx22 hG22 hf22
                              refine Jiinc (z := w13_5) (cz := 1) (ls2 := [some (.ref 25), some (xI x0), some (xI x1), some (xI w21_3), some (xI w5_4), some (xI (w13_5 + 1))]) (show mx_Sn _ _ 161 (mx_iinc 5 1 164) from sn_67 161) rfl rfl rfl rfl ?_
                              refine mx_J.step (sn_67 164) (fun _ _ => rfl) ?_
                              exact ih13 w21_3 (w13_5 + 1) Z22 h22 (by omega) (by omega) (by omega) hx22 hG22 (fr_tr (M := [(14, (-1)), (16, (-1)), (17, (-1)), (18, (-1)), (19, (-1)), (30, (-1)), (31, (-1))]) (fr_tr (M := [(14, (-1)), (16, (-1)), (17, (-1)), (18, (-1)), (19, (-1)), (30, (-1)), (31, (-1))]) (fr_tr (M := [(14, (-1)), (16, (-1)), (17, (-1)), (18, (-1)), (19, (-1)), (30, (-1)), (31, (-1))]) fr_rf (hf14) (M1 := []) rfl rfl) (hf19) rfl rfl) (hf22) rfl rfl)
                            refine Jif_ge (show mx_Sn _ _ 136 (mx_if_ge 161 139) from sn_67 136) (by omega) (fun q23 => ?_) (fun q23 => ?_)
                            · skip
                              exact c161 w18_3 Z19 h19 (by omega) hx19 hG19 fr_rf
                            · skip
                              refine mx_J.step (sn_67 139) (fun _ _ => rfl) ?_
                              refine mx_J.step (sn_67 140) (fun _ _ => rfl) ?_
                              refine mx_J.step (sn_67 142) (fun _ _ => rfl) ?_
                              obtain ⟨z24, Z24, h24, hc24, hx24, hG24, hf24, b24⟩ := ct_69_25 (d := d + 0) (l := l) (D := D) (b0 := b0) (ad := ad) (Hb := Hb) (tau := tau) hx19 hG19 (show (-2147483648) ≤ w13_5 ∧ w13_5 ≤ 2147483647 by omega) (show 0 ≤ w5_4 ∧ w5_4 ≤ 770 by omega)
                              refine Jcv hx19 (show mx_Sn _ _ 144 (mx_callv 69 3 8 147) from sn_67 144) a25 s25 hc24 rfl rfl rfl ?_
                              refine Jif_eq (show mx_Sn _ _ 147 (mx_if_eq 161 150) from sn_67 147) (by omega) (fun q25 => ?_) (fun q25 => ?_)
                              · skip
                                exact c161 w18_3 Z24 h24 (by omega) hx24 hG24 (fr_tr (M := [(14, (-1)), (16, (-1)), (17, (-1)), (18, (-1)), (19, (-1)), (31, (-1))]) fr_rf (hf24) (M1 := []) rfl rfl)
                              · skip
                                refine mx_J.step (sn_67 150) (fun _ _ => rfl) ?_
                                refine JgetR (g := 7) (b := 31) hx24 (show mx_Sn _ _ 151 (mx_getf 8 7 154) from sn_67 151) a25 s25 rfl rfl (hG24.prr 25 7 rfl) ?_
                                refine mx_J.step (sn_67 154) (fun _ _ => rfl) ?_
                                refine mx_J.step (sn_67 156) (fun _ _ => rfl) ?_
                                refine JiastI hx24 (show mx_Sn _ _ 158 (mx_iast 1 159) from sn_67 158) a31 s31 rfl (by omega) (fun Z26 h26 hx26 hE26 => ?_)
                                have hG26 := GI_up hG24 hE26 (show (-2147483648) ≤ w5_4 ∧ w5_4 ≤ 2147483647 by omega) trivial rfl
                                refine JcI (z := 1) (show mx_Sn _ _ 159 (mx_const (.int 1) 160) from sn_67 159) rfl ?_
                                refine mx_J.step (ls2 := [some (.ref 25), some (xI x0), some (xI x1), some (xI 1), some (xI w5_4), some (xI w13_5)]) (sn_67 160) (fun _ _ => rfl) ?_
                                exact c161 1 Z26 h26 (by omega) hx26 hG26 (fr_tr (M := [(14, (-1)), (16, (-1)), (17, (-1)), (18, (-1)), (19, (-1)), (31, (-1))]) (fr_tr (M := [(14, (-1)), (16, (-1)), (17, (-1)), (18, (-1)), (19, (-1)), (31, (-1))]) fr_rf (hf24) (M1 := []) rfl rfl) (fr_ua hE26) rfl rfl)
                          refine Jif_ge (show mx_Sn _ _ 104 (mx_if_ge 129 107) from sn_67 104) (by omega) (fun q27 => ?_) (fun q27 => ?_)
                          · skip
                            exact c129 w13_3 Z14 h14 (by omega) hx14 hG14 fr_rf
                          · skip
                            refine mx_J.step (sn_67 107) (fun _ _ => rfl) ?_
                            refine mx_J.step (sn_67 108) (fun _ _ => rfl) ?_
                            refine mx_J.step (sn_67 110) (fun _ _ => rfl) ?_
                            obtain ⟨z28, Z28, h28, hc28, hx28, hG28, hf28, b28⟩ := ct_68_25 (d := d + 0) (l := l) (D := D) (b0 := b0) (ad := ad) (Hb := Hb) (tau := tau) hx14 hG14 (show (-2147483648) ≤ w13_5 ∧ w13_5 ≤ 2147483647 by omega) (show (-2147483648) ≤ w5_4 ∧ w5_4 ≤ 2147483647 by omega)
                            refine Jcv hx14 (show mx_Sn _ _ 112 (mx_callv 68 3 8 115) from sn_67 112) a25 s25 hc28 rfl rfl rfl ?_
                            refine Jif_lt (show mx_Sn _ _ 115 (mx_if_lt 129 118) from sn_67 115) (by omega) (fun q29 => ?_) (fun q29 => ?_)
                            · skip
                              exact c129 w13_3 Z28 h28 (by omega) hx28 hG28 (fr_tr (M := [(14, (-1)), (16, (-1)), (17, (-1)), (18, (-1)), (19, (-1)), (30, (-1))]) fr_rf (hf28) (M1 := []) rfl rfl)
                            · skip
                              refine mx_J.step (sn_67 118) (fun _ _ => rfl) ?_
                              refine JgetR (g := 6) (b := 30) hx28 (show mx_Sn _ _ 119 (mx_getf 8 6 122) from sn_67 119) a25 s25 rfl rfl (hG28.prr 25 6 rfl) ?_
                              refine mx_J.step (sn_67 122) (fun _ _ => rfl) ?_
                              refine mx_J.step (sn_67 124) (fun _ _ => rfl) ?_
                              refine JiastI hx28 (show mx_Sn _ _ 126 (mx_iast 1 127) from sn_67 126) a30 s30 rfl (by omega) (fun Z30 h30 hx30 hE30 => ?_)
                              have hG30 := GI_up hG28 hE30 (show (-2147483648) ≤ w5_4 ∧ w5_4 ≤ 2147483647 by omega) trivial rfl
                              refine JcI (z := 1) (show mx_Sn _ _ 127 (mx_const (.int 1) 128) from sn_67 127) rfl ?_
                              refine mx_J.step (ls2 := [some (.ref 25), some (xI x0), some (xI x1), some (xI 1), some (xI w5_4), some (xI w13_5)]) (sn_67 128) (fun _ _ => rfl) ?_
                              exact c129 1 Z30 h30 (by omega) hx30 hG30 (fr_tr (M := [(14, (-1)), (16, (-1)), (17, (-1)), (18, (-1)), (19, (-1)), (30, (-1))]) (fr_tr (M := [(14, (-1)), (16, (-1)), (17, (-1)), (18, (-1)), (19, (-1)), (30, (-1))]) fr_rf (hf28) (M1 := []) rfl rfl) (fr_ua hE30) rfl rfl)
                    exact c85 (Int.toNat (385 - 0) + 1) 0 0 Z6 h6 (by omega) (by omega) (by omega) hx6 hG6 fr_rf
          exact c59 (Int.toNat (771 - 1) + 1) 1 1 none Z2 h2 (by omega) (by omega) (by omega) hx2 hG2 fr_rf
        · skip
          refine mx_J.step (sn_67 13) (fun _ _ => rfl) ?_
          refine JgetR (g := 6) (b := 30) hx2 (show mx_Sn _ _ 14 (mx_getf 8 6 17) from sn_67 14) a25 s25 rfl rfl (hG2.prr 25 6 rfl) ?_
          refine mx_J.step (sn_67 17) (fun _ _ => rfl) ?_
          refine mx_J.step (sn_67 18) (fun _ _ => rfl) ?_
          refine JgetR (g := 0) (b := 7) hx2 (show mx_Sn _ _ 19 (mx_getf 8 0 22) from sn_67 19) a25 s25 rfl rfl (hG2.prr 25 0 rfl) ?_
          refine mx_J.step (sn_67 22) (fun _ _ => rfl) ?_
          obtain ⟨z31, hc31, b31⟩ := ct_5_7 (d := d + 8) (l := l) (D := D) (b0 := b0) (ad := ad) (Hb := Hb) (tau := tau) hx2 hG2 (show (-2147483648) ≤ w1_3 ∧ w1_3 ≤ 2147483647 by omega)
          have eq32 : Z2 7 5 = Z 7 5 := (hf2 7 5 rfl)
          have eq33 : Z2 10 w1_3 = Z 10 w1_3 := (hf2 10 w1_3 rfl)
          refine Jcv hx2 (show mx_Sn _ _ 23 (mx_callv 5 2 0 26) from sn_67 23) a7 s7 hc31 rfl rfl rfl ?_
          refine mx_J.step (sn_67 26) (fun _ _ => rfl) ?_
          have c35 : ∀ (k34_2 : Int), (-1) ≤ k34_2 ∧ k34_2 ≤ 0 → mx_J (tB l D b0 ad Hb tau) mt_67 (d + 9) 35 [some (.ref 25), some (xI x0), some (xI x1), some (xI w1_3), none, none] [xI k34_2, xI w1_3, .ref 30] h2 Post := by
            intro k34_2 f34_0
            refine JiastI hx2 (show mx_Sn _ _ 35 (mx_iast 1 36) from sn_67 35) a30 s30 rfl (by omega) (fun Z35 h35 hx35 hE35 => ?_)
            have hG35 := GI_up hG2 hE35 (show (-2147483648) ≤ k34_2 ∧ k34_2 ≤ 2147483647 by omega) trivial rfl
            refine mx_J.step (sn_67 36) (fun _ _ => rfl) ?_
            refine JgetR (g := 7) (b := 31) hx35 (show mx_Sn _ _ 37 (mx_getf 8 7 40) from sn_67 37) a25 s25 rfl rfl (hG35.prr 25 7 rfl) ?_
            refine mx_J.step (sn_67 40) (fun _ _ => rfl) ?_
            refine mx_J.step (sn_67 41) (fun _ _ => rfl) ?_
            refine JgetR (g := 6) (b := 30) hx35 (show mx_Sn _ _ 42 (mx_getf 8 6 45) from sn_67 42) a25 s25 rfl rfl (hG35.prr 25 6 rfl) ?_
            refine mx_J.step (sn_67 45) (fun _ _ => rfl) ?_
            have b36 : (-2147483648) ≤ Z35 30 w1_3 ∧ Z35 30 w1_3 ≤ 2147483647 := hG35.pr 30 w1_3
            refine JialdI (z := Z35 30 w1_3) hx35 (show mx_Sn _ _ 46 (mx_iald 47) from sn_67 46) a30 s30 (by omega) rfl ?_
            refine JiastI hx35 (show mx_Sn _ _ 47 (mx_iast 1 48) from sn_67 47) a31 s31 rfl (by omega) (fun Z37 h37 hx37 hE37 => ?_)
            have hG37 := GI_up hG35 hE37 (show (-2147483648) ≤ Z35 30 w1_3 ∧ Z35 30 w1_3 ≤ 2147483647 by omega) trivial rfl
            refine Jiinc (z := w1_3) (cz := 1) (ls2 := [some (.ref 25), some (xI x0), some (xI x1), some (xI (w1_3 + 1)), none, none]) (show mx_Sn _ _ 48 (mx_iinc 3 1 51) from sn_67 48) rfl rfl rfl rfl ?_
            refine mx_J.step (sn_67 51) (fun _ _ => rfl) ?_
            exact ih1 (w1_3 + 1) Z37 h37 (by omega) (by omega) hx37 hG37 (fr_tr (M := [(30, (-1)), (31, (-1))]) (fr_tr (M := [(30, (-1)), (31, (-1))]) (fr_tr (M := [(30, (-1)), (31, (-1))]) fr_rf (hf2) (M1 := []) rfl rfl) (fr_ua hE35) rfl rfl) (fr_ua hE37) rfl rfl)
          refine Jicmp_gt (show mx_Sn _ _ 27 (mx_icmp_gt 34 30) from sn_67 27) (by omega) (by omega) (fun q38 => ?_) (fun q38 => ?_)
          · skip
            refine JcI (z := (-1)) (show mx_Sn _ _ 34 (mx_const (.int (-1)) 35) from sn_67 34) rfl ?_
            exact c35 (-1) (by omega)
          · skip
            refine JcI (z := 0) (show mx_Sn _ _ 30 (mx_const (.int 0) 31) from sn_67 30) rfl ?_
            refine mx_J.step (sn_67 31) (fun _ _ => rfl) ?_
            exact c35 0 (by omega)
    exact c2 (Int.toNat (385 - 0) + 1) 0 Z h (by omega) (by omega) hx hG fr_rf
theorem ct_67_25 {l : Launch} {D : va_G} {b0 : Nat} {ad : Nat → Nat} {Hb : Heap} {tau : Nat → Int64} {d n s : Nat} {S : Nat → xS} {Z : xZ} {h : mx_H} (hx : XH n s S Z h) (hG : GI n S Z) {x0 x1 : Int} (p0 : 0 ≤ x0 ∧ x0 ≤ 384) (p1 : 1 ≤ x1 ∧ x1 ≤ 18) : ∃ (z : Int) (Z' : xZ) (h' : mx_H), mx_Ca (tB l D b0 ad Hb tau) (d + 10) 67 [.ref 25, xI x0, xI x1] h (some (xI z), h') ∧ XH n s S Z' h' ∧ GI n S Z' ∧ fr' [(14, (-1)), (16, (-1)), (17, (-1)), (18, (-1)), (19, (-1)), (30, (-1)), (31, (-1))] Z Z' ∧ ((-2147483648) ≤ z ∧ z ≤ 2147483647) := by
  obtain ⟨r, hca, z, Z', h', e, q⟩ := Jmt (B := tB l D b0 ad Hb tau) (M := mt_67) (mi := 67) (as := [.ref 25, xI x0, xI x1]) (d := d + 9) (ls := [some (.ref 25), some (xI x0), some (xI x1), none, none, none]) rfl rfl rfl rfl rfl rfl (cw_67_25 (l := l) (D := D) (b0 := b0) (ad := ad) (Hb := Hb) (tau := tau) (d := d) (Post := fun r => ∃ (z : Int) (Z' : xZ) (h' : mx_H), r = (some (xI z), h') ∧ XH n s S Z' h' ∧ GI n S Z' ∧ fr' [(14, (-1)), (16, (-1)), (17, (-1)), (18, (-1)), (19, (-1)), (30, (-1)), (31, (-1))] Z Z' ∧ ((-2147483648) ≤ z ∧ z ≤ 2147483647)) hx hG p0 p1 (fun z Z' h' q1 q2 q3 q4 => ⟨z, Z', h', rfl, q1, q2, q3, q4⟩))
  subst e; exact ⟨z, Z', h', hca, q⟩
set_option maxRecDepth 100000 in
theorem cw_72_32 {l : Launch} {D : va_G} {b0 : Nat} {ad : Nat → Nat} {Hb : Heap} {tau : Nat → Int64} {d n s : Nat} {S : Nat → xS} {Z : xZ} {h : mx_H} {Post : mx_R → Prop} (hx : XH n s S Z h) (hG : GI n S Z) {x0 : Int} (p0 : (-2147483648) ≤ x0 ∧ x0 ≤ 2147483647) (hP : ∀ (z : Int) (Z' : xZ) (h' : mx_H), XH n s S Z' h' → GI n S Z' → fr' [(33, (-1))] Z Z' → 0 ≤ z ∧ z ≤ 1 → Post (some (xI z), h')) : mx_J (tB l D b0 ad Hb tau) mt_72 (d + 0) 0 [some (.ref 32), some (xI x0), none] [] h Post := by
    have a7 : 7 < n := lt83 hG.1 rfl
    have s7 : S 7 = .inl (0, [2, 2, 2, 2, 0, 0]) := hG.2.1 7 rfl
    have a32 : 32 < n := lt83 hG.1 rfl
    have s32 : S 32 = .inl (9, [2, 2, 2]) := hG.2.1 32 rfl
    have a33 : 33 < n := lt83 hG.1 rfl
    have s33 : S 33 = .inr (.long, 3850, 1) := hG.2.1 33 rfl
    refine mx_J.step (sn_72 0) (fun _ _ => rfl) ?_
    have c10 : mx_J (tB l D b0 ad Hb tau) mt_72 (d + 0) 10 [some (.ref 32), some (xI x0), none] [] h Post := by
      refine JcI (z := 0) (show mx_Sn _ _ 10 (mx_const (.int 0) 11) from sn_72 10) rfl ?_
      exact mx_J.ret (show mx_Sn _ _ 11 (mx_zret) from sn_72 11) (fun _ _ => zr_ok (by omega)) (hP 0 Z h hx hG fr_rf (by omega))
    refine Jif_lt (show mx_Sn _ _ 1 (mx_if_lt 10 4) from sn_72 1) (by omega) (fun q2 => ?_) (fun q2 => ?_)
    · skip
      exact c10 
    · skip
      refine mx_J.step (sn_72 4) (fun _ _ => rfl) ?_
      refine JcI (z := 10) (show mx_Sn _ _ 5 (mx_const (.int 10) 7) from sn_72 5) rfl ?_
      refine Jicmp_lt (show mx_Sn _ _ 7 (mx_icmp_lt 12 10) from sn_72 7) (by omega) (by omega) (fun q3 => ?_) (fun q3 => ?_)
      · skip
        refine JcI (z := 0) (show mx_Sn _ _ 12 (mx_const (.int 0) 13) from sn_72 12) rfl ?_
        refine mx_J.step (ls2 := [some (.ref 32), some (xI x0), some (xI 0)]) (sn_72 13) (fun _ _ => rfl) ?_
        have c14 : ∀ (m4 : Nat) (w4_2 : Int) (Z5 : xZ) (h5 : mx_H), 385 - w4_2 < (m4 : Int) → 0 ≤ w4_2 ∧ w4_2 ≤ 385 → XH n s S Z5 h5 → GI n S Z5 → fr' [(33, (-1))] Z Z5 → mx_J (tB l D b0 ad Hb tau) mt_72 (d + 0) 14 [some (.ref 32), some (xI x0), some (xI w4_2)] [] h5 Post := by
          intro m4
          induction m4 with
          | zero => intro w4_2 Z5 h5 q4 f4_0 hx5 hG5 hf5; exact absurd q4 (by omega)
          | succ m4 ih4 =>
            intro w4_2 Z5 h5 q4 f4_0 hx5 hG5 hf5
            refine mx_J.step (sn_72 14) (fun _ _ => rfl) ?_
            refine mx_J.step (sn_72 15) (fun _ _ => rfl) ?_
            refine JgetR (g := 0) (b := 7) hx5 (show mx_Sn _ _ 16 (mx_getf 9 0 19) from sn_72 16) a32 s32 rfl rfl (hG5.prr 32 0 rfl) ?_
            have b6 : 0 ≤ Z 7 5 ∧ Z 7 5 ≤ 385 := hG.pr 7 5
            refine JgetI (g := 5) (z := Z 7 5) hx5 (show mx_Sn _ _ 19 (mx_getf 0 5 22) from sn_72 19) a7 s7 rfl rfl (hf5 7 5 rfl) ?_
            refine Jicmp_ge (show mx_Sn _ _ 22 (mx_icmp_ge 44 25) from sn_72 22) (by omega) (by omega) (fun q7 => ?_) (fun q7 => ?_)
            · skip
              refine JcI (z := 1) (show mx_Sn _ _ 44 (mx_const (.int 1) 45) from sn_72 44) rfl ?_
              exact mx_J.ret (show mx_Sn _ _ 45 (mx_zret) from sn_72 45) (fun _ _ => zr_ok (by omega)) (hP 1 Z5 h5 hx5 hG5 (fr_tr (M := [(33, (-1))]) fr_rf (hf5) (M1 := []) rfl rfl) (by omega))
            · skip
              refine mx_J.step (sn_72 25) (fun _ _ => rfl) ?_
              refine JgetR (g := 2) (b := 33) hx5 (show mx_Sn _ _ 26 (mx_getf 9 2 29) from sn_72 26) a32 s32 rfl rfl (hG5.prr 32 2 rfl) ?_
              refine mx_J.step (sn_72 29) (fun _ _ => rfl) ?_
              refine JcI (z := 385) (show mx_Sn _ _ 30 (mx_const (.int 385) 33) from sn_72 30) rfl ?_
              refine Jimul (show mx_Sn _ _ 33 (mx_imul 34) from sn_72 33) ?_
              refine mx_J.step (sn_72 34) (fun _ _ => rfl) ?_
              refine Jiadd (show mx_Sn _ _ 35 (mx_iadd 36) from sn_72 35) ?_
              refine JcL (z := 0) (show mx_Sn _ _ 36 (mx_const (.long 0) 37) from sn_72 36) rfl ?_
              refine JlastL hx5 (show mx_Sn _ _ 37 (mx_last 1 38) from sn_72 37) a33 s33 rfl (by omega) (fun Z8 h8 hx8 hE8 => ?_)
              have hG8 := GI_up hG5 hE8 (show (-9223372036854775808) ≤ 0 ∧ 0 ≤ 9223372036854775807 by omega) trivial rfl
              refine Jiinc (z := w4_2) (cz := 1) (ls2 := [some (.ref 32), some (xI x0), some (xI (w4_2 + 1))]) (show mx_Sn _ _ 38 (mx_iinc 2 1 41) from sn_72 38) rfl rfl rfl rfl ?_
              refine mx_J.step (sn_72 41) (fun _ _ => rfl) ?_
              exact ih4 (w4_2 + 1) Z8 h8 (by omega) (by omega) hx8 hG8 (fr_tr (M := [(33, (-1))]) (fr_tr (M := [(33, (-1))]) fr_rf (hf5) (M1 := []) rfl rfl) (fr_ua hE8) rfl rfl)
        exact c14 (Int.toNat (385 - 0) + 1) 0 Z h (by omega) (by omega) hx hG fr_rf
      · skip
        exact c10 
theorem ct_72_32 {l : Launch} {D : va_G} {b0 : Nat} {ad : Nat → Nat} {Hb : Heap} {tau : Nat → Int64} {d n s : Nat} {S : Nat → xS} {Z : xZ} {h : mx_H} (hx : XH n s S Z h) (hG : GI n S Z) {x0 : Int} (p0 : (-2147483648) ≤ x0 ∧ x0 ≤ 2147483647) : ∃ (z : Int) (Z' : xZ) (h' : mx_H), mx_Ca (tB l D b0 ad Hb tau) (d + 1) 72 [.ref 32, xI x0] h (some (xI z), h') ∧ XH n s S Z' h' ∧ GI n S Z' ∧ fr' [(33, (-1))] Z Z' ∧ (0 ≤ z ∧ z ≤ 1) := by
  obtain ⟨r, hca, z, Z', h', e, q⟩ := Jmt (B := tB l D b0 ad Hb tau) (M := mt_72) (mi := 72) (as := [.ref 32, xI x0]) (d := d + 0) (ls := [some (.ref 32), some (xI x0), none]) rfl rfl rfl rfl rfl rfl (cw_72_32 (l := l) (D := D) (b0 := b0) (ad := ad) (Hb := Hb) (tau := tau) (d := d) (Post := fun r => ∃ (z : Int) (Z' : xZ) (h' : mx_H), r = (some (xI z), h') ∧ XH n s S Z' h' ∧ GI n S Z' ∧ fr' [(33, (-1))] Z Z' ∧ (0 ≤ z ∧ z ≤ 1)) hx hG p0 (fun z Z' h' q1 q2 q3 q4 => ⟨z, Z', h', rfl, q1, q2, q3, q4⟩))
  subst e; exact ⟨z, Z', h', hca, q⟩
set_option maxRecDepth 100000 in
theorem cw_71_32 {l : Launch} {D : va_G} {b0 : Nat} {ad : Nat → Nat} {Hb : Heap} {tau : Nat → Int64} {d n s : Nat} {S : Nat → xS} {Z : xZ} {h : mx_H} {Post : mx_R → Prop} (hx : XH n s S Z h) (hG : GI n S Z) {x0 : Int} (p0 : (-2147483648) ≤ x0 ∧ x0 ≤ 2147483647) (hP : ∀ (Z' : xZ) (h' : mx_H), XH n s S Z' h' → GI n S Z' → fr' [(33, (-1))] Z Z' → Post (none, h')) : mx_J (tB l D b0 ad Hb tau) mt_71 (d + 1) 0 [some (.ref 32), some (xI x0)] [] h Post := by
    have a32 : 32 < n := lt83 hG.1 rfl
    have s32 : S 32 = .inl (9, [2, 2, 2]) := hG.2.1 32 rfl
    have a33 : 33 < n := lt83 hG.1 rfl
    have s33 : S 33 = .inr (.long, 3850, 1) := hG.2.1 33 rfl
    refine mx_J.step (sn_71 0) (fun _ _ => rfl) ?_
    refine JcI (z := 0) (show mx_Sn _ _ 1 (mx_const (.int 0) 2) from sn_71 1) rfl ?_
    obtain ⟨z1, Z1, h1, hc1, hx1, hG1, hf1, b1⟩ := ct_72_32 (d := d + 0) (l := l) (D := D) (b0 := b0) (ad := ad) (Hb := Hb) (tau := tau) hx hG (show (-2147483648) ≤ 0 ∧ 0 ≤ 2147483647 by omega)
    refine Jcv hx (show mx_Sn _ _ 2 (mx_callv 72 2 9 5) from sn_71 2) a32 s32 hc1 rfl rfl rfl ?_
    refine mx_J.step (sn_71 5) (fun _ _ => rfl) ?_
    refine mx_J.step (sn_71 6) (fun _ _ => rfl) ?_
    have c24 : ∀  (Z3 : xZ) (h3 : mx_H), XH n s S Z3 h3 → GI n S Z3 → fr' [(33, (-1))] Z1 Z3 → mx_J (tB l D b0 ad Hb tau) mt_71 (d + 1) 24 [some (.ref 32), some (xI x0)] [] h3 Post := by
      intro Z3 h3 hx3 hG3 hf3
      exact mx_J.ret (sn_71 24) (fun _ _ => rfl) (hP Z3 h3 hx3 hG3 (fr_tr (M := [(33, (-1))]) (fr_tr (M := [(33, (-1))]) fr_rf (hf1) (M1 := []) rfl rfl) (hf3) rfl rfl))
    refine Jif_lt (show mx_Sn _ _ 7 (mx_if_lt 24 10) from sn_71 7) (by omega) (fun q4 => ?_) (fun q4 => ?_)
    · skip
      exact c24 Z1 h1 hx1 hG1 fr_rf
    · skip
      refine mx_J.step (sn_71 10) (fun _ _ => rfl) ?_
      refine JcI (z := 385) (show mx_Sn _ _ 11 (mx_const (.int 385) 14) from sn_71 11) rfl ?_
      refine Jicmp_ge (show mx_Sn _ _ 14 (mx_icmp_ge 24 17) from sn_71 14) (by omega) (by omega) (fun q5 => ?_) (fun q5 => ?_)
      · skip
        exact c24 Z1 h1 hx1 hG1 fr_rf
      · skip
        refine mx_J.step (sn_71 17) (fun _ _ => rfl) ?_
        refine JgetR (g := 2) (b := 33) hx1 (show mx_Sn _ _ 18 (mx_getf 9 2 21) from sn_71 18) a32 s32 rfl rfl (hG1.prr 32 2 rfl) ?_
        refine mx_J.step (sn_71 21) (fun _ _ => rfl) ?_
        refine JcL (z := 1) (show mx_Sn _ _ 22 (mx_const (.long 1) 23) from sn_71 22) rfl ?_
        refine JlastL hx1 (show mx_Sn _ _ 23 (mx_last 1 24) from sn_71 23) a33 s33 rfl (by omega) (fun Z6 h6 hx6 hE6 => ?_)
        have hG6 := GI_up hG1 hE6 (show (-9223372036854775808) ≤ 1 ∧ 1 ≤ 9223372036854775807 by omega) trivial rfl
        exact c24 Z6 h6 hx6 hG6 (fr_tr (M := [(33, (-1))]) fr_rf (fr_ua hE6) (M1 := []) rfl rfl)
theorem ct_71_32 {l : Launch} {D : va_G} {b0 : Nat} {ad : Nat → Nat} {Hb : Heap} {tau : Nat → Int64} {d n s : Nat} {S : Nat → xS} {Z : xZ} {h : mx_H} (hx : XH n s S Z h) (hG : GI n S Z) {x0 : Int} (p0 : (-2147483648) ≤ x0 ∧ x0 ≤ 2147483647) : ∃ (Z' : xZ) (h' : mx_H), mx_Ca (tB l D b0 ad Hb tau) (d + 2) 71 [.ref 32, xI x0] h (none, h') ∧ XH n s S Z' h' ∧ GI n S Z' ∧ fr' [(33, (-1))] Z Z' := by
  obtain ⟨r, hca, Z', h', e, q⟩ := Jmt (B := tB l D b0 ad Hb tau) (M := mt_71) (mi := 71) (as := [.ref 32, xI x0]) (d := d + 1) (ls := [some (.ref 32), some (xI x0)]) rfl rfl rfl rfl rfl rfl (cw_71_32 (l := l) (D := D) (b0 := b0) (ad := ad) (Hb := Hb) (tau := tau) (d := d) (Post := fun r => ∃ (Z' : xZ) (h' : mx_H), r = (none, h') ∧ XH n s S Z' h' ∧ GI n S Z' ∧ fr' [(33, (-1))] Z Z') hx hG p0 (fun Z' h' q1 q2 q3 => ⟨Z', h', rfl, q1, q2, q3⟩))
  subst e; exact ⟨Z', h', hca, q⟩
set_option maxRecDepth 100000 in
theorem cw_73_32 {l : Launch} {D : va_G} {b0 : Nat} {ad : Nat → Nat} {Hb : Heap} {tau : Nat → Int64} {d n s : Nat} {S : Nat → xS} {Z : xZ} {h : mx_H} {Post : mx_R → Prop} (hx : XH n s S Z h) (hG : GI n S Z) {x0 x1 : Int} (p0 : 0 ≤ x0 ∧ x0 ≤ 8) (p1 : (-1) ≤ x1 ∧ x1 ≤ 18) (hP : ∀ (Z' : xZ) (h' : mx_H), XH n s S Z' h' → GI n S Z' → fr' [(14, (-1)), (16, (-1)), (17, (-1)), (18, (-1)), (19, (-1)), (33, (-1))] Z Z' → Post (none, h')) : mx_J (tB l D b0 ad Hb tau) mt_73 (d + 8) 0 [some (.ref 32), some (xI x0), some (xI x1), none, none, none, none, none] [] h Post := by
    have a7 : 7 < n := lt83 hG.1 rfl
    have s7 : S 7 = .inl (0, [2, 2, 2, 2, 0, 0]) := hG.2.1 7 rfl
    have a12 : 12 < n := lt83 hG.1 rfl
    have s12 : S 12 = .inl (4, [2, 2, 0, 2, 2, 2, 2, 2, 2]) := hG.2.1 12 rfl
    have a32 : 32 < n := lt83 hG.1 rfl
    have s32 : S 32 = .inl (9, [2, 2, 2]) := hG.2.1 32 rfl
    have a33 : 33 < n := lt83 hG.1 rfl
    have s33 : S 33 = .inr (.long, 3850, 1) := hG.2.1 33 rfl
    refine mx_J.step (sn_73 0) (fun _ _ => rfl) ?_
    have c14 : ∀  (Z2 : xZ) (h2 : mx_H), XH n s S Z2 h2 → GI n S Z2 → fr' [(33, (-1))] Z Z2 → mx_J (tB l D b0 ad Hb tau) mt_73 (d + 8) 14 [some (.ref 32), some (xI x0), some (xI x1), none, none, none, none, none] [] h2 Post := by
      intro Z2 h2 hx2 hG2 hf2
      exact mx_J.ret (sn_73 14) (fun _ _ => rfl) (hP Z2 h2 hx2 hG2 (fr_tr (M := [(14, (-1)), (16, (-1)), (17, (-1)), (18, (-1)), (19, (-1)), (33, (-1))]) fr_rf (hf2) (M1 := []) rfl rfl))
    refine Jif_lt (show mx_Sn _ _ 1 (mx_if_lt 14 4) from sn_73 1) (by omega) (fun q3 => ?_) (fun q3 => ?_)
    · skip
      exact c14 Z h hx hG fr_rf
    · skip
      refine mx_J.step (sn_73 4) (fun _ _ => rfl) ?_
      refine mx_J.step (sn_73 5) (fun _ _ => rfl) ?_
      refine JcI (z := 1) (show mx_Sn _ _ 6 (mx_const (.int 1) 7) from sn_73 6) rfl ?_
      refine Jiadd (show mx_Sn _ _ 7 (mx_iadd 8) from sn_73 7) ?_
      obtain ⟨z4, Z4, h4, hc4, hx4, hG4, hf4, b4⟩ := ct_72_32 (d := d + 7) (l := l) (D := D) (b0 := b0) (ad := ad) (Hb := Hb) (tau := tau) hx hG (show (-2147483648) ≤ x0 + 1 ∧ x0 + 1 ≤ 2147483647 by omega)
      refine Jcv hx (show mx_Sn _ _ 8 (mx_callv 72 2 9 11) from sn_73 8) a32 s32 hc4 rfl rfl rfl ?_
      refine Jif_ne (show mx_Sn _ _ 11 (mx_if_ne 15 14) from sn_73 11) (by omega) (fun q5 => ?_) (fun q5 => ?_)
      · skip
        refine mx_J.step (sn_73 15) (fun _ _ => rfl) ?_
        refine JcI (z := 385) (show mx_Sn _ _ 16 (mx_const (.int 385) 19) from sn_73 16) rfl ?_
        refine Jimul (show mx_Sn _ _ 19 (mx_imul 20) from sn_73 19) ?_
        refine mx_J.step (ls2 := [some (.ref 32), some (xI x0), some (xI x1), some (xI (x0 * 385)), none, none, none, none]) (sn_73 20) (fun _ _ => rfl) ?_
        refine JcI (z := 0) (show mx_Sn _ _ 21 (mx_const (.int 0) 22) from sn_73 21) rfl ?_
        refine mx_J.step (ls2 := [some (.ref 32), some (xI x0), some (xI x1), some (xI (x0 * 385)), some (xI 0), none, none, none]) (sn_73 22) (fun _ _ => rfl) ?_
        have c24 : ∀ (m6 : Nat) (w6_4 : Int) (u6_5 : Option Value) (u6_6 : Option Value) (u6_7 : Option Value) (Z7 : xZ) (h7 : mx_H), 385 - w6_4 < (m6 : Int) → 0 ≤ w6_4 ∧ w6_4 ≤ 385 → XH n s S Z7 h7 → GI n S Z7 → fr' [(14, (-1)), (16, (-1)), (17, (-1)), (18, (-1)), (19, (-1)), (33, (-1))] Z4 Z7 → mx_J (tB l D b0 ad Hb tau) mt_73 (d + 8) 24 [some (.ref 32), some (xI x0), some (xI x1), some (xI (x0 * 385)), some (xI w6_4), u6_5, u6_6, u6_7] [] h7 Post := by
          intro m6
          induction m6 with
          | zero => intro w6_4 u6_5 u6_6 u6_7 Z7 h7 q6 f6_0 hx7 hG7 hf7; exact absurd q6 (by omega)
          | succ m6 ih6 =>
            intro w6_4 u6_5 u6_6 u6_7 Z7 h7 q6 f6_0 hx7 hG7 hf7
            refine mx_J.step (sn_73 24) (fun _ _ => rfl) ?_
            refine mx_J.step (sn_73 26) (fun _ _ => rfl) ?_
            refine JgetR (g := 0) (b := 7) hx7 (show mx_Sn _ _ 27 (mx_getf 9 0 30) from sn_73 27) a32 s32 rfl rfl (hG7.prr 32 0 rfl) ?_
            have b8 : 0 ≤ Z 7 5 ∧ Z 7 5 ≤ 385 := hG.pr 7 5
            refine JgetI (g := 5) (z := Z 7 5) hx7 (show mx_Sn _ _ 30 (mx_getf 0 5 33) from sn_73 30) a7 s7 rfl rfl ((hf7 7 5 rfl).trans (hf4 7 5 rfl)) ?_
            refine Jicmp_ge (show mx_Sn _ _ 33 (mx_icmp_ge 149 36) from sn_73 33) (by omega) (by omega) (fun q9 => ?_) (fun q9 => ?_)
            · skip
              exact mx_J.ret (sn_73 149) (fun _ _ => rfl) (hP Z7 h7 hx7 hG7 (fr_tr (M := [(14, (-1)), (16, (-1)), (17, (-1)), (18, (-1)), (19, (-1)), (33, (-1))]) (fr_tr (M := [(14, (-1)), (16, (-1)), (17, (-1)), (18, (-1)), (19, (-1)), (33, (-1))]) fr_rf (hf4) (M1 := []) rfl rfl) (hf7) rfl rfl))
            · skip
              refine mx_J.step (sn_73 36) (fun _ _ => rfl) ?_
              refine JgetR (g := 2) (b := 33) hx7 (show mx_Sn _ _ 37 (mx_getf 9 2 40) from sn_73 37) a32 s32 rfl rfl (hG7.prr 32 2 rfl) ?_
              refine mx_J.step (sn_73 40) (fun _ _ => rfl) ?_
              refine mx_J.step (sn_73 41) (fun _ _ => rfl) ?_
              refine Jiadd (show mx_Sn _ _ 43 (mx_iadd 44) from sn_73 43) ?_
              have b10 : (-9223372036854775808) ≤ Z7 33 ((x0 * 385) + w6_4) ∧ Z7 33 ((x0 * 385) + w6_4) ≤ 9223372036854775807 := hG7.pr 33 ((x0 * 385) + w6_4)
              refine JlaldL (z := Z7 33 ((x0 * 385) + w6_4)) hx7 (show mx_Sn _ _ 44 (mx_lald 45) from sn_73 44) a33 s33 (by omega) rfl ?_
              refine JcL (z := 0) (show mx_Sn _ _ 45 (mx_const (.long 0) 46) from sn_73 45) rfl ?_
              have c64 : ∀ (k11_0 : Int), (-1) ≤ k11_0 ∧ k11_0 ≤ 18 → mx_J (tB l D b0 ad Hb tau) mt_73 (d + 8) 64 [some (.ref 32), some (xI x0), some (xI x1), some (xI (x0 * 385)), some (xI w6_4), u6_5, u6_6, u6_7] [xI k11_0] h7 Post := by
                intro k11_0 f11_0
                refine mx_J.step (ls2 := [some (.ref 32), some (xI x0), some (xI x1), some (xI (x0 * 385)), some (xI w6_4), some (xI k11_0), u6_6, u6_7]) (sn_73 64) (fun _ _ => rfl) ?_
                refine JcI (z := 0) (show mx_Sn _ _ 66 (mx_const (.int 0) 67) from sn_73 66) rfl ?_
                refine mx_J.step (ls2 := [some (.ref 32), some (xI x0), some (xI x1), some (xI (x0 * 385)), some (xI w6_4), some (xI k11_0), some (xI 0), u6_7]) (sn_73 67) (fun _ _ => rfl) ?_
                have c69 : ∀ (m12 : Nat) (w12_6 : Int) (u12_7 : Option Value) (Z13 : xZ) (h13 : mx_H), 19 - w12_6 < (m12 : Int) → 0 ≤ w12_6 ∧ w12_6 ≤ 19 → XH n s S Z13 h13 → GI n S Z13 → fr' [(14, (-1)), (16, (-1)), (17, (-1)), (18, (-1)), (19, (-1)), (33, (-1))] Z7 Z13 → mx_J (tB l D b0 ad Hb tau) mt_73 (d + 8) 69 [some (.ref 32), some (xI x0), some (xI x1), some (xI (x0 * 385)), some (xI w6_4), some (xI k11_0), some (xI w12_6), u12_7] [] h13 Post := by
                  intro m12
                  induction m12 with
                  | zero => intro w12_6 u12_7 Z13 h13 q12 f12_0 hx13 hG13 hf13; exact absurd q12 (by omega)
                  | succ m12 ih12 =>
                    intro w12_6 u12_7 Z13 h13 q12 f12_0 hx13 hG13 hf13
                    refine mx_J.step (sn_73 69) (fun _ _ => rfl) ?_
                    refine mx_J.step (sn_73 71) (fun _ _ => rfl) ?_
                    refine Jicmp_gt (show mx_Sn _ _ 73 (mx_icmp_gt 143 76) from sn_73 73) (by omega) (by omega) (fun q14 => ?_) (fun q14 => ?_)
                    · skip
                      refine Jiinc (z := w6_4) (cz := 1) (ls2 := [some (.ref 32), some (xI x0), some (xI x1), some (xI (x0 * 385)), some (xI (w6_4 + 1)), some (xI k11_0), some (xI w12_6), u12_7]) (show mx_Sn _ _ 143 (mx_iinc 4 1 146) from sn_73 143) rfl rfl rfl rfl ?_
                      refine mx_J.step (sn_73 146) (fun _ _ => rfl) ?_
                      exact ih6 (w6_4 + 1) (some (xI k11_0)) (some (xI w12_6)) u12_7 Z13 h13 (by omega) (by omega) hx13 hG13 (fr_tr (M := [(14, (-1)), (16, (-1)), (17, (-1)), (18, (-1)), (19, (-1)), (33, (-1))]) (fr_tr (M := [(14, (-1)), (16, (-1)), (17, (-1)), (18, (-1)), (19, (-1)), (33, (-1))]) fr_rf (hf7) (M1 := []) rfl rfl) (hf13) rfl rfl)
                    · skip
                      refine mx_J.step (sn_73 76) (fun _ _ => rfl) ?_
                      refine JgetR (g := 1) (b := 12) hx13 (show mx_Sn _ _ 77 (mx_getf 9 1 80) from sn_73 77) a32 s32 rfl rfl (hG13.prr 32 1 rfl) ?_
                      refine mx_J.step (sn_73 80) (fun _ _ => rfl) ?_
                      refine mx_J.step (sn_73 82) (fun _ _ => rfl) ?_
                      obtain ⟨z15, Z15, h15, hc15, hx15, hG15, hf15, b15⟩ := ct_26_12 (d := d + 0) (l := l) (D := D) (b0 := b0) (ad := ad) (Hb := Hb) (tau := tau) hx13 hG13 (show (-2147483648) ≤ w6_4 ∧ w6_4 ≤ 2147483647 by omega) (show (-2147483648) ≤ w12_6 ∧ w12_6 ≤ 2147483647 by omega)
                      refine Jcv hx13 (show mx_Sn _ _ 84 (mx_callv 26 3 4 87) from sn_73 84) a12 s12 hc15 rfl rfl rfl ?_
                      refine mx_J.step (ls2 := [some (.ref 32), some (xI x0), some (xI x1), some (xI (x0 * 385)), some (xI w6_4), some (xI k11_0), some (xI w12_6), some (xI z15)]) (sn_73 87) (fun _ _ => rfl) ?_
                      refine mx_J.step (sn_73 89) (fun _ _ => rfl) ?_
                      have c137 : ∀  (Z17 : xZ) (h17 : mx_H), XH n s S Z17 h17 → GI n S Z17 → fr' [(33, (-1))] Z15 Z17 → mx_J (tB l D b0 ad Hb tau) mt_73 (d + 8) 137 [some (.ref 32), some (xI x0), some (xI x1), some (xI (x0 * 385)), some (xI w6_4), some (xI k11_0), some (xI w12_6), some (xI z15)] [] h17 Post := by
                        intro Z17 h17 hx17 hG17 hf17
                        refine Jiinc (z := w12_6) (cz := 1) (ls2 := [some (.ref 32), some (xI x0), some (xI x1), some (xI (x0 * 385)), some (xI w6_4), some (xI k11_0), some (xI (w12_6 + 1)), some (xI z15)]) (show mx_Sn _ _ 137 (mx_iinc 6 1 140) from sn_73 137) rfl rfl rfl rfl ?_
                        refine mx_J.step (sn_73 140) (fun _ _ => rfl) ?_
                        exact ih12 (w12_6 + 1) (some (xI z15)) Z17 h17 (by omega) (by omega) hx17 hG17 (fr_tr (M := [(14, (-1)), (16, (-1)), (17, (-1)), (18, (-1)), (19, (-1)), (33, (-1))]) (fr_tr (M := [(14, (-1)), (16, (-1)), (17, (-1)), (18, (-1)), (19, (-1)), (33, (-1))]) (fr_tr (M := [(14, (-1)), (16, (-1)), (17, (-1)), (18, (-1)), (19, (-1)), (33, (-1))]) fr_rf (hf13) (M1 := []) rfl rfl) (hf15) rfl rfl) (hf17) rfl rfl)
                      refine Jif_lt (show mx_Sn _ _ 91 (mx_if_lt 137 94) from sn_73 91) (by omega) (fun q18 => ?_) (fun q18 => ?_)
                      · skip
                        exact c137 Z15 h15 hx15 hG15 fr_rf
                      · skip
                        refine mx_J.step (sn_73 94) (fun _ _ => rfl) ?_
                        refine JcI (z := (-1)) (show mx_Sn _ _ 95 (mx_const (.int (-1)) 96) from sn_73 95) rfl ?_
                        have c112 : mx_J (tB l D b0 ad Hb tau) mt_73 (d + 8) 112 [some (.ref 32), some (xI x0), some (xI x1), some (xI (x0 * 385)), some (xI w6_4), some (xI k11_0), some (xI w12_6), some (xI z15)] [] h15 Post := by
                          refine mx_J.step (sn_73 112) (fun _ _ => rfl) ?_
                          refine JgetR (g := 2) (b := 33) hx15 (show mx_Sn _ _ 113 (mx_getf 9 2 116) from sn_73 113) a32 s32 rfl rfl (hG15.prr 32 2 rfl) ?_
                          refine mx_J.step (sn_73 116) (fun _ _ => rfl) ?_
                          refine JcI (z := 385) (show mx_Sn _ _ 117 (mx_const (.int 385) 120) from sn_73 117) rfl ?_
                          refine Jiadd (show mx_Sn _ _ 120 (mx_iadd 121) from sn_73 120) ?_
                          refine mx_J.step (sn_73 121) (fun _ _ => rfl) ?_
                          refine Jiadd (show mx_Sn _ _ 123 (mx_iadd 124) from sn_73 123) ?_
                          refine mx_J.step (sn_73 124) (fun _ _ => rfl) ?_
                          have b20 : (-9223372036854775808) ≤ Z13 33 (((x0 * 385) + 385) + z15) ∧ Z13 33 (((x0 * 385) + 385) + z15) ≤ 9223372036854775807 := hG13.pr 33 (((x0 * 385) + 385) + z15)
                          refine JlaldL (z := Z13 33 (((x0 * 385) + 385) + z15)) hx15 (show mx_Sn _ _ 125 (mx_lald 126) from sn_73 125) a33 s33 (by omega) (hf15 33 (((x0 * 385) + 385) + z15) rfl) ?_
                          refine mx_J.step (sn_73 126) (fun _ _ => rfl) ?_
                          refine JgetR (g := 2) (b := 33) hx15 (show mx_Sn _ _ 127 (mx_getf 9 2 130) from sn_73 127) a32 s32 rfl rfl (hG15.prr 32 2 rfl) ?_
                          refine mx_J.step (sn_73 130) (fun _ _ => rfl) ?_
                          refine mx_J.step (sn_73 131) (fun _ _ => rfl) ?_
                          refine Jiadd (show mx_Sn _ _ 133 (mx_iadd 134) from sn_73 133) ?_
                          have b21 : (-9223372036854775808) ≤ Z13 33 ((x0 * 385) + w6_4) ∧ Z13 33 ((x0 * 385) + w6_4) ≤ 9223372036854775807 := hG13.pr 33 ((x0 * 385) + w6_4)
                          refine JlaldL (z := Z13 33 ((x0 * 385) + w6_4)) hx15 (show mx_Sn _ _ 134 (mx_lald 135) from sn_73 134) a33 s33 (by omega) (hf15 33 ((x0 * 385) + w6_4) rfl) ?_
                          refine JladdN (show mx_Sn _ _ 135 (mx_ladd 136) from sn_73 135) (fun y22 hy22 hq22 => ?_)
                          refine JlastL hx15 (show mx_Sn _ _ 136 (mx_last 1 137) from sn_73 136) a33 s33 rfl (by omega) (fun Z23 h23 hx23 hE23 => ?_)
                          have hG23 := GI_up hG15 hE23 (show (-9223372036854775808) ≤ y22 ∧ y22 ≤ 9223372036854775807 by omega) trivial rfl
                          exact c137 Z23 h23 hx23 hG23 (fr_tr (M := [(33, (-1))]) fr_rf (fr_ua hE23) (M1 := []) rfl rfl)
                        refine Jicmp_eq (show mx_Sn _ _ 96 (mx_icmp_eq 112 99) from sn_73 96) (by omega) (by omega) (fun q24 => ?_) (fun q24 => ?_)
                        · skip
                          exact c112 
                        · skip
                          refine mx_J.step (sn_73 99) (fun _ _ => rfl) ?_
                          refine JgetR (g := 0) (b := 7) hx15 (show mx_Sn _ _ 100 (mx_getf 9 0 103) from sn_73 100) a32 s32 rfl rfl (hG15.prr 32 0 rfl) ?_
                          refine mx_J.step (sn_73 103) (fun _ _ => rfl) ?_
                          obtain ⟨z25, hc25, b25⟩ := ct_5_7 (d := d + 7) (l := l) (D := D) (b0 := b0) (ad := ad) (Hb := Hb) (tau := tau) hx15 hG15 (show (-2147483648) ≤ z15 ∧ z15 ≤ 2147483647 by omega)
                          have eq26 : Z15 7 5 = Z 7 5 := ((hf15 7 5 rfl).trans ((hf13 7 5 rfl).trans ((hf7 7 5 rfl).trans (hf4 7 5 rfl))))
                          have eq27 : Z15 10 z15 = Z 10 z15 := ((hf15 10 z15 rfl).trans ((hf13 10 z15 rfl).trans ((hf7 10 z15 rfl).trans (hf4 10 z15 rfl))))
                          refine Jcv hx15 (show mx_Sn _ _ 105 (mx_callv 5 2 0 108) from sn_73 105) a7 s7 hc25 rfl rfl rfl ?_
                          refine mx_J.step (sn_73 108) (fun _ _ => rfl) ?_
                          refine Jicmp_ne (show mx_Sn _ _ 109 (mx_icmp_ne 137 112) from sn_73 109) (by omega) (by omega) (fun q28 => ?_) (fun q28 => ?_)
                          · skip
                            exact c137 Z15 h15 hx15 hG15 fr_rf
                          · skip
                            exact c112 
                exact c69 (Int.toNat (19 - 0) + 1) 0 u6_7 Z7 h7 (by omega) (by omega) hx7 hG7 fr_rf
              refine Jlif_le (show mx_Sn _ _ 46 (mx_lif_le 63 50) from sn_73 46) (by omega) (by omega) (fun q29 => ?_) (fun q29 => ?_)
              · skip
                refine JcI (z := (-1)) (show mx_Sn _ _ 63 (mx_const (.int (-1)) 64) from sn_73 63) rfl ?_
                exact c64 (-1) (by omega)
              · skip
                refine mx_J.step (sn_73 50) (fun _ _ => rfl) ?_
                refine JgetR (g := 0) (b := 7) hx7 (show mx_Sn _ _ 51 (mx_getf 9 0 54) from sn_73 51) a32 s32 rfl rfl (hG7.prr 32 0 rfl) ?_
                refine mx_J.step (sn_73 54) (fun _ _ => rfl) ?_
                refine JcI (z := 0) (show mx_Sn _ _ 56 (mx_const (.int 0) 57) from sn_73 56) rfl ?_
                obtain ⟨z30, hc30, b30⟩ := ct_6_7 (d := d + 6) (l := l) (D := D) (b0 := b0) (ad := ad) (Hb := Hb) (tau := tau) hx7 hG7 (show (-2147483648) ≤ w6_4 ∧ w6_4 ≤ 2147483647 by omega) (show (-2147483648) ≤ 0 ∧ 0 ≤ 2147483647 by omega)
                have eq31 : Z7 9 (w6_4 * 18 + 0) = Z 9 (w6_4 * 18 + 0) := ((hf7 9 (w6_4 * 18 + 0) rfl).trans (hf4 9 (w6_4 * 18 + 0) rfl))
                refine Jcv hx7 (show mx_Sn _ _ 57 (mx_callv 6 3 0 60) from sn_73 57) a7 s7 hc30 rfl rfl rfl ?_
                refine mx_J.step (sn_73 60) (fun _ _ => rfl) ?_
                exact c64 z30 (by omega)
        exact c24 (Int.toNat (385 - 0) + 1) 0 none none none Z4 h4 (by omega) (by omega) hx4 hG4 fr_rf
      · skip
        exact c14 Z4 h4 hx4 hG4 (fr_tr (M := [(33, (-1))]) fr_rf (hf4) (M1 := []) rfl rfl)
theorem ct_73_32 {l : Launch} {D : va_G} {b0 : Nat} {ad : Nat → Nat} {Hb : Heap} {tau : Nat → Int64} {d n s : Nat} {S : Nat → xS} {Z : xZ} {h : mx_H} (hx : XH n s S Z h) (hG : GI n S Z) {x0 x1 : Int} (p0 : 0 ≤ x0 ∧ x0 ≤ 8) (p1 : (-1) ≤ x1 ∧ x1 ≤ 18) : ∃ (Z' : xZ) (h' : mx_H), mx_Ca (tB l D b0 ad Hb tau) (d + 9) 73 [.ref 32, xI x0, xI x1] h (none, h') ∧ XH n s S Z' h' ∧ GI n S Z' ∧ fr' [(14, (-1)), (16, (-1)), (17, (-1)), (18, (-1)), (19, (-1)), (33, (-1))] Z Z' := by
  obtain ⟨r, hca, Z', h', e, q⟩ := Jmt (B := tB l D b0 ad Hb tau) (M := mt_73) (mi := 73) (as := [.ref 32, xI x0, xI x1]) (d := d + 8) (ls := [some (.ref 32), some (xI x0), some (xI x1), none, none, none, none, none]) rfl rfl rfl rfl rfl rfl (cw_73_32 (l := l) (D := D) (b0 := b0) (ad := ad) (Hb := Hb) (tau := tau) (d := d) (Post := fun r => ∃ (Z' : xZ) (h' : mx_H), r = (none, h') ∧ XH n s S Z' h' ∧ GI n S Z' ∧ fr' [(14, (-1)), (16, (-1)), (17, (-1)), (18, (-1)), (19, (-1)), (33, (-1))] Z Z') hx hG p0 p1 (fun Z' h' q1 q2 q3 => ⟨Z', h', rfl, q1, q2, q3⟩))
  subst e; exact ⟨Z', h', hca, q⟩
set_option maxRecDepth 100000 in
theorem cw_74_32 {l : Launch} {D : va_G} {b0 : Nat} {ad : Nat → Nat} {Hb : Heap} {tau : Nat → Int64} {d n s : Nat} {S : Nat → xS} {Z : xZ} {h : mx_H} {Post : mx_R → Prop} (hx : XH n s S Z h) (hG : GI n S Z) {x0 : Int} (p0 : 0 ≤ x0 ∧ x0 ≤ 6) (hP : ∀ (Z' : xZ) (h' : mx_H), XH n s S Z' h' → GI n S Z' → fr' [(14, (-1)), (15, (-1)), (16, (-1)), (17, (-1)), (18, (-1)), (19, (-1)), (33, (-1))] Z Z' → Post (none, h')) : mx_J (tB l D b0 ad Hb tau) mt_74 (d + 9) 0 [some (.ref 32), some (xI x0), none, none, none, none] [] h Post := by
    have a7 : 7 < n := lt83 hG.1 rfl
    have s7 : S 7 = .inl (0, [2, 2, 2, 2, 0, 0]) := hG.2.1 7 rfl
    have a12 : 12 < n := lt83 hG.1 rfl
    have s12 : S 12 = .inl (4, [2, 2, 0, 2, 2, 2, 2, 2, 2]) := hG.2.1 12 rfl
    have a32 : 32 < n := lt83 hG.1 rfl
    have s32 : S 32 = .inl (9, [2, 2, 2]) := hG.2.1 32 rfl
    have a33 : 33 < n := lt83 hG.1 rfl
    have s33 : S 33 = .inr (.long, 3850, 1) := hG.2.1 33 rfl
    refine mx_J.step (sn_74 0) (fun _ _ => rfl) ?_
    have c14 : ∀  (Z2 : xZ) (h2 : mx_H), XH n s S Z2 h2 → GI n S Z2 → fr' [(33, (-1))] Z Z2 → mx_J (tB l D b0 ad Hb tau) mt_74 (d + 9) 14 [some (.ref 32), some (xI x0), none, none, none, none] [] h2 Post := by
      intro Z2 h2 hx2 hG2 hf2
      exact mx_J.ret (sn_74 14) (fun _ _ => rfl) (hP Z2 h2 hx2 hG2 (fr_tr (M := [(14, (-1)), (15, (-1)), (16, (-1)), (17, (-1)), (18, (-1)), (19, (-1)), (33, (-1))]) fr_rf (hf2) (M1 := []) rfl rfl))
    refine Jif_lt (show mx_Sn _ _ 1 (mx_if_lt 14 4) from sn_74 1) (by omega) (fun q3 => ?_) (fun q3 => ?_)
    · skip
      exact c14 Z h hx hG fr_rf
    · skip
      refine mx_J.step (sn_74 4) (fun _ _ => rfl) ?_
      refine mx_J.step (sn_74 5) (fun _ _ => rfl) ?_
      refine JcI (z := 1) (show mx_Sn _ _ 6 (mx_const (.int 1) 7) from sn_74 6) rfl ?_
      refine Jiadd (show mx_Sn _ _ 7 (mx_iadd 8) from sn_74 7) ?_
      obtain ⟨z4, Z4, h4, hc4, hx4, hG4, hf4, b4⟩ := ct_72_32 (d := d + 8) (l := l) (D := D) (b0 := b0) (ad := ad) (Hb := Hb) (tau := tau) hx hG (show (-2147483648) ≤ x0 + 1 ∧ x0 + 1 ≤ 2147483647 by omega)
      refine Jcv hx (show mx_Sn _ _ 8 (mx_callv 72 2 9 11) from sn_74 8) a32 s32 hc4 rfl rfl rfl ?_
      refine Jif_ne (show mx_Sn _ _ 11 (mx_if_ne 15 14) from sn_74 11) (by omega) (fun q5 => ?_) (fun q5 => ?_)
      · skip
        refine mx_J.step (sn_74 15) (fun _ _ => rfl) ?_
        refine JcI (z := 385) (show mx_Sn _ _ 16 (mx_const (.int 385) 19) from sn_74 16) rfl ?_
        refine Jimul (show mx_Sn _ _ 19 (mx_imul 20) from sn_74 19) ?_
        refine mx_J.step (ls2 := [some (.ref 32), some (xI x0), some (xI (x0 * 385)), none, none, none]) (sn_74 20) (fun _ _ => rfl) ?_
        refine JcI (z := 0) (show mx_Sn _ _ 21 (mx_const (.int 0) 22) from sn_74 21) rfl ?_
        refine mx_J.step (ls2 := [some (.ref 32), some (xI x0), some (xI (x0 * 385)), some (xI 0), none, none]) (sn_74 22) (fun _ _ => rfl) ?_
        have c23 : ∀ (m6 : Nat) (w6_3 : Int) (u6_4 : Option Value) (u6_5 : Option Value) (Z7 : xZ) (h7 : mx_H), 385 - w6_3 < (m6 : Int) → 0 ≤ w6_3 ∧ w6_3 ≤ 385 → XH n s S Z7 h7 → GI n S Z7 → fr' [(14, (-1)), (15, (-1)), (16, (-1)), (17, (-1)), (18, (-1)), (19, (-1)), (33, (-1))] Z4 Z7 → mx_J (tB l D b0 ad Hb tau) mt_74 (d + 9) 23 [some (.ref 32), some (xI x0), some (xI (x0 * 385)), some (xI w6_3), u6_4, u6_5] [] h7 Post := by
          intro m6
          induction m6 with
          | zero => intro w6_3 u6_4 u6_5 Z7 h7 q6 f6_0 hx7 hG7 hf7; exact absurd q6 (by omega)
          | succ m6 ih6 =>
            intro w6_3 u6_4 u6_5 Z7 h7 q6 f6_0 hx7 hG7 hf7
            refine mx_J.step (sn_74 23) (fun _ _ => rfl) ?_
            refine mx_J.step (sn_74 24) (fun _ _ => rfl) ?_
            refine JgetR (g := 0) (b := 7) hx7 (show mx_Sn _ _ 25 (mx_getf 9 0 28) from sn_74 25) a32 s32 rfl rfl (hG7.prr 32 0 rfl) ?_
            have b8 : 0 ≤ Z 7 5 ∧ Z 7 5 ≤ 385 := hG.pr 7 5
            refine JgetI (g := 5) (z := Z 7 5) hx7 (show mx_Sn _ _ 28 (mx_getf 0 5 31) from sn_74 28) a7 s7 rfl rfl ((hf7 7 5 rfl).trans (hf4 7 5 rfl)) ?_
            refine Jicmp_ge (show mx_Sn _ _ 31 (mx_icmp_ge 110 34) from sn_74 31) (by omega) (by omega) (fun q9 => ?_) (fun q9 => ?_)
            · skip
              exact mx_J.ret (sn_74 110) (fun _ _ => rfl) (hP Z7 h7 hx7 hG7 (fr_tr (M := [(14, (-1)), (15, (-1)), (16, (-1)), (17, (-1)), (18, (-1)), (19, (-1)), (33, (-1))]) (fr_tr (M := [(14, (-1)), (15, (-1)), (16, (-1)), (17, (-1)), (18, (-1)), (19, (-1)), (33, (-1))]) fr_rf (hf4) (M1 := []) rfl rfl) (hf7) rfl rfl))
            · skip
              refine JcI (z := 0) (show mx_Sn _ _ 34 (mx_const (.int 0) 35) from sn_74 34) rfl ?_
              refine mx_J.step (ls2 := [some (.ref 32), some (xI x0), some (xI (x0 * 385)), some (xI w6_3), some (xI 0), u6_5]) (sn_74 35) (fun _ _ => rfl) ?_
              have c37 : ∀ (m10 : Nat) (w10_4 : Int) (u10_5 : Option Value) (Z11 : xZ) (h11 : mx_H), 10 - w10_4 < (m10 : Int) → 0 ≤ w10_4 ∧ w10_4 ≤ 10 → XH n s S Z11 h11 → GI n S Z11 → fr' [(14, (-1)), (15, (-1)), (16, (-1)), (17, (-1)), (18, (-1)), (19, (-1)), (33, (-1))] Z7 Z11 → mx_J (tB l D b0 ad Hb tau) mt_74 (d + 9) 37 [some (.ref 32), some (xI x0), some (xI (x0 * 385)), some (xI w6_3), some (xI w10_4), u10_5] [] h11 Post := by
                intro m10
                induction m10 with
                | zero => intro w10_4 u10_5 Z11 h11 q10 f10_0 hx11 hG11 hf11; exact absurd q10 (by omega)
                | succ m10 ih10 =>
                  intro w10_4 u10_5 Z11 h11 q10 f10_0 hx11 hG11 hf11
                  refine mx_J.step (sn_74 37) (fun _ _ => rfl) ?_
                  refine JcI (z := 10) (show mx_Sn _ _ 39 (mx_const (.int 10) 41) from sn_74 39) rfl ?_
                  have c104 : mx_J (tB l D b0 ad Hb tau) mt_74 (d + 9) 104 [some (.ref 32), some (xI x0), some (xI (x0 * 385)), some (xI w6_3), some (xI w10_4), u10_5] [] h11 Post := by
                    refine Jiinc (z := w6_3) (cz := 1) (ls2 := [some (.ref 32), some (xI x0), some (xI (x0 * 385)), some (xI (w6_3 + 1)), some (xI w10_4), u10_5]) (show mx_Sn _ _ 104 (mx_iinc 3 1 107) from sn_74 104) rfl rfl rfl rfl ?_
                    refine mx_J.step (sn_74 107) (fun _ _ => rfl) ?_
                    exact ih6 (w6_3 + 1) (some (xI w10_4)) u10_5 Z11 h11 (by omega) (by omega) hx11 hG11 (fr_tr (M := [(14, (-1)), (15, (-1)), (16, (-1)), (17, (-1)), (18, (-1)), (19, (-1)), (33, (-1))]) (fr_tr (M := [(14, (-1)), (15, (-1)), (16, (-1)), (17, (-1)), (18, (-1)), (19, (-1)), (33, (-1))]) fr_rf (hf7) (M1 := []) rfl rfl) (hf11) rfl rfl)
                  refine Jicmp_ge (show mx_Sn _ _ 41 (mx_icmp_ge 104 44) from sn_74 41) (by omega) (by omega) (fun q13 => ?_) (fun q13 => ?_)
                  · skip
                    exact c104 
                  · skip
                    refine mx_J.step (sn_74 44) (fun _ _ => rfl) ?_
                    refine JgetR (g := 2) (b := 33) hx11 (show mx_Sn _ _ 45 (mx_getf 9 2 48) from sn_74 45) a32 s32 rfl rfl (hG11.prr 32 2 rfl) ?_
                    refine mx_J.step (sn_74 48) (fun _ _ => rfl) ?_
                    refine mx_J.step (sn_74 49) (fun _ _ => rfl) ?_
                    refine Jiadd (show mx_Sn _ _ 50 (mx_iadd 51) from sn_74 50) ?_
                    have b14 : (-9223372036854775808) ≤ Z11 33 ((x0 * 385) + w6_3) ∧ Z11 33 ((x0 * 385) + w6_3) ≤ 9223372036854775807 := hG11.pr 33 ((x0 * 385) + w6_3)
                    refine JlaldL (z := Z11 33 ((x0 * 385) + w6_3)) hx11 (show mx_Sn _ _ 51 (mx_lald 52) from sn_74 51) a33 s33 (by omega) rfl ?_
                    refine JcL (z := 0) (show mx_Sn _ _ 52 (mx_const (.long 0) 53) from sn_74 52) rfl ?_
                    refine Jlif_le (show mx_Sn _ _ 53 (mx_lif_le 104 57) from sn_74 53) (by omega) (by omega) (fun q15 => ?_) (fun q15 => ?_)
                    · skip
                      exact c104 
                    · skip
                      refine mx_J.step (sn_74 57) (fun _ _ => rfl) ?_
                      refine JgetR (g := 1) (b := 12) hx11 (show mx_Sn _ _ 58 (mx_getf 9 1 61) from sn_74 58) a32 s32 rfl rfl (hG11.prr 32 1 rfl) ?_
                      refine mx_J.step (sn_74 61) (fun _ _ => rfl) ?_
                      refine mx_J.step (sn_74 62) (fun _ _ => rfl) ?_
                      obtain ⟨z16, Z16, h16, hc16, hx16, hG16, hf16, b16⟩ := ct_28_12 (d := d + 0) (l := l) (D := D) (b0 := b0) (ad := ad) (Hb := Hb) (tau := tau) hx11 hG11 (show (-2147483648) ≤ w6_3 ∧ w6_3 ≤ 2147483647 by omega) (show (-2147483648) ≤ w10_4 ∧ w10_4 ≤ 2147483647 by omega)
                      refine Jcv hx11 (show mx_Sn _ _ 64 (mx_callv 28 3 4 67) from sn_74 64) a12 s12 hc16 rfl rfl rfl ?_
                      refine mx_J.step (ls2 := [some (.ref 32), some (xI x0), some (xI (x0 * 385)), some (xI w6_3), some (xI w10_4), some (xI z16)]) (sn_74 67) (fun _ _ => rfl) ?_
                      refine mx_J.step (sn_74 69) (fun _ _ => rfl) ?_
                      have c98 : ∀  (Z18 : xZ) (h18 : mx_H), XH n s S Z18 h18 → GI n S Z18 → fr' [(33, (-1))] Z16 Z18 → mx_J (tB l D b0 ad Hb tau) mt_74 (d + 9) 98 [some (.ref 32), some (xI x0), some (xI (x0 * 385)), some (xI w6_3), some (xI w10_4), some (xI z16)] [] h18 Post := by
                        intro Z18 h18 hx18 hG18 hf18
                        refine Jiinc (z := w10_4) (cz := 1) (ls2 := [some (.ref 32), some (xI x0), some (xI (x0 * 385)), some (xI w6_3), some (xI (w10_4 + 1)), some (xI z16)]) (show mx_Sn _ _ 98 (mx_iinc 4 1 101) from sn_74 98) rfl rfl rfl rfl ?_
                        refine mx_J.step (sn_74 101) (fun _ _ => rfl) ?_
                        exact ih10 (w10_4 + 1) (some (xI z16)) Z18 h18 (by omega) (by omega) hx18 hG18 (fr_tr (M := [(14, (-1)), (15, (-1)), (16, (-1)), (17, (-1)), (18, (-1)), (19, (-1)), (33, (-1))]) (fr_tr (M := [(14, (-1)), (15, (-1)), (16, (-1)), (17, (-1)), (18, (-1)), (19, (-1)), (33, (-1))]) (fr_tr (M := [(14, (-1)), (15, (-1)), (16, (-1)), (17, (-1)), (18, (-1)), (19, (-1)), (33, (-1))]) fr_rf (hf11) (M1 := []) rfl rfl) (hf16) rfl rfl) (hf18) rfl rfl)
                      refine Jif_lt (show mx_Sn _ _ 71 (mx_if_lt 98 74) from sn_74 71) (by omega) (fun q19 => ?_) (fun q19 => ?_)
                      · skip
                        exact c98 Z16 h16 hx16 hG16 fr_rf
                      · skip
                        refine mx_J.step (sn_74 74) (fun _ _ => rfl) ?_
                        refine JgetR (g := 2) (b := 33) hx16 (show mx_Sn _ _ 75 (mx_getf 9 2 78) from sn_74 75) a32 s32 rfl rfl (hG16.prr 32 2 rfl) ?_
                        refine mx_J.step (sn_74 78) (fun _ _ => rfl) ?_
                        refine JcI (z := 385) (show mx_Sn _ _ 79 (mx_const (.int 385) 82) from sn_74 79) rfl ?_
                        refine Jiadd (show mx_Sn _ _ 82 (mx_iadd 83) from sn_74 82) ?_
                        refine mx_J.step (sn_74 83) (fun _ _ => rfl) ?_
                        refine Jiadd (show mx_Sn _ _ 85 (mx_iadd 86) from sn_74 85) ?_
                        refine mx_J.step (sn_74 86) (fun _ _ => rfl) ?_
                        have b20 : (-9223372036854775808) ≤ Z11 33 (((x0 * 385) + 385) + z16) ∧ Z11 33 (((x0 * 385) + 385) + z16) ≤ 9223372036854775807 := hG11.pr 33 (((x0 * 385) + 385) + z16)
                        refine JlaldL (z := Z11 33 (((x0 * 385) + 385) + z16)) hx16 (show mx_Sn _ _ 87 (mx_lald 88) from sn_74 87) a33 s33 (by omega) (hf16 33 (((x0 * 385) + 385) + z16) rfl) ?_
                        refine mx_J.step (sn_74 88) (fun _ _ => rfl) ?_
                        refine JgetR (g := 2) (b := 33) hx16 (show mx_Sn _ _ 89 (mx_getf 9 2 92) from sn_74 89) a32 s32 rfl rfl (hG16.prr 32 2 rfl) ?_
                        refine mx_J.step (sn_74 92) (fun _ _ => rfl) ?_
                        refine mx_J.step (sn_74 93) (fun _ _ => rfl) ?_
                        refine Jiadd (show mx_Sn _ _ 94 (mx_iadd 95) from sn_74 94) ?_
                        have b21 : (-9223372036854775808) ≤ Z11 33 ((x0 * 385) + w6_3) ∧ Z11 33 ((x0 * 385) + w6_3) ≤ 9223372036854775807 := hG11.pr 33 ((x0 * 385) + w6_3)
                        refine JlaldL (z := Z11 33 ((x0 * 385) + w6_3)) hx16 (show mx_Sn _ _ 95 (mx_lald 96) from sn_74 95) a33 s33 (by omega) (hf16 33 ((x0 * 385) + w6_3) rfl) ?_
                        refine JladdN (show mx_Sn _ _ 96 (mx_ladd 97) from sn_74 96) (fun y22 hy22 hq22 => ?_)
                        refine JlastL hx16 (show mx_Sn _ _ 97 (mx_last 1 98) from sn_74 97) a33 s33 rfl (by omega) (fun Z23 h23 hx23 hE23 => ?_)
                        have hG23 := GI_up hG16 hE23 (show (-9223372036854775808) ≤ y22 ∧ y22 ≤ 9223372036854775807 by omega) trivial rfl
                        exact c98 Z23 h23 hx23 hG23 (fr_tr (M := [(33, (-1))]) fr_rf (fr_ua hE23) (M1 := []) rfl rfl)
              exact c37 (Int.toNat (10 - 0) + 1) 0 u6_5 Z7 h7 (by omega) (by omega) hx7 hG7 fr_rf
        exact c23 (Int.toNat (385 - 0) + 1) 0 none none Z4 h4 (by omega) (by omega) hx4 hG4 fr_rf
      · skip
        exact c14 Z4 h4 hx4 hG4 (fr_tr (M := [(33, (-1))]) fr_rf (hf4) (M1 := []) rfl rfl)
theorem ct_74_32 {l : Launch} {D : va_G} {b0 : Nat} {ad : Nat → Nat} {Hb : Heap} {tau : Nat → Int64} {d n s : Nat} {S : Nat → xS} {Z : xZ} {h : mx_H} (hx : XH n s S Z h) (hG : GI n S Z) {x0 : Int} (p0 : 0 ≤ x0 ∧ x0 ≤ 6) : ∃ (Z' : xZ) (h' : mx_H), mx_Ca (tB l D b0 ad Hb tau) (d + 10) 74 [.ref 32, xI x0] h (none, h') ∧ XH n s S Z' h' ∧ GI n S Z' ∧ fr' [(14, (-1)), (15, (-1)), (16, (-1)), (17, (-1)), (18, (-1)), (19, (-1)), (33, (-1))] Z Z' := by
  obtain ⟨r, hca, Z', h', e, q⟩ := Jmt (B := tB l D b0 ad Hb tau) (M := mt_74) (mi := 74) (as := [.ref 32, xI x0]) (d := d + 9) (ls := [some (.ref 32), some (xI x0), none, none, none, none]) rfl rfl rfl rfl rfl rfl (cw_74_32 (l := l) (D := D) (b0 := b0) (ad := ad) (Hb := Hb) (tau := tau) (d := d) (Post := fun r => ∃ (Z' : xZ) (h' : mx_H), r = (none, h') ∧ XH n s S Z' h' ∧ GI n S Z' ∧ fr' [(14, (-1)), (15, (-1)), (16, (-1)), (17, (-1)), (18, (-1)), (19, (-1)), (33, (-1))] Z Z') hx hG p0 (fun Z' h' q1 q2 q3 => ⟨Z', h', rfl, q1, q2, q3⟩))
  subst e; exact ⟨Z', h', hca, q⟩
set_option maxRecDepth 100000 in
theorem cw_75_32 {l : Launch} {D : va_G} {b0 : Nat} {ad : Nat → Nat} {Hb : Heap} {tau : Nat → Int64} {d n s : Nat} {S : Nat → xS} {Z : xZ} {h : mx_H} {Post : mx_R → Prop} (hx : XH n s S Z h) (hG : GI n S Z) {x0 x1 x2 : Int} (p0 : 0 ≤ x0 ∧ x0 ≤ 9) (p1 : 1 ≤ x1 ∧ x1 ≤ 18) (p2 : 1 ≤ x2 ∧ x2 ≤ 18) (hP : ∀ z : Int, (-9223372036854775808) ≤ z ∧ z ≤ 9223372036854775807 → Post (some (xL z), h)) : mx_J (tB l D b0 ad Hb tau) mt_75 (d + 1) 0 [some (.ref 32), some (xI x0), some (xI x1), some (xI x2), none, none, none] [] h Post := by
    have a7 : 7 < n := lt83 hG.1 rfl
    have s7 : S 7 = .inl (0, [2, 2, 2, 2, 0, 0]) := hG.2.1 7 rfl
    have a32 : 32 < n := lt83 hG.1 rfl
    have s32 : S 32 = .inl (9, [2, 2, 2]) := hG.2.1 32 rfl
    have a33 : 33 < n := lt83 hG.1 rfl
    have s33 : S 33 = .inr (.long, 3850, 1) := hG.2.1 33 rfl
    refine JcL (z := 0) (show mx_Sn _ _ 0 (mx_const (.long 0) 1) from sn_75 0) rfl ?_
    refine mx_J.step (ls2 := [some (.ref 32), some (xI x0), some (xI x1), some (xI x2), some (xL 0), none, none]) (sn_75 1) (fun _ _ => rfl) ?_
    refine JcI (z := 0) (show mx_Sn _ _ 3 (mx_const (.int 0) 4) from sn_75 3) rfl ?_
    refine mx_J.step (ls2 := [some (.ref 32), some (xI x0), some (xI x1), some (xI x2), some (xL 0), none, some (xI 0)]) (sn_75 4) (fun _ _ => rfl) ?_
    have c6 : ∀ (m1 : Nat) (w1_4 : Int) (w1_6 : Int), 385 - w1_6 < (m1 : Int) → (-9223372036854775808) ≤ w1_4 ∧ w1_4 ≤ 9223372036854775807 → 0 ≤ w1_6 ∧ w1_6 ≤ 385 → mx_J (tB l D b0 ad Hb tau) mt_75 (d + 1) 6 [some (.ref 32), some (xI x0), some (xI x1), some (xI x2), some (xL w1_4), none, some (xI w1_6)] [] h Post := by
      intro m1
      induction m1 with
      | zero => intro w1_4 w1_6 q1 f1_0 f1_1; exact absurd q1 (by omega)
      | succ m1 ih1 =>
        intro w1_4 w1_6 q1 f1_0 f1_1
        refine mx_J.step (sn_75 6) (fun _ _ => rfl) ?_
        refine mx_J.step (sn_75 8) (fun _ _ => rfl) ?_
        refine JgetR (g := 0) (b := 7) hx (show mx_Sn _ _ 9 (mx_getf 9 0 12) from sn_75 9) a32 s32 rfl rfl (hG.prr 32 0 rfl) ?_
        have b2 : 0 ≤ Z 7 5 ∧ Z 7 5 ≤ 385 := hG.pr 7 5
        refine JgetI (g := 5) (z := Z 7 5) hx (show mx_Sn _ _ 12 (mx_getf 0 5 15) from sn_75 12) a7 s7 rfl rfl rfl ?_
        refine Jicmp_ge (show mx_Sn _ _ 15 (mx_icmp_ge 68 18) from sn_75 15) (by omega) (by omega) (fun q3 => ?_) (fun q3 => ?_)
        · skip
          refine mx_J.step (sn_75 68) (fun _ _ => rfl) ?_
          exact mx_J.ret (sn_75 70) (fun _ _ => rfl) (hP w1_4 (by omega))
        · skip
          refine mx_J.step (sn_75 18) (fun _ _ => rfl) ?_
          refine JgetR (g := 0) (b := 7) hx (show mx_Sn _ _ 19 (mx_getf 9 0 22) from sn_75 19) a32 s32 rfl rfl (hG.prr 32 0 rfl) ?_
          refine mx_J.step (sn_75 22) (fun _ _ => rfl) ?_
          obtain ⟨z4, hc4, b4⟩ := ct_5_7 (d := d + 0) (l := l) (D := D) (b0 := b0) (ad := ad) (Hb := Hb) (tau := tau) hx hG (show (-2147483648) ≤ w1_6 ∧ w1_6 ≤ 2147483647 by omega)
          refine Jcv hx (show mx_Sn _ _ 24 (mx_callv 5 2 0 27) from sn_75 24) a7 s7 hc4 rfl rfl rfl ?_
          refine mx_J.step (sn_75 27) (fun _ _ => rfl) ?_
          have c62 : ∀ (w5_4 : Int), (-9223372036854775808) ≤ w5_4 ∧ w5_4 ≤ 9223372036854775807 → mx_J (tB l D b0 ad Hb tau) mt_75 (d + 1) 62 [some (.ref 32), some (xI x0), some (xI x1), some (xI x2), some (xL w5_4), none, some (xI w1_6)] [] h Post := by
            intro w5_4 f5_0
            refine Jiinc (z := w1_6) (cz := 1) (ls2 := [some (.ref 32), some (xI x0), some (xI x1), some (xI x2), some (xL w5_4), none, some (xI (w1_6 + 1))]) (show mx_Sn _ _ 62 (mx_iinc 6 1 65) from sn_75 62) rfl rfl rfl rfl ?_
            refine mx_J.step (sn_75 65) (fun _ _ => rfl) ?_
            exact ih1 w5_4 (w1_6 + 1) (by omega) (by omega) (by omega)
          refine Jicmp_lt (show mx_Sn _ _ 28 (mx_icmp_lt 62 31) from sn_75 28) (by omega) (by omega) (fun q6 => ?_) (fun q6 => ?_)
          · skip
            exact c62 w1_4 (by omega)
          · skip
            refine mx_J.step (sn_75 31) (fun _ _ => rfl) ?_
            refine JgetR (g := 0) (b := 7) hx (show mx_Sn _ _ 32 (mx_getf 9 0 35) from sn_75 32) a32 s32 rfl rfl (hG.prr 32 0 rfl) ?_
            refine mx_J.step (sn_75 35) (fun _ _ => rfl) ?_
            obtain ⟨z7, hc7, b7⟩ := ct_5_7 (d := d + 0) (l := l) (D := D) (b0 := b0) (ad := ad) (Hb := Hb) (tau := tau) hx hG (show (-2147483648) ≤ w1_6 ∧ w1_6 ≤ 2147483647 by omega)
            refine Jcv hx (show mx_Sn _ _ 37 (mx_callv 5 2 0 40) from sn_75 37) a7 s7 hc7 rfl rfl rfl ?_
            refine mx_J.step (sn_75 40) (fun _ _ => rfl) ?_
            refine Jicmp_gt (show mx_Sn _ _ 41 (mx_icmp_gt 62 44) from sn_75 41) (by omega) (by omega) (fun q8 => ?_) (fun q8 => ?_)
            · skip
              exact c62 w1_4 (by omega)
            · skip
              refine mx_J.step (sn_75 44) (fun _ _ => rfl) ?_
              refine mx_J.step (sn_75 46) (fun _ _ => rfl) ?_
              refine JgetR (g := 2) (b := 33) hx (show mx_Sn _ _ 47 (mx_getf 9 2 50) from sn_75 47) a32 s32 rfl rfl (hG.prr 32 2 rfl) ?_
              refine mx_J.step (sn_75 50) (fun _ _ => rfl) ?_
              refine JcI (z := 385) (show mx_Sn _ _ 51 (mx_const (.int 385) 54) from sn_75 51) rfl ?_
              refine Jimul (show mx_Sn _ _ 54 (mx_imul 55) from sn_75 54) ?_
              refine mx_J.step (sn_75 55) (fun _ _ => rfl) ?_
              refine Jiadd (show mx_Sn _ _ 57 (mx_iadd 58) from sn_75 57) ?_
              have b9 : (-9223372036854775808) ≤ Z 33 ((x0 * 385) + w1_6) ∧ Z 33 ((x0 * 385) + w1_6) ≤ 9223372036854775807 := hG.pr 33 ((x0 * 385) + w1_6)
              refine JlaldL (z := Z 33 ((x0 * 385) + w1_6)) hx (show mx_Sn _ _ 58 (mx_lald 59) from sn_75 58) a33 s33 (by omega) rfl ?_
              refine JladdN (show mx_Sn _ _ 59 (mx_ladd 60) from sn_75 59) (fun y10 hy10 hq10 => ?_)
              refine mx_J.step (ls2 := [some (.ref 32), some (xI x0), some (xI x1), some (xI x2), some (xL y10), none, some (xI w1_6)]) (sn_75 60) (fun _ _ => rfl) ?_
              exact c62 y10 (by omega)
    exact c6 (Int.toNat (385 - 0) + 1) 0 0 (by omega) (by omega) (by omega)
theorem ct_75_32 {l : Launch} {D : va_G} {b0 : Nat} {ad : Nat → Nat} {Hb : Heap} {tau : Nat → Int64} {d n s : Nat} {S : Nat → xS} {Z : xZ} {h : mx_H} (hx : XH n s S Z h) (hG : GI n S Z) {x0 x1 x2 : Int} (p0 : 0 ≤ x0 ∧ x0 ≤ 9) (p1 : 1 ≤ x1 ∧ x1 ≤ 18) (p2 : 1 ≤ x2 ∧ x2 ≤ 18) : ∃ z : Int, mx_Ca (tB l D b0 ad Hb tau) (d + 2) 75 [.ref 32, xI x0, xI x1, xI x2] h (some (xL z), h) ∧ ((-9223372036854775808) ≤ z ∧ z ≤ 9223372036854775807) := by
  obtain ⟨r, hca, z, e, hp⟩ := Jmt (B := tB l D b0 ad Hb tau) (M := mt_75) (mi := 75) (as := [.ref 32, xI x0, xI x1, xI x2]) (d := d + 1) (ls := [some (.ref 32), some (xI x0), some (xI x1), some (xI x2), none, none, none]) rfl rfl rfl rfl rfl rfl (cw_75_32 (l := l) (D := D) (b0 := b0) (ad := ad) (Hb := Hb) (tau := tau) (d := d) (Post := fun r => ∃ z : Int, r = (some (xL z), h) ∧ ((-9223372036854775808) ≤ z ∧ z ≤ 9223372036854775807)) hx hG p0 p1 p2 (fun z hz => ⟨z, rfl, hz⟩))
  subst e; exact ⟨z, hca, hp⟩
set_option maxRecDepth 100000 in
theorem cw_76_32 {l : Launch} {D : va_G} {b0 : Nat} {ad : Nat → Nat} {Hb : Heap} {tau : Nat → Int64} {d n s : Nat} {S : Nat → xS} {Z : xZ} {h : mx_H} {Post : mx_R → Prop} (hx : XH n s S Z h) (hG : GI n S Z) {x0 : Int} (p0 : 0 ≤ x0 ∧ x0 ≤ 7) (hP : ∀ z : Int, (-9223372036854775808) ≤ z ∧ z ≤ 9223372036854775807 → Post (some (xL z), h)) : mx_J (tB l D b0 ad Hb tau) mt_76 (d + 2) 0 [some (.ref 32), some (xI x0), none, none, none] [] h Post := by
    have a7 : 7 < n := lt83 hG.1 rfl
    have s7 : S 7 = .inl (0, [2, 2, 2, 2, 0, 0]) := hG.2.1 7 rfl
    have a32 : 32 < n := lt83 hG.1 rfl
    have s32 : S 32 = .inl (9, [2, 2, 2]) := hG.2.1 32 rfl
    have a33 : 33 < n := lt83 hG.1 rfl
    have s33 : S 33 = .inr (.long, 3850, 1) := hG.2.1 33 rfl
    refine JcL (z := 0) (show mx_Sn _ _ 0 (mx_const (.long 0) 1) from sn_76 0) rfl ?_
    refine mx_J.step (ls2 := [some (.ref 32), some (xI x0), some (xL 0), none, none]) (sn_76 1) (fun _ _ => rfl) ?_
    refine JcI (z := 0) (show mx_Sn _ _ 2 (mx_const (.int 0) 3) from sn_76 2) rfl ?_
    refine mx_J.step (ls2 := [some (.ref 32), some (xI x0), some (xL 0), none, some (xI 0)]) (sn_76 3) (fun _ _ => rfl) ?_
    have c5 : ∀ (m1 : Nat) (w1_2 : Int) (w1_4 : Int), 385 - w1_4 < (m1 : Int) → (-9223372036854775808) ≤ w1_2 ∧ w1_2 ≤ 9223372036854775807 → 0 ≤ w1_4 ∧ w1_4 ≤ 385 → mx_J (tB l D b0 ad Hb tau) mt_76 (d + 2) 5 [some (.ref 32), some (xI x0), some (xL w1_2), none, some (xI w1_4)] [] h Post := by
      intro m1
      induction m1 with
      | zero => intro w1_2 w1_4 q1 f1_0 f1_1; exact absurd q1 (by omega)
      | succ m1 ih1 =>
        intro w1_2 w1_4 q1 f1_0 f1_1
        refine mx_J.step (sn_76 5) (fun _ _ => rfl) ?_
        refine mx_J.step (sn_76 7) (fun _ _ => rfl) ?_
        refine JgetR (g := 0) (b := 7) hx (show mx_Sn _ _ 8 (mx_getf 9 0 11) from sn_76 8) a32 s32 rfl rfl (hG.prr 32 0 rfl) ?_
        have b2 : 0 ≤ Z 7 5 ∧ Z 7 5 ≤ 385 := hG.pr 7 5
        refine JgetI (g := 5) (z := Z 7 5) hx (show mx_Sn _ _ 11 (mx_getf 0 5 14) from sn_76 11) a7 s7 rfl rfl rfl ?_
        refine Jicmp_ge (show mx_Sn _ _ 14 (mx_icmp_ge 51 17) from sn_76 14) (by omega) (by omega) (fun q3 => ?_) (fun q3 => ?_)
        · skip
          refine mx_J.step (sn_76 51) (fun _ _ => rfl) ?_
          exact mx_J.ret (sn_76 52) (fun _ _ => rfl) (hP w1_2 (by omega))
        · skip
          refine mx_J.step (sn_76 17) (fun _ _ => rfl) ?_
          refine mx_J.step (sn_76 18) (fun _ _ => rfl) ?_
          refine JgetR (g := 2) (b := 33) hx (show mx_Sn _ _ 19 (mx_getf 9 2 22) from sn_76 19) a32 s32 rfl rfl (hG.prr 32 2 rfl) ?_
          refine mx_J.step (sn_76 22) (fun _ _ => rfl) ?_
          refine JcI (z := 385) (show mx_Sn _ _ 23 (mx_const (.int 385) 26) from sn_76 23) rfl ?_
          refine Jimul (show mx_Sn _ _ 26 (mx_imul 27) from sn_76 26) ?_
          refine mx_J.step (sn_76 27) (fun _ _ => rfl) ?_
          refine Jiadd (show mx_Sn _ _ 29 (mx_iadd 30) from sn_76 29) ?_
          have b4 : (-9223372036854775808) ≤ Z 33 ((x0 * 385) + w1_4) ∧ Z 33 ((x0 * 385) + w1_4) ≤ 9223372036854775807 := hG.pr 33 ((x0 * 385) + w1_4)
          refine JlaldL (z := Z 33 ((x0 * 385) + w1_4)) hx (show mx_Sn _ _ 30 (mx_lald 31) from sn_76 30) a33 s33 (by omega) rfl ?_
          refine mx_J.step (sn_76 31) (fun _ _ => rfl) ?_
          refine JgetR (g := 0) (b := 7) hx (show mx_Sn _ _ 32 (mx_getf 9 0 35) from sn_76 32) a32 s32 rfl rfl (hG.prr 32 0 rfl) ?_
          refine mx_J.step (sn_76 35) (fun _ _ => rfl) ?_
          refine JcI (z := 0) (show mx_Sn _ _ 37 (mx_const (.int 0) 38) from sn_76 37) rfl ?_
          obtain ⟨z5, hc5, b5⟩ := ct_6_7 (d := d + 0) (l := l) (D := D) (b0 := b0) (ad := ad) (Hb := Hb) (tau := tau) hx hG (show (-2147483648) ≤ w1_4 ∧ w1_4 ≤ 2147483647 by omega) (show (-2147483648) ≤ 0 ∧ 0 ≤ 2147483647 by omega)
          refine Jcv hx (show mx_Sn _ _ 38 (mx_callv 6 3 0 41) from sn_76 38) a7 s7 hc5 rfl rfl rfl ?_
          refine Ji2l (show mx_Sn _ _ 41 (mx_i2l 42) from sn_76 41) (by omega) ?_
          refine JlmulN (show mx_Sn _ _ 42 (mx_lmul 43) from sn_76 42) (fun y6 hy6 hq6 => ?_)
          refine JladdN (show mx_Sn _ _ 43 (mx_ladd 44) from sn_76 43) (fun y7 hy7 hq7 => ?_)
          refine mx_J.step (ls2 := [some (.ref 32), some (xI x0), some (xL y7), none, some (xI w1_4)]) (sn_76 44) (fun _ _ => rfl) ?_
          refine Jiinc (z := w1_4) (cz := 1) (ls2 := [some (.ref 32), some (xI x0), some (xL y7), none, some (xI (w1_4 + 1))]) (show mx_Sn _ _ 45 (mx_iinc 4 1 48) from sn_76 45) rfl rfl rfl rfl ?_
          refine mx_J.step (sn_76 48) (fun _ _ => rfl) ?_
          exact ih1 y7 (w1_4 + 1) (by omega) (by omega) (by omega)
    exact c5 (Int.toNat (385 - 0) + 1) 0 0 (by omega) (by omega) (by omega)
theorem ct_76_32 {l : Launch} {D : va_G} {b0 : Nat} {ad : Nat → Nat} {Hb : Heap} {tau : Nat → Int64} {d n s : Nat} {S : Nat → xS} {Z : xZ} {h : mx_H} (hx : XH n s S Z h) (hG : GI n S Z) {x0 : Int} (p0 : 0 ≤ x0 ∧ x0 ≤ 7) : ∃ z : Int, mx_Ca (tB l D b0 ad Hb tau) (d + 3) 76 [.ref 32, xI x0] h (some (xL z), h) ∧ ((-9223372036854775808) ≤ z ∧ z ≤ 9223372036854775807) := by
  obtain ⟨r, hca, z, e, hp⟩ := Jmt (B := tB l D b0 ad Hb tau) (M := mt_76) (mi := 76) (as := [.ref 32, xI x0]) (d := d + 2) (ls := [some (.ref 32), some (xI x0), none, none, none]) rfl rfl rfl rfl rfl rfl (cw_76_32 (l := l) (D := D) (b0 := b0) (ad := ad) (Hb := Hb) (tau := tau) (d := d) (Post := fun r => ∃ z : Int, r = (some (xL z), h) ∧ ((-9223372036854775808) ≤ z ∧ z ≤ 9223372036854775807)) hx hG p0 (fun z hz => ⟨z, rfl, hz⟩))
  subst e; exact ⟨z, hca, hp⟩
set_option maxRecDepth 100000 in
theorem cw_79_32 {l : Launch} {D : va_G} {b0 : Nat} {ad : Nat → Nat} {Hb : Heap} {tau : Nat → Int64} {d n s : Nat} {S : Nat → xS} {Z : xZ} {h : mx_H} {Post : mx_R → Prop} (hx : XH n s S Z h) (hG : GI n S Z) {x0 x1 : Int} (p0 : (-1) ≤ x0 ∧ x0 ≤ 384) (p1 : 0 ≤ x1 ∧ x1 ≤ 8) (hP : ∀ z : Int, 0 ≤ z ∧ z ≤ 1 → Post (some (xI z), h)) : mx_J (tB l D b0 ad Hb tau) mt_79 (d + 0) 0 [some (.ref 32), some (xI x0), some (xI x1)] [] h Post := by
    have a32 : 32 < n := lt83 hG.1 rfl
    have s32 : S 32 = .inl (9, [2, 2, 2]) := hG.2.1 32 rfl
    have a33 : 33 < n := lt83 hG.1 rfl
    have s33 : S 33 = .inr (.long, 3850, 1) := hG.2.1 33 rfl
    refine mx_J.step (sn_79 0) (fun _ _ => rfl) ?_
    have c28 : ∀ (k1_0 : Int), 0 ≤ k1_0 ∧ k1_0 ≤ 1 → mx_J (tB l D b0 ad Hb tau) mt_79 (d + 0) 28 [some (.ref 32), some (xI x0), some (xI x1)] [xI k1_0] h Post := by
      intro k1_0 f1_0
      exact mx_J.ret (show mx_Sn _ _ 28 (mx_zret) from sn_79 28) (fun _ _ => zr_ok (by omega)) (hP k1_0 (by omega))
    have c27 : mx_J (tB l D b0 ad Hb tau) mt_79 (d + 0) 27 [some (.ref 32), some (xI x0), some (xI x1)] [] h Post := by
      refine JcI (z := 0) (show mx_Sn _ _ 27 (mx_const (.int 0) 28) from sn_79 27) rfl ?_
      exact c28 0 (by omega)
    refine Jif_lt (show mx_Sn _ _ 1 (mx_if_lt 27 4) from sn_79 1) (by omega) (fun q3 => ?_) (fun q3 => ?_)
    · skip
      exact c27 
    · skip
      refine mx_J.step (sn_79 4) (fun _ _ => rfl) ?_
      refine JgetR (g := 2) (b := 33) hx (show mx_Sn _ _ 5 (mx_getf 9 2 8) from sn_79 5) a32 s32 rfl rfl (hG.prr 32 2 rfl) ?_
      refine mx_J.step (sn_79 8) (fun _ _ => rfl) ?_
      refine JcI (z := 1) (show mx_Sn _ _ 9 (mx_const (.int 1) 10) from sn_79 9) rfl ?_
      refine Jiadd (show mx_Sn _ _ 10 (mx_iadd 11) from sn_79 10) ?_
      refine JcI (z := 385) (show mx_Sn _ _ 11 (mx_const (.int 385) 14) from sn_79 11) rfl ?_
      refine Jimul (show mx_Sn _ _ 14 (mx_imul 15) from sn_79 14) ?_
      refine mx_J.step (sn_79 15) (fun _ _ => rfl) ?_
      refine Jiadd (show mx_Sn _ _ 16 (mx_iadd 17) from sn_79 16) ?_
      have b4 : (-9223372036854775808) ≤ Z 33 (((x1 + 1) * 385) + x0) ∧ Z 33 (((x1 + 1) * 385) + x0) ≤ 9223372036854775807 := hG.pr 33 (((x1 + 1) * 385) + x0)
      refine JlaldL (z := Z 33 (((x1 + 1) * 385) + x0)) hx (show mx_Sn _ _ 17 (mx_lald 18) from sn_79 17) a33 s33 (by omega) rfl ?_
      refine JcL (z := 0) (show mx_Sn _ _ 18 (mx_const (.long 0) 19) from sn_79 18) rfl ?_
      refine Jlif_le (show mx_Sn _ _ 19 (mx_lif_le 27 23) from sn_79 19) (by omega) (by omega) (fun q5 => ?_) (fun q5 => ?_)
      · skip
        exact c27 
      · skip
        refine JcI (z := 1) (show mx_Sn _ _ 23 (mx_const (.int 1) 24) from sn_79 23) rfl ?_
        refine mx_J.step (sn_79 24) (fun _ _ => rfl) ?_
        exact c28 1 (by omega)
theorem ct_79_32 {l : Launch} {D : va_G} {b0 : Nat} {ad : Nat → Nat} {Hb : Heap} {tau : Nat → Int64} {d n s : Nat} {S : Nat → xS} {Z : xZ} {h : mx_H} (hx : XH n s S Z h) (hG : GI n S Z) {x0 x1 : Int} (p0 : (-1) ≤ x0 ∧ x0 ≤ 384) (p1 : 0 ≤ x1 ∧ x1 ≤ 8) : ∃ z : Int, mx_Ca (tB l D b0 ad Hb tau) (d + 1) 79 [.ref 32, xI x0, xI x1] h (some (xI z), h) ∧ (0 ≤ z ∧ z ≤ 1) := by
  obtain ⟨r, hca, z, e, hp⟩ := Jmt (B := tB l D b0 ad Hb tau) (M := mt_79) (mi := 79) (as := [.ref 32, xI x0, xI x1]) (d := d + 0) (ls := [some (.ref 32), some (xI x0), some (xI x1)]) rfl rfl rfl rfl rfl rfl (cw_79_32 (l := l) (D := D) (b0 := b0) (ad := ad) (Hb := Hb) (tau := tau) (d := d) (Post := fun r => ∃ z : Int, r = (some (xI z), h) ∧ (0 ≤ z ∧ z ≤ 1)) hx hG p0 p1 (fun z hz => ⟨z, rfl, hz⟩))
  subst e; exact ⟨z, hca, hp⟩
set_option maxRecDepth 100000 in
theorem cw_78_32 {l : Launch} {D : va_G} {b0 : Nat} {ad : Nat → Nat} {Hb : Heap} {tau : Nat → Int64} {d n s : Nat} {S : Nat → xS} {Z : xZ} {h : mx_H} {Post : mx_R → Prop} (hx : XH n s S Z h) (hG : GI n S Z) {x0 x1 : Int} (p0 : (-2147483648) ≤ x0 ∧ x0 ≤ 2147483647) (p1 : 0 ≤ x1 ∧ x1 ≤ 8) (hP : ∀ (z : Int) (Z' : xZ) (h' : mx_H), XH n s S Z' h' → GI n S Z' → fr' [(14, (-1)), (16, (-1)), (17, (-1)), (18, (-1)), (19, (-1))] Z Z' → (-1) ≤ z ∧ z ≤ 18 → Post (some (xI z), h')) : mx_J (tB l D b0 ad Hb tau) mt_78 (d + 8) 0 [some (.ref 32), some (xI x0), some (xI x1), none, none] [] h Post := by
    have a7 : 7 < n := lt83 hG.1 rfl
    have s7 : S 7 = .inl (0, [2, 2, 2, 2, 0, 0]) := hG.2.1 7 rfl
    have a12 : 12 < n := lt83 hG.1 rfl
    have s12 : S 12 = .inl (4, [2, 2, 0, 2, 2, 2, 2, 2, 2]) := hG.2.1 12 rfl
    have a32 : 32 < n := lt83 hG.1 rfl
    have s32 : S 32 = .inl (9, [2, 2, 2]) := hG.2.1 32 rfl
    refine mx_J.step (sn_78 0) (fun _ _ => rfl) ?_
    refine JgetR (g := 0) (b := 7) hx (show mx_Sn _ _ 1 (mx_getf 9 0 4) from sn_78 1) a32 s32 rfl rfl (hG.prr 32 0 rfl) ?_
    refine mx_J.step (sn_78 4) (fun _ _ => rfl) ?_
    refine JcI (z := 0) (show mx_Sn _ _ 5 (mx_const (.int 0) 6) from sn_78 5) rfl ?_
    obtain ⟨z1, hc1, b1⟩ := ct_6_7 (d := d + 6) (l := l) (D := D) (b0 := b0) (ad := ad) (Hb := Hb) (tau := tau) hx hG (show (-2147483648) ≤ x0 ∧ x0 ≤ 2147483647 by omega) (show (-2147483648) ≤ 0 ∧ 0 ≤ 2147483647 by omega)
    refine Jcv hx (show mx_Sn _ _ 6 (mx_callv 6 3 0 9) from sn_78 6) a7 s7 hc1 rfl rfl rfl ?_
    refine mx_J.step (ls2 := [some (.ref 32), some (xI x0), some (xI x1), some (xI z1), none]) (sn_78 9) (fun _ _ => rfl) ?_
    refine JcI (z := 0) (show mx_Sn _ _ 10 (mx_const (.int 0) 11) from sn_78 10) rfl ?_
    refine mx_J.step (ls2 := [some (.ref 32), some (xI x0), some (xI x1), some (xI z1), some (xI 0)]) (sn_78 11) (fun _ _ => rfl) ?_
    have c13 : ∀ (m2 : Nat) (w2_4 : Int) (Z3 : xZ) (h3 : mx_H), 19 - w2_4 < (m2 : Int) → 0 ≤ w2_4 ∧ w2_4 ≤ 19 → XH n s S Z3 h3 → GI n S Z3 → fr' [(14, (-1)), (16, (-1)), (17, (-1)), (18, (-1)), (19, (-1))] Z Z3 → mx_J (tB l D b0 ad Hb tau) mt_78 (d + 8) 13 [some (.ref 32), some (xI x0), some (xI x1), some (xI z1), some (xI w2_4)] [] h3 Post := by
      intro m2
      induction m2 with
      | zero => intro w2_4 Z3 h3 q2 f2_0 hx3 hG3 hf3; exact absurd q2 (by omega)
      | succ m2 ih2 =>
        intro w2_4 Z3 h3 q2 f2_0 hx3 hG3 hf3
        refine mx_J.step (sn_78 13) (fun _ _ => rfl) ?_
        refine mx_J.step (sn_78 15) (fun _ _ => rfl) ?_
        refine Jicmp_gt (show mx_Sn _ _ 16 (mx_icmp_gt 46 19) from sn_78 16) (by omega) (by omega) (fun q4 => ?_) (fun q4 => ?_)
        · skip
          refine JcI (z := (-1)) (show mx_Sn _ _ 46 (mx_const (.int (-1)) 47) from sn_78 46) rfl ?_
          exact mx_J.ret (sn_78 47) (fun _ _ => rfl) (hP (-1) Z3 h3 hx3 hG3 (fr_tr (M := [(14, (-1)), (16, (-1)), (17, (-1)), (18, (-1)), (19, (-1))]) fr_rf (hf3) (M1 := []) rfl rfl) (by omega))
        · skip
          refine mx_J.step (sn_78 19) (fun _ _ => rfl) ?_
          refine mx_J.step (sn_78 20) (fun _ _ => rfl) ?_
          refine JgetR (g := 1) (b := 12) hx3 (show mx_Sn _ _ 21 (mx_getf 9 1 24) from sn_78 21) a32 s32 rfl rfl (hG3.prr 32 1 rfl) ?_
          refine mx_J.step (sn_78 24) (fun _ _ => rfl) ?_
          refine mx_J.step (sn_78 25) (fun _ _ => rfl) ?_
          obtain ⟨z5, Z5, h5, hc5, hx5, hG5, hf5, b5⟩ := ct_26_12 (d := d + 0) (l := l) (D := D) (b0 := b0) (ad := ad) (Hb := Hb) (tau := tau) hx3 hG3 (show (-2147483648) ≤ x0 ∧ x0 ≤ 2147483647 by omega) (show (-2147483648) ≤ w2_4 ∧ w2_4 ≤ 2147483647 by omega)
          refine Jcv hx3 (show mx_Sn _ _ 27 (mx_callv 26 3 4 30) from sn_78 27) a12 s12 hc5 rfl rfl rfl ?_
          refine mx_J.step (sn_78 30) (fun _ _ => rfl) ?_
          obtain ⟨z6, hc6, b6⟩ := ct_79_32 (d := d + 7) (l := l) (D := D) (b0 := b0) (ad := ad) (Hb := Hb) (tau := tau) hx5 hG5 (show (-1) ≤ z5 ∧ z5 ≤ 384 by omega) (show 0 ≤ x1 ∧ x1 ≤ 8 by omega)
          refine Jcv hx5 (show mx_Sn _ _ 31 (mx_callv 79 3 9 34) from sn_78 31) a32 s32 hc6 rfl rfl rfl ?_
          refine Jif_eq (show mx_Sn _ _ 34 (mx_if_eq 40 37) from sn_78 34) (by omega) (fun q7 => ?_) (fun q7 => ?_)
          · skip
            refine Jiinc (z := w2_4) (cz := 1) (ls2 := [some (.ref 32), some (xI x0), some (xI x1), some (xI z1), some (xI (w2_4 + 1))]) (show mx_Sn _ _ 40 (mx_iinc 4 1 43) from sn_78 40) rfl rfl rfl rfl ?_
            refine mx_J.step (sn_78 43) (fun _ _ => rfl) ?_
            exact ih2 (w2_4 + 1) Z5 h5 (by omega) (by omega) hx5 hG5 (fr_tr (M := [(14, (-1)), (16, (-1)), (17, (-1)), (18, (-1)), (19, (-1))]) (fr_tr (M := [(14, (-1)), (16, (-1)), (17, (-1)), (18, (-1)), (19, (-1))]) fr_rf (hf3) (M1 := []) rfl rfl) (hf5) rfl rfl)
          · skip
            refine mx_J.step (sn_78 37) (fun _ _ => rfl) ?_
            exact mx_J.ret (sn_78 39) (fun _ _ => rfl) (hP w2_4 Z5 h5 hx5 hG5 (fr_tr (M := [(14, (-1)), (16, (-1)), (17, (-1)), (18, (-1)), (19, (-1))]) (fr_tr (M := [(14, (-1)), (16, (-1)), (17, (-1)), (18, (-1)), (19, (-1))]) fr_rf (hf3) (M1 := []) rfl rfl) (hf5) rfl rfl) (by omega))
    exact c13 (Int.toNat (19 - 0) + 1) 0 Z h (by omega) (by omega) hx hG fr_rf
theorem ct_78_32 {l : Launch} {D : va_G} {b0 : Nat} {ad : Nat → Nat} {Hb : Heap} {tau : Nat → Int64} {d n s : Nat} {S : Nat → xS} {Z : xZ} {h : mx_H} (hx : XH n s S Z h) (hG : GI n S Z) {x0 x1 : Int} (p0 : (-2147483648) ≤ x0 ∧ x0 ≤ 2147483647) (p1 : 0 ≤ x1 ∧ x1 ≤ 8) : ∃ (z : Int) (Z' : xZ) (h' : mx_H), mx_Ca (tB l D b0 ad Hb tau) (d + 9) 78 [.ref 32, xI x0, xI x1] h (some (xI z), h') ∧ XH n s S Z' h' ∧ GI n S Z' ∧ fr' [(14, (-1)), (16, (-1)), (17, (-1)), (18, (-1)), (19, (-1))] Z Z' ∧ ((-1) ≤ z ∧ z ≤ 18) := by
  obtain ⟨r, hca, z, Z', h', e, q⟩ := Jmt (B := tB l D b0 ad Hb tau) (M := mt_78) (mi := 78) (as := [.ref 32, xI x0, xI x1]) (d := d + 8) (ls := [some (.ref 32), some (xI x0), some (xI x1), none, none]) rfl rfl rfl rfl rfl rfl (cw_78_32 (l := l) (D := D) (b0 := b0) (ad := ad) (Hb := Hb) (tau := tau) (d := d) (Post := fun r => ∃ (z : Int) (Z' : xZ) (h' : mx_H), r = (some (xI z), h') ∧ XH n s S Z' h' ∧ GI n S Z' ∧ fr' [(14, (-1)), (16, (-1)), (17, (-1)), (18, (-1)), (19, (-1))] Z Z' ∧ ((-1) ≤ z ∧ z ≤ 18)) hx hG p0 p1 (fun z Z' h' q1 q2 q3 q4 => ⟨z, Z', h', rfl, q1, q2, q3, q4⟩))
  subst e; exact ⟨z, Z', h', hca, q⟩
set_option maxRecDepth 100000 in
theorem cw_77_32 {l : Launch} {D : va_G} {b0 : Nat} {ad : Nat → Nat} {Hb : Heap} {tau : Nat → Int64} {d n s : Nat} {S : Nat → xS} {Z : xZ} {h : mx_H} {Post : mx_R → Prop} (hx : XH n s S Z h) (hG : GI n S Z) {x0 : Int} (p0 : 1 ≤ x0 ∧ x0 ≤ 8) (hP : ∀ (Z' : xZ) (h' : mx_H), XH n s S Z' h' → GI n S Z' → fr' [(14, (-1)), (16, (-1)), (17, (-1)), (18, (-1)), (19, (-1)), (33, (-1))] Z Z' → Post (none, h')) : mx_J (tB l D b0 ad Hb tau) mt_77 (d + 9) 0 [some (.ref 32), some (xI x0), none, none, none] [] h Post := by
    have a7 : 7 < n := lt83 hG.1 rfl
    have s7 : S 7 = .inl (0, [2, 2, 2, 2, 0, 0]) := hG.2.1 7 rfl
    have a32 : 32 < n := lt83 hG.1 rfl
    have s32 : S 32 = .inl (9, [2, 2, 2]) := hG.2.1 32 rfl
    have a33 : 33 < n := lt83 hG.1 rfl
    have s33 : S 33 = .inr (.long, 3850, 1) := hG.2.1 33 rfl
    refine mx_J.step (sn_77 0) (fun _ _ => rfl) ?_
    refine JcI (z := 9) (show mx_Sn _ _ 1 (mx_const (.int 9) 3) from sn_77 1) rfl ?_
    refine Jmmin (show mx_Sn _ _ 3 (mx_mmin 6) from sn_77 3) (by omega) (by omega) ⟨_, rfl⟩ rfl (fun y1 hy1 => ?_)
    refine JcI (z := 1) (show mx_Sn _ _ 6 (mx_const (.int 1) 7) from sn_77 6) rfl ?_
    refine Jisub (show mx_Sn _ _ 7 (mx_isub 8) from sn_77 7) ?_
    refine mx_J.step (ls2 := [some (.ref 32), some (xI x0), some (xI (y1 - 1)), none, none]) (sn_77 8) (fun _ _ => rfl) ?_
    have c9 : ∀ (m2 : Nat) (w2_2 : Int) (u2_3 : Option Value) (u2_4 : Option Value) (Z3 : xZ) (h3 : mx_H), w2_2 - (-1) < (m2 : Int) → (-1) ≤ w2_2 ∧ w2_2 ≤ 7 → XH n s S Z3 h3 → GI n S Z3 → fr' [(14, (-1)), (16, (-1)), (17, (-1)), (18, (-1)), (19, (-1)), (33, (-1))] Z Z3 → mx_J (tB l D b0 ad Hb tau) mt_77 (d + 9) 9 [some (.ref 32), some (xI x0), some (xI w2_2), u2_3, u2_4] [] h3 Post := by
      intro m2
      induction m2 with
      | zero => intro w2_2 u2_3 u2_4 Z3 h3 q2 f2_0 hx3 hG3 hf3; exact absurd q2 (by omega)
      | succ m2 ih2 =>
        intro w2_2 u2_3 u2_4 Z3 h3 q2 f2_0 hx3 hG3 hf3
        refine mx_J.step (sn_77 9) (fun _ _ => rfl) ?_
        refine Jif_lt (show mx_Sn _ _ 10 (mx_if_lt 76 13) from sn_77 10) (by omega) (fun q4 => ?_) (fun q4 => ?_)
        · skip
          exact mx_J.ret (sn_77 76) (fun _ _ => rfl) (hP Z3 h3 hx3 hG3 (fr_tr (M := [(14, (-1)), (16, (-1)), (17, (-1)), (18, (-1)), (19, (-1)), (33, (-1))]) fr_rf (hf3) (M1 := []) rfl rfl))
        · skip
          refine JcI (z := 0) (show mx_Sn _ _ 13 (mx_const (.int 0) 14) from sn_77 13) rfl ?_
          refine mx_J.step (ls2 := [some (.ref 32), some (xI x0), some (xI w2_2), some (xI 0), u2_4]) (sn_77 14) (fun _ _ => rfl) ?_
          have c15 : ∀ (m5 : Nat) (w5_3 : Int) (u5_4 : Option Value) (Z6 : xZ) (h6 : mx_H), 385 - w5_3 < (m5 : Int) → 0 ≤ w5_3 ∧ w5_3 ≤ 385 → XH n s S Z6 h6 → GI n S Z6 → fr' [(14, (-1)), (16, (-1)), (17, (-1)), (18, (-1)), (19, (-1)), (33, (-1))] Z3 Z6 → mx_J (tB l D b0 ad Hb tau) mt_77 (d + 9) 15 [some (.ref 32), some (xI x0), some (xI w2_2), some (xI w5_3), u5_4] [] h6 Post := by
            intro m5
            induction m5 with
            | zero => intro w5_3 u5_4 Z6 h6 q5 f5_0 hx6 hG6 hf6; exact absurd q5 (by omega)
            | succ m5 ih5 =>
              intro w5_3 u5_4 Z6 h6 q5 f5_0 hx6 hG6 hf6
              refine mx_J.step (sn_77 15) (fun _ _ => rfl) ?_
              refine mx_J.step (sn_77 16) (fun _ _ => rfl) ?_
              refine JgetR (g := 0) (b := 7) hx6 (show mx_Sn _ _ 17 (mx_getf 9 0 20) from sn_77 17) a32 s32 rfl rfl (hG6.prr 32 0 rfl) ?_
              have b7 : 0 ≤ Z 7 5 ∧ Z 7 5 ≤ 385 := hG.pr 7 5
              refine JgetI (g := 5) (z := Z 7 5) hx6 (show mx_Sn _ _ 20 (mx_getf 0 5 23) from sn_77 20) a7 s7 rfl rfl ((hf6 7 5 rfl).trans (hf3 7 5 rfl)) ?_
              refine Jicmp_ge (show mx_Sn _ _ 23 (mx_icmp_ge 70 26) from sn_77 23) (by omega) (by omega) (fun q8 => ?_) (fun q8 => ?_)
              · skip
                refine Jiinc (z := w2_2) (cz := (-1)) (ls2 := [some (.ref 32), some (xI x0), some (xI (w2_2 + (-1))), some (xI w5_3), u5_4]) (show mx_Sn _ _ 70 (mx_iinc 2 (-1) 73) from sn_77 70) rfl rfl rfl rfl ?_
                refine mx_J.step (sn_77 73) (fun _ _ => rfl) ?_
                exact ih2 (w2_2 + (-1)) (some (xI w5_3)) u5_4 Z6 h6 (by omega) (by omega) hx6 hG6 (fr_tr (M := [(14, (-1)), (16, (-1)), (17, (-1)), (18, (-1)), (19, (-1)), (33, (-1))]) (fr_tr (M := [(14, (-1)), (16, (-1)), (17, (-1)), (18, (-1)), (19, (-1)), (33, (-1))]) fr_rf (hf3) (M1 := []) rfl rfl) (hf6) rfl rfl)
              · skip
                refine mx_J.step (sn_77 26) (fun _ _ => rfl) ?_
                refine JcI (z := 385) (show mx_Sn _ _ 27 (mx_const (.int 385) 30) from sn_77 27) rfl ?_
                refine Jimul (show mx_Sn _ _ 30 (mx_imul 31) from sn_77 30) ?_
                refine mx_J.step (sn_77 31) (fun _ _ => rfl) ?_
                refine Jiadd (show mx_Sn _ _ 32 (mx_iadd 33) from sn_77 32) ?_
                refine mx_J.step (ls2 := [some (.ref 32), some (xI x0), some (xI w2_2), some (xI w5_3), some (xI ((w2_2 * 385) + w5_3))]) (sn_77 33) (fun _ _ => rfl) ?_
                refine mx_J.step (sn_77 35) (fun _ _ => rfl) ?_
                refine JgetR (g := 2) (b := 33) hx6 (show mx_Sn _ _ 36 (mx_getf 9 2 39) from sn_77 36) a32 s32 rfl rfl (hG6.prr 32 2 rfl) ?_
                refine mx_J.step (sn_77 39) (fun _ _ => rfl) ?_
                have b9 : (-9223372036854775808) ≤ Z6 33 ((w2_2 * 385) + w5_3) ∧ Z6 33 ((w2_2 * 385) + w5_3) ≤ 9223372036854775807 := hG6.pr 33 ((w2_2 * 385) + w5_3)
                refine JlaldL (z := Z6 33 ((w2_2 * 385) + w5_3)) hx6 (show mx_Sn _ _ 41 (mx_lald 42) from sn_77 41) a33 s33 (by omega) rfl ?_
                refine JcL (z := 0) (show mx_Sn _ _ 42 (mx_const (.long 0) 43) from sn_77 42) rfl ?_
                have c64 : ∀  (Z11 : xZ) (h11 : mx_H), XH n s S Z11 h11 → GI n S Z11 → fr' [(14, (-1)), (16, (-1)), (17, (-1)), (18, (-1)), (19, (-1)), (33, (-1))] Z6 Z11 → mx_J (tB l D b0 ad Hb tau) mt_77 (d + 9) 64 [some (.ref 32), some (xI x0), some (xI w2_2), some (xI w5_3), some (xI ((w2_2 * 385) + w5_3))] [] h11 Post := by
                  intro Z11 h11 hx11 hG11 hf11
                  refine Jiinc (z := w5_3) (cz := 1) (ls2 := [some (.ref 32), some (xI x0), some (xI w2_2), some (xI (w5_3 + 1)), some (xI ((w2_2 * 385) + w5_3))]) (show mx_Sn _ _ 64 (mx_iinc 3 1 67) from sn_77 64) rfl rfl rfl rfl ?_
                  refine mx_J.step (sn_77 67) (fun _ _ => rfl) ?_
                  exact ih5 (w5_3 + 1) (some (xI ((w2_2 * 385) + w5_3))) Z11 h11 (by omega) (by omega) hx11 hG11 (fr_tr (M := [(14, (-1)), (16, (-1)), (17, (-1)), (18, (-1)), (19, (-1)), (33, (-1))]) (fr_tr (M := [(14, (-1)), (16, (-1)), (17, (-1)), (18, (-1)), (19, (-1)), (33, (-1))]) fr_rf (hf6) (M1 := []) rfl rfl) (hf11) rfl rfl)
                refine Jlif_le (show mx_Sn _ _ 43 (mx_lif_le 64 47) from sn_77 43) (by omega) (by omega) (fun q12 => ?_) (fun q12 => ?_)
                · skip
                  exact c64 Z6 h6 hx6 hG6 fr_rf
                · skip
                  refine mx_J.step (sn_77 47) (fun _ _ => rfl) ?_
                  refine mx_J.step (sn_77 48) (fun _ _ => rfl) ?_
                  refine mx_J.step (sn_77 49) (fun _ _ => rfl) ?_
                  obtain ⟨z13, Z13, h13, hc13, hx13, hG13, hf13, b13⟩ := ct_78_32 (d := d + 0) (l := l) (D := D) (b0 := b0) (ad := ad) (Hb := Hb) (tau := tau) hx6 hG6 (show (-2147483648) ≤ w5_3 ∧ w5_3 ≤ 2147483647 by omega) (show 0 ≤ w2_2 ∧ w2_2 ≤ 8 by omega)
                  refine Jcv hx6 (show mx_Sn _ _ 50 (mx_callv 78 3 9 53) from sn_77 50) a32 s32 hc13 rfl rfl rfl ?_
                  refine Jif_ge (show mx_Sn _ _ 53 (mx_if_ge 64 56) from sn_77 53) (by omega) (fun q14 => ?_) (fun q14 => ?_)
                  · skip
                    exact c64 Z13 h13 hx13 hG13 (fr_tr (M := [(14, (-1)), (16, (-1)), (17, (-1)), (18, (-1)), (19, (-1)), (33, (-1))]) fr_rf (hf13) (M1 := []) rfl rfl)
                  · skip
                    refine mx_J.step (sn_77 56) (fun _ _ => rfl) ?_
                    refine JgetR (g := 2) (b := 33) hx13 (show mx_Sn _ _ 57 (mx_getf 9 2 60) from sn_77 57) a32 s32 rfl rfl (hG13.prr 32 2 rfl) ?_
                    refine mx_J.step (sn_77 60) (fun _ _ => rfl) ?_
                    refine JcL (z := 0) (show mx_Sn _ _ 62 (mx_const (.long 0) 63) from sn_77 62) rfl ?_
                    refine JlastL hx13 (show mx_Sn _ _ 63 (mx_last 1 64) from sn_77 63) a33 s33 rfl (by omega) (fun Z15 h15 hx15 hE15 => ?_)
                    have hG15 := GI_up hG13 hE15 (show (-9223372036854775808) ≤ 0 ∧ 0 ≤ 9223372036854775807 by omega) trivial rfl
                    exact c64 Z15 h15 hx15 hG15 (fr_tr (M := [(14, (-1)), (16, (-1)), (17, (-1)), (18, (-1)), (19, (-1)), (33, (-1))]) (fr_tr (M := [(14, (-1)), (16, (-1)), (17, (-1)), (18, (-1)), (19, (-1)), (33, (-1))]) fr_rf (hf13) (M1 := []) rfl rfl) (fr_ua hE15) rfl rfl)
          exact c15 (Int.toNat (385 - 0) + 1) 0 u2_4 Z3 h3 (by omega) (by omega) hx3 hG3 fr_rf
    exact c9 (Int.toNat ((y1 - 1) - (-1)) + 1) (y1 - 1) none none Z h (by omega) (by omega) hx hG fr_rf
theorem ct_77_32 {l : Launch} {D : va_G} {b0 : Nat} {ad : Nat → Nat} {Hb : Heap} {tau : Nat → Int64} {d n s : Nat} {S : Nat → xS} {Z : xZ} {h : mx_H} (hx : XH n s S Z h) (hG : GI n S Z) {x0 : Int} (p0 : 1 ≤ x0 ∧ x0 ≤ 8) : ∃ (Z' : xZ) (h' : mx_H), mx_Ca (tB l D b0 ad Hb tau) (d + 10) 77 [.ref 32, xI x0] h (none, h') ∧ XH n s S Z' h' ∧ GI n S Z' ∧ fr' [(14, (-1)), (16, (-1)), (17, (-1)), (18, (-1)), (19, (-1)), (33, (-1))] Z Z' := by
  obtain ⟨r, hca, Z', h', e, q⟩ := Jmt (B := tB l D b0 ad Hb tau) (M := mt_77) (mi := 77) (as := [.ref 32, xI x0]) (d := d + 9) (ls := [some (.ref 32), some (xI x0), none, none, none]) rfl rfl rfl rfl rfl rfl (cw_77_32 (l := l) (D := D) (b0 := b0) (ad := ad) (Hb := Hb) (tau := tau) (d := d) (Post := fun r => ∃ (Z' : xZ) (h' : mx_H), r = (none, h') ∧ XH n s S Z' h' ∧ GI n S Z' ∧ fr' [(14, (-1)), (16, (-1)), (17, (-1)), (18, (-1)), (19, (-1)), (33, (-1))] Z Z') hx hG p0 (fun Z' h' q1 q2 q3 => ⟨Z', h', rfl, q1, q2, q3⟩))
  subst e; exact ⟨Z', h', hca, q⟩
set_option maxRecDepth 100000 in
theorem cw_80_32 {l : Launch} {D : va_G} {b0 : Nat} {ad : Nat → Nat} {Hb : Heap} {tau : Nat → Int64} {d n s : Nat} {S : Nat → xS} {Z : xZ} {h : mx_H} {Post : mx_R → Prop} (hx : XH n s S Z h) (hG : GI n S Z) {x0 x1 : Int} (p0 : 0 ≤ x0 ∧ x0 ≤ 384) (p1 : 0 ≤ x1 ∧ x1 ≤ 8) (hP : ∀ (z : Int) (Z' : xZ) (h' : mx_H), XH n s S Z' h' → GI n S Z' → fr' [(14, (-1)), (16, (-1)), (17, (-1)), (18, (-1)), (19, (-1))] Z Z' → (-1) ≤ z ∧ z ≤ 18 → Post (some (xI z), h')) : mx_J (tB l D b0 ad Hb tau) mt_80 (d + 9) 0 [some (.ref 32), some (xI x0), some (xI x1), none, none] [] h Post := by
    have a12 : 12 < n := lt83 hG.1 rfl
    have s12 : S 12 = .inl (4, [2, 2, 0, 2, 2, 2, 2, 2, 2]) := hG.2.1 12 rfl
    have a32 : 32 < n := lt83 hG.1 rfl
    have s32 : S 32 = .inl (9, [2, 2, 2]) := hG.2.1 32 rfl
    refine mx_J.step (sn_80 0) (fun _ _ => rfl) ?_
    refine mx_J.step (ls2 := [some (.ref 32), some (xI x0), some (xI x1), some (xI x0), none]) (sn_80 1) (fun _ _ => rfl) ?_
    refine JcI (z := 0) (show mx_Sn _ _ 2 (mx_const (.int 0) 3) from sn_80 2) rfl ?_
    refine mx_J.step (ls2 := [some (.ref 32), some (xI x0), some (xI x1), some (xI x0), some (xI 0)]) (sn_80 3) (fun _ _ => rfl) ?_
    have c5 : ∀ (m1 : Nat) (w1_3 : Int) (w1_4 : Int) (Z2 : xZ) (h2 : mx_H), 8 - w1_4 < (m1 : Int) → (-1) ≤ w1_3 ∧ w1_3 ≤ 384 → 0 ≤ w1_4 ∧ w1_4 ≤ 8 → XH n s S Z2 h2 → GI n S Z2 → fr' [(14, (-1)), (16, (-1)), (17, (-1)), (18, (-1)), (19, (-1))] Z Z2 → mx_J (tB l D b0 ad Hb tau) mt_80 (d + 9) 5 [some (.ref 32), some (xI x0), some (xI x1), some (xI w1_3), some (xI w1_4)] [] h2 Post := by
      intro m1
      induction m1 with
      | zero => intro w1_3 w1_4 Z2 h2 q1 f1_0 f1_1 hx2 hG2 hf2; exact absurd q1 (by omega)
      | succ m1 ih1 =>
        intro w1_3 w1_4 Z2 h2 q1 f1_0 f1_1 hx2 hG2 hf2
        refine mx_J.step (sn_80 5) (fun _ _ => rfl) ?_
        refine mx_J.step (sn_80 7) (fun _ _ => rfl) ?_
        have c37 : mx_J (tB l D b0 ad Hb tau) mt_80 (d + 9) 37 [some (.ref 32), some (xI x0), some (xI x1), some (xI w1_3), some (xI w1_4)] [] h2 Post := by
          refine mx_J.step (sn_80 37) (fun _ _ => rfl) ?_
          have c51 : ∀ (k4_0 : Int) (Z5 : xZ) (h5 : mx_H), (-1) ≤ k4_0 ∧ k4_0 ≤ 18 → XH n s S Z5 h5 → GI n S Z5 → fr' [(14, (-1)), (16, (-1)), (17, (-1)), (18, (-1)), (19, (-1))] Z2 Z5 → mx_J (tB l D b0 ad Hb tau) mt_80 (d + 9) 51 [some (.ref 32), some (xI x0), some (xI x1), some (xI w1_3), some (xI w1_4)] [xI k4_0] h5 Post := by
            intro k4_0 Z5 h5 f4_0 hx5 hG5 hf5
            exact mx_J.ret (sn_80 51) (fun _ _ => rfl) (hP k4_0 Z5 h5 hx5 hG5 (fr_tr (M := [(14, (-1)), (16, (-1)), (17, (-1)), (18, (-1)), (19, (-1))]) (fr_tr (M := [(14, (-1)), (16, (-1)), (17, (-1)), (18, (-1)), (19, (-1))]) fr_rf (hf2) (M1 := []) rfl rfl) (hf5) rfl rfl) (by omega))
          refine Jif_ge (show mx_Sn _ _ 38 (mx_if_ge 45 41) from sn_80 38) (by omega) (fun q6 => ?_) (fun q6 => ?_)
          · skip
            refine mx_J.step (sn_80 45) (fun _ _ => rfl) ?_
            refine mx_J.step (sn_80 46) (fun _ _ => rfl) ?_
            refine mx_J.step (sn_80 47) (fun _ _ => rfl) ?_
            obtain ⟨z7, Z7, h7, hc7, hx7, hG7, hf7, b7⟩ := ct_78_32 (d := d + 0) (l := l) (D := D) (b0 := b0) (ad := ad) (Hb := Hb) (tau := tau) hx2 hG2 (show (-2147483648) ≤ w1_3 ∧ w1_3 ≤ 2147483647 by omega) (show 0 ≤ x1 ∧ x1 ≤ 8 by omega)
            refine Jcv hx2 (show mx_Sn _ _ 48 (mx_callv 78 3 9 51) from sn_80 48) a32 s32 hc7 rfl rfl rfl ?_
            exact c51 z7 Z7 h7 (by omega) hx7 hG7 (fr_tr (M := [(14, (-1)), (16, (-1)), (17, (-1)), (18, (-1)), (19, (-1))]) fr_rf (hf7) (M1 := []) rfl rfl)
          · skip
            refine JcI (z := (-1)) (show mx_Sn _ _ 41 (mx_const (.int (-1)) 42) from sn_80 41) rfl ?_
            refine mx_J.step (sn_80 42) (fun _ _ => rfl) ?_
            exact c51 (-1) Z2 h2 (by omega) hx2 hG2 fr_rf
        refine Jicmp_ge (show mx_Sn _ _ 8 (mx_icmp_ge 37 11) from sn_80 8) (by omega) (by omega) (fun q8 => ?_) (fun q8 => ?_)
        · skip
          exact c37 
        · skip
          refine mx_J.step (sn_80 11) (fun _ _ => rfl) ?_
          refine Jif_lt (show mx_Sn _ _ 12 (mx_if_lt 37 15) from sn_80 12) (by omega) (fun q9 => ?_) (fun q9 => ?_)
          · skip
            exact c37 
          · skip
            refine mx_J.step (sn_80 15) (fun _ _ => rfl) ?_
            refine JgetR (g := 1) (b := 12) hx2 (show mx_Sn _ _ 16 (mx_getf 9 1 19) from sn_80 16) a32 s32 rfl rfl (hG2.prr 32 1 rfl) ?_
            refine mx_J.step (sn_80 19) (fun _ _ => rfl) ?_
            refine mx_J.step (sn_80 20) (fun _ _ => rfl) ?_
            refine mx_J.step (sn_80 21) (fun _ _ => rfl) ?_
            refine mx_J.step (sn_80 22) (fun _ _ => rfl) ?_
            obtain ⟨z10, Z10, h10, hc10, hx10, hG10, hf10, b10⟩ := ct_78_32 (d := d + 0) (l := l) (D := D) (b0 := b0) (ad := ad) (Hb := Hb) (tau := tau) hx2 hG2 (show (-2147483648) ≤ w1_3 ∧ w1_3 ≤ 2147483647 by omega) (show 0 ≤ w1_4 ∧ w1_4 ≤ 8 by omega)
            refine Jcv hx2 (show mx_Sn _ _ 24 (mx_callv 78 3 9 27) from sn_80 24) a32 s32 hc10 rfl rfl rfl ?_
            obtain ⟨z11, Z11, h11, hc11, hx11, hG11, hf11, b11⟩ := ct_26_12 (d := d + 1) (l := l) (D := D) (b0 := b0) (ad := ad) (Hb := Hb) (tau := tau) hx10 hG10 (show (-2147483648) ≤ w1_3 ∧ w1_3 ≤ 2147483647 by omega) (show (-2147483648) ≤ z10 ∧ z10 ≤ 2147483647 by omega)
            refine Jcv hx10 (show mx_Sn _ _ 27 (mx_callv 26 3 4 30) from sn_80 27) a12 s12 hc11 rfl rfl rfl ?_
            refine mx_J.step (ls2 := [some (.ref 32), some (xI x0), some (xI x1), some (xI z11), some (xI w1_4)]) (sn_80 30) (fun _ _ => rfl) ?_
            refine Jiinc (z := w1_4) (cz := 1) (ls2 := [some (.ref 32), some (xI x0), some (xI x1), some (xI z11), some (xI (w1_4 + 1))]) (show mx_Sn _ _ 31 (mx_iinc 4 1 34) from sn_80 31) rfl rfl rfl rfl ?_
            refine mx_J.step (sn_80 34) (fun _ _ => rfl) ?_
            exact ih1 z11 (w1_4 + 1) Z11 h11 (by omega) (by omega) (by omega) hx11 hG11 (fr_tr (M := [(14, (-1)), (16, (-1)), (17, (-1)), (18, (-1)), (19, (-1))]) (fr_tr (M := [(14, (-1)), (16, (-1)), (17, (-1)), (18, (-1)), (19, (-1))]) (fr_tr (M := [(14, (-1)), (16, (-1)), (17, (-1)), (18, (-1)), (19, (-1))]) fr_rf (hf2) (M1 := []) rfl rfl) (hf10) rfl rfl) (hf11) rfl rfl)
    exact c5 (Int.toNat (8 - 0) + 1) x0 0 Z h (by omega) (by omega) (by omega) hx hG fr_rf
theorem ct_80_32 {l : Launch} {D : va_G} {b0 : Nat} {ad : Nat → Nat} {Hb : Heap} {tau : Nat → Int64} {d n s : Nat} {S : Nat → xS} {Z : xZ} {h : mx_H} (hx : XH n s S Z h) (hG : GI n S Z) {x0 x1 : Int} (p0 : 0 ≤ x0 ∧ x0 ≤ 384) (p1 : 0 ≤ x1 ∧ x1 ≤ 8) : ∃ (z : Int) (Z' : xZ) (h' : mx_H), mx_Ca (tB l D b0 ad Hb tau) (d + 10) 80 [.ref 32, xI x0, xI x1] h (some (xI z), h') ∧ XH n s S Z' h' ∧ GI n S Z' ∧ fr' [(14, (-1)), (16, (-1)), (17, (-1)), (18, (-1)), (19, (-1))] Z Z' ∧ ((-1) ≤ z ∧ z ≤ 18) := by
  obtain ⟨r, hca, z, Z', h', e, q⟩ := Jmt (B := tB l D b0 ad Hb tau) (M := mt_80) (mi := 80) (as := [.ref 32, xI x0, xI x1]) (d := d + 9) (ls := [some (.ref 32), some (xI x0), some (xI x1), none, none]) rfl rfl rfl rfl rfl rfl (cw_80_32 (l := l) (D := D) (b0 := b0) (ad := ad) (Hb := Hb) (tau := tau) (d := d) (Post := fun r => ∃ (z : Int) (Z' : xZ) (h' : mx_H), r = (some (xI z), h') ∧ XH n s S Z' h' ∧ GI n S Z' ∧ fr' [(14, (-1)), (16, (-1)), (17, (-1)), (18, (-1)), (19, (-1))] Z Z' ∧ ((-1) ≤ z ∧ z ≤ 18)) hx hG p0 p1 (fun z Z' h' q1 q2 q3 q4 => ⟨z, Z', h', rfl, q1, q2, q3, q4⟩))
  subst e; exact ⟨z, Z', h', hca, q⟩
set_option maxRecDepth 100000 in
theorem cw_81_32 {l : Launch} {D : va_G} {b0 : Nat} {ad : Nat → Nat} {Hb : Heap} {tau : Nat → Int64} {d n s : Nat} {S : Nat → xS} {Z : xZ} {h : mx_H} {Post : mx_R → Prop} (hx : XH n s S Z h) (hG : GI n S Z) {x0 : Int} (p0 : 0 ≤ x0 ∧ x0 ≤ 7) (hP : ∀ (z : Int) (Z' : xZ) (h' : mx_H), XH n s S Z' h' → GI n S Z' → fr' [(14, (-1)), (16, (-1)), (17, (-1)), (18, (-1)), (19, (-1))] Z Z' → (-2147483648) ≤ z ∧ z ≤ 2147483647 → Post (some (xI z), h')) : mx_J (tB l D b0 ad Hb tau) mt_81 (d + 8) 0 [some (.ref 32), some (xI x0), none, none, none, none] [] h Post := by
    have a7 : 7 < n := lt83 hG.1 rfl
    have s7 : S 7 = .inl (0, [2, 2, 2, 2, 0, 0]) := hG.2.1 7 rfl
    have a12 : 12 < n := lt83 hG.1 rfl
    have s12 : S 12 = .inl (4, [2, 2, 0, 2, 2, 2, 2, 2, 2]) := hG.2.1 12 rfl
    have a32 : 32 < n := lt83 hG.1 rfl
    have s32 : S 32 = .inl (9, [2, 2, 2]) := hG.2.1 32 rfl
    have a33 : 33 < n := lt83 hG.1 rfl
    have s33 : S 33 = .inr (.long, 3850, 1) := hG.2.1 33 rfl
    refine JcI (z := 0) (show mx_Sn _ _ 0 (mx_const (.int 0) 1) from sn_81 0) rfl ?_
    refine mx_J.step (ls2 := [some (.ref 32), some (xI x0), some (xI 0), none, none, none]) (sn_81 1) (fun _ _ => rfl) ?_
    refine JcI (z := 0) (show mx_Sn _ _ 2 (mx_const (.int 0) 3) from sn_81 2) rfl ?_
    refine mx_J.step (ls2 := [some (.ref 32), some (xI x0), some (xI 0), some (xI 0), none, none]) (sn_81 3) (fun _ _ => rfl) ?_
    have c4 : ∀ (m1 : Nat) (w1_2 : Int) (w1_3 : Int) (u1_4 : Option Value) (u1_5 : Option Value) (Z2 : xZ) (h2 : mx_H), 385 - w1_3 < (m1 : Int) → (-2147483648) ≤ w1_2 ∧ w1_2 ≤ 2147483647 → 0 ≤ w1_3 ∧ w1_3 ≤ 385 → XH n s S Z2 h2 → GI n S Z2 → fr' [(14, (-1)), (16, (-1)), (17, (-1)), (18, (-1)), (19, (-1))] Z Z2 → mx_J (tB l D b0 ad Hb tau) mt_81 (d + 8) 4 [some (.ref 32), some (xI x0), some (xI w1_2), some (xI w1_3), u1_4, u1_5] [] h2 Post := by
      intro m1
      induction m1 with
      | zero => intro w1_2 w1_3 u1_4 u1_5 Z2 h2 q1 f1_0 f1_1 hx2 hG2 hf2; exact absurd q1 (by omega)
      | succ m1 ih1 =>
        intro w1_2 w1_3 u1_4 u1_5 Z2 h2 q1 f1_0 f1_1 hx2 hG2 hf2
        refine mx_J.step (sn_81 4) (fun _ _ => rfl) ?_
        refine mx_J.step (sn_81 5) (fun _ _ => rfl) ?_
        refine JgetR (g := 0) (b := 7) hx2 (show mx_Sn _ _ 6 (mx_getf 9 0 9) from sn_81 6) a32 s32 rfl rfl (hG2.prr 32 0 rfl) ?_
        have b3 : 0 ≤ Z 7 5 ∧ Z 7 5 ≤ 385 := hG.pr 7 5
        refine JgetI (g := 5) (z := Z 7 5) hx2 (show mx_Sn _ _ 9 (mx_getf 0 5 12) from sn_81 9) a7 s7 rfl rfl (hf2 7 5 rfl) ?_
        refine Jicmp_ge (show mx_Sn _ _ 12 (mx_icmp_ge 94 15) from sn_81 12) (by omega) (by omega) (fun q4 => ?_) (fun q4 => ?_)
        · skip
          refine mx_J.step (sn_81 94) (fun _ _ => rfl) ?_
          exact mx_J.ret (sn_81 95) (fun _ _ => rfl) (hP w1_2 Z2 h2 hx2 hG2 (fr_tr (M := [(14, (-1)), (16, (-1)), (17, (-1)), (18, (-1)), (19, (-1))]) fr_rf (hf2) (M1 := []) rfl rfl) (by omega))
        · skip
          refine mx_J.step (sn_81 15) (fun _ _ => rfl) ?_
          refine JgetR (g := 2) (b := 33) hx2 (show mx_Sn _ _ 16 (mx_getf 9 2 19) from sn_81 16) a32 s32 rfl rfl (hG2.prr 32 2 rfl) ?_
          refine mx_J.step (sn_81 19) (fun _ _ => rfl) ?_
          refine JcI (z := 385) (show mx_Sn _ _ 20 (mx_const (.int 385) 23) from sn_81 20) rfl ?_
          refine Jimul (show mx_Sn _ _ 23 (mx_imul 24) from sn_81 23) ?_
          refine mx_J.step (sn_81 24) (fun _ _ => rfl) ?_
          refine Jiadd (show mx_Sn _ _ 25 (mx_iadd 26) from sn_81 25) ?_
          have b5 : (-9223372036854775808) ≤ Z 33 ((x0 * 385) + w1_3) ∧ Z 33 ((x0 * 385) + w1_3) ≤ 9223372036854775807 := hG.pr 33 ((x0 * 385) + w1_3)
          refine JlaldL (z := Z 33 ((x0 * 385) + w1_3)) hx2 (show mx_Sn _ _ 26 (mx_lald 27) from sn_81 26) a33 s33 (by omega) (hf2 33 ((x0 * 385) + w1_3) rfl) ?_
          refine JcL (z := 0) (show mx_Sn _ _ 27 (mx_const (.long 0) 28) from sn_81 27) rfl ?_
          have c45 : ∀ (k6_0 : Int), (-1) ≤ k6_0 ∧ k6_0 ≤ 18 → mx_J (tB l D b0 ad Hb tau) mt_81 (d + 8) 45 [some (.ref 32), some (xI x0), some (xI w1_2), some (xI w1_3), u1_4, u1_5] [xI k6_0] h2 Post := by
            intro k6_0 f6_0
            refine mx_J.step (ls2 := [some (.ref 32), some (xI x0), some (xI w1_2), some (xI w1_3), some (xI k6_0), u1_5]) (sn_81 45) (fun _ _ => rfl) ?_
            refine JcI (z := 0) (show mx_Sn _ _ 47 (mx_const (.int 0) 48) from sn_81 47) rfl ?_
            refine mx_J.step (ls2 := [some (.ref 32), some (xI x0), some (xI w1_2), some (xI w1_3), some (xI k6_0), some (xI 0)]) (sn_81 48) (fun _ _ => rfl) ?_
            have c50 : ∀ (m7 : Nat) (w7_2 : Int) (w7_5 : Int) (Z8 : xZ) (h8 : mx_H), 19 - w7_5 < (m7 : Int) → (-2147483648) ≤ w7_2 ∧ w7_2 ≤ 2147483647 → 0 ≤ w7_5 ∧ w7_5 ≤ 19 → XH n s S Z8 h8 → GI n S Z8 → fr' [(14, (-1)), (16, (-1)), (17, (-1)), (18, (-1)), (19, (-1))] Z2 Z8 → mx_J (tB l D b0 ad Hb tau) mt_81 (d + 8) 50 [some (.ref 32), some (xI x0), some (xI w7_2), some (xI w1_3), some (xI k6_0), some (xI w7_5)] [] h8 Post := by
              intro m7
              induction m7 with
              | zero => intro w7_2 w7_5 Z8 h8 q7 f7_0 f7_1 hx8 hG8 hf8; exact absurd q7 (by omega)
              | succ m7 ih7 =>
                intro w7_2 w7_5 Z8 h8 q7 f7_0 f7_1 hx8 hG8 hf8
                refine mx_J.step (sn_81 50) (fun _ _ => rfl) ?_
                refine mx_J.step (sn_81 52) (fun _ _ => rfl) ?_
                refine Jicmp_gt (show mx_Sn _ _ 54 (mx_icmp_gt 88 57) from sn_81 54) (by omega) (by omega) (fun q9 => ?_) (fun q9 => ?_)
                · skip
                  refine Jiinc (z := w1_3) (cz := 1) (ls2 := [some (.ref 32), some (xI x0), some (xI w7_2), some (xI (w1_3 + 1)), some (xI k6_0), some (xI w7_5)]) (show mx_Sn _ _ 88 (mx_iinc 3 1 91) from sn_81 88) rfl rfl rfl rfl ?_
                  refine mx_J.step (sn_81 91) (fun _ _ => rfl) ?_
                  exact ih1 w7_2 (w1_3 + 1) (some (xI k6_0)) (some (xI w7_5)) Z8 h8 (by omega) (by omega) (by omega) hx8 hG8 (fr_tr (M := [(14, (-1)), (16, (-1)), (17, (-1)), (18, (-1)), (19, (-1))]) (fr_tr (M := [(14, (-1)), (16, (-1)), (17, (-1)), (18, (-1)), (19, (-1))]) fr_rf (hf2) (M1 := []) rfl rfl) (hf8) rfl rfl)
                · skip
                  refine mx_J.step (sn_81 57) (fun _ _ => rfl) ?_
                  refine mx_J.step (sn_81 58) (fun _ _ => rfl) ?_
                  refine JgetR (g := 1) (b := 12) hx8 (show mx_Sn _ _ 59 (mx_getf 9 1 62) from sn_81 59) a32 s32 rfl rfl (hG8.prr 32 1 rfl) ?_
                  refine mx_J.step (sn_81 62) (fun _ _ => rfl) ?_
                  refine mx_J.step (sn_81 63) (fun _ _ => rfl) ?_
                  obtain ⟨z10, Z10, h10, hc10, hx10, hG10, hf10, b10⟩ := ct_26_12 (d := d + 0) (l := l) (D := D) (b0 := b0) (ad := ad) (Hb := Hb) (tau := tau) hx8 hG8 (show (-2147483648) ≤ w1_3 ∧ w1_3 ≤ 2147483647 by omega) (show (-2147483648) ≤ w7_5 ∧ w7_5 ≤ 2147483647 by omega)
                  refine Jcv hx8 (show mx_Sn _ _ 65 (mx_callv 26 3 4 68) from sn_81 65) a12 s12 hc10 rfl rfl rfl ?_
                  refine mx_J.step (sn_81 68) (fun _ _ => rfl) ?_
                  obtain ⟨z11, hc11, b11⟩ := ct_79_32 (d := d + 7) (l := l) (D := D) (b0 := b0) (ad := ad) (Hb := Hb) (tau := tau) hx10 hG10 (show (-1) ≤ z10 ∧ z10 ≤ 384 by omega) (show 0 ≤ x0 ∧ x0 ≤ 8 by omega)
                  refine Jcv hx10 (show mx_Sn _ _ 69 (mx_callv 79 3 9 72) from sn_81 69) a32 s32 hc11 rfl rfl rfl ?_
                  have c82 : ∀ (w12_2 : Int), (-2147483648) ≤ w12_2 ∧ w12_2 ≤ 2147483647 → mx_J (tB l D b0 ad Hb tau) mt_81 (d + 8) 82 [some (.ref 32), some (xI x0), some (xI w12_2), some (xI w1_3), some (xI k6_0), some (xI w7_5)] [] h10 Post := by
                    intro w12_2 f12_0
                    refine Jiinc (z := w7_5) (cz := 1) (ls2 := [some (.ref 32), some (xI x0), some (xI w12_2), some (xI w1_3), some (xI k6_0), some (xI (w7_5 + 1))]) (show mx_Sn _ _ 82 (mx_iinc 5 1 85) from sn_81 82) rfl rfl rfl rfl ?_
                    refine mx_J.step (sn_81 85) (fun _ _ => rfl) ?_
                    exact ih7 w12_2 (w7_5 + 1) Z10 h10 (by omega) (by omega) (by omega) hx10 hG10 (fr_tr (M := [(14, (-1)), (16, (-1)), (17, (-1)), (18, (-1)), (19, (-1))]) (fr_tr (M := [(14, (-1)), (16, (-1)), (17, (-1)), (18, (-1)), (19, (-1))]) fr_rf (hf8) (M1 := []) rfl rfl) (hf10) rfl rfl)
                  refine Jif_eq (show mx_Sn _ _ 72 (mx_if_eq 82 75) from sn_81 72) (by omega) (fun q13 => ?_) (fun q13 => ?_)
                  · skip
                    exact c82 w7_2 (by omega)
                  · skip
                    refine mx_J.step (sn_81 75) (fun _ _ => rfl) ?_
                    refine JcI (z := 1) (show mx_Sn _ _ 76 (mx_const (.int 1) 77) from sn_81 76) rfl ?_
                    refine mx_J.step (sn_81 77) (fun _ _ => rfl) ?_
                    refine JishlX (show mx_Sn _ _ 79 (mx_ishl 80) from sn_81 79) (fun y14 hy14 => ?_)
                    refine JiorX (show mx_Sn _ _ 80 (mx_ior 81) from sn_81 80) (fun y15 hy15 => ?_)
                    refine mx_J.step (ls2 := [some (.ref 32), some (xI x0), some (xI y15), some (xI w1_3), some (xI k6_0), some (xI w7_5)]) (sn_81 81) (fun _ _ => rfl) ?_
                    exact c82 y15 (by omega)
            exact c50 (Int.toNat (19 - 0) + 1) w1_2 0 Z2 h2 (by omega) (by omega) (by omega) hx2 hG2 fr_rf
          refine Jlif_le (show mx_Sn _ _ 28 (mx_lif_le 44 32) from sn_81 28) (by omega) (by omega) (fun q16 => ?_) (fun q16 => ?_)
          · skip
            refine JcI (z := (-1)) (show mx_Sn _ _ 44 (mx_const (.int (-1)) 45) from sn_81 44) rfl ?_
            exact c45 (-1) (by omega)
          · skip
            refine mx_J.step (sn_81 32) (fun _ _ => rfl) ?_
            refine JgetR (g := 0) (b := 7) hx2 (show mx_Sn _ _ 33 (mx_getf 9 0 36) from sn_81 33) a32 s32 rfl rfl (hG2.prr 32 0 rfl) ?_
            refine mx_J.step (sn_81 36) (fun _ _ => rfl) ?_
            refine JcI (z := 0) (show mx_Sn _ _ 37 (mx_const (.int 0) 38) from sn_81 37) rfl ?_
            obtain ⟨z17, hc17, b17⟩ := ct_6_7 (d := d + 6) (l := l) (D := D) (b0 := b0) (ad := ad) (Hb := Hb) (tau := tau) hx2 hG2 (show (-2147483648) ≤ w1_3 ∧ w1_3 ≤ 2147483647 by omega) (show (-2147483648) ≤ 0 ∧ 0 ≤ 2147483647 by omega)
            have eq18 : Z2 9 (w1_3 * 18 + 0) = Z 9 (w1_3 * 18 + 0) := (hf2 9 (w1_3 * 18 + 0) rfl)
            refine Jcv hx2 (show mx_Sn _ _ 38 (mx_callv 6 3 0 41) from sn_81 38) a7 s7 hc17 rfl rfl rfl ?_
            refine mx_J.step (sn_81 41) (fun _ _ => rfl) ?_
            exact c45 z17 (by omega)
    exact c4 (Int.toNat (385 - 0) + 1) 0 0 none none Z h (by omega) (by omega) (by omega) hx hG fr_rf
theorem ct_81_32 {l : Launch} {D : va_G} {b0 : Nat} {ad : Nat → Nat} {Hb : Heap} {tau : Nat → Int64} {d n s : Nat} {S : Nat → xS} {Z : xZ} {h : mx_H} (hx : XH n s S Z h) (hG : GI n S Z) {x0 : Int} (p0 : 0 ≤ x0 ∧ x0 ≤ 7) : ∃ (z : Int) (Z' : xZ) (h' : mx_H), mx_Ca (tB l D b0 ad Hb tau) (d + 9) 81 [.ref 32, xI x0] h (some (xI z), h') ∧ XH n s S Z' h' ∧ GI n S Z' ∧ fr' [(14, (-1)), (16, (-1)), (17, (-1)), (18, (-1)), (19, (-1))] Z Z' ∧ ((-2147483648) ≤ z ∧ z ≤ 2147483647) := by
  obtain ⟨r, hca, z, Z', h', e, q⟩ := Jmt (B := tB l D b0 ad Hb tau) (M := mt_81) (mi := 81) (as := [.ref 32, xI x0]) (d := d + 8) (ls := [some (.ref 32), some (xI x0), none, none, none, none]) rfl rfl rfl rfl rfl rfl (cw_81_32 (l := l) (D := D) (b0 := b0) (ad := ad) (Hb := Hb) (tau := tau) (d := d) (Post := fun r => ∃ (z : Int) (Z' : xZ) (h' : mx_H), r = (some (xI z), h') ∧ XH n s S Z' h' ∧ GI n S Z' ∧ fr' [(14, (-1)), (16, (-1)), (17, (-1)), (18, (-1)), (19, (-1))] Z Z' ∧ ((-2147483648) ≤ z ∧ z ≤ 2147483647)) hx hG p0 (fun z Z' h' q1 q2 q3 q4 => ⟨z, Z', h', rfl, q1, q2, q3, q4⟩))
  subst e; exact ⟨z, Z', h', hca, q⟩
set_option maxRecDepth 100000 in
theorem cw_143_1_38 {l : Launch} {D : va_G} {b0 : Nat} {ad : Nat → Nat} {Hb : Heap} {tau : Nat → Int64} {d n s : Nat} {S : Nat → xS} {Z : xZ} {h : mx_H} {Post : mx_R → Prop} (hx : XH n s S Z h) (hG : GI n S Z) {x0 : Int} (p0 : (-2147483648) ≤ x0 ∧ x0 ≤ 2147483647) (hP : ∀ (z : Int) (Z' : xZ) (h' : mx_H), XH n s S Z' h' → GI n S Z' → fr' [(38, 3)] Z Z' → 0 ≤ z ∧ z ≤ 1 → Post (some (xI z), h')) : mx_J (tB l D b0 ad Hb tau) mt_143 (d + 0) 0 [some (.ref 1), some (.ref 38), some (xI x0)] [] h Post := by
    have a38 : 38 < n := lt83 hG.1 rfl
    have s38 : S 38 = .inl (5, [2, 0, 0, 0, 0, 0]) := hG.2.1 38 rfl
    refine mx_J.step (sn_143 0) (fun _ _ => rfl) ?_
    have c10 : mx_J (tB l D b0 ad Hb tau) mt_143 (d + 0) 10 [some (.ref 1), some (.ref 38), some (xI x0)] [] h Post := by
      refine JcI (z := 1) (show mx_Sn _ _ 10 (mx_const (.int 1) 11) from sn_143 10) rfl ?_
      exact mx_J.ret (sn_143 11) (fun _ _ => rfl) (hP 1 Z h hx hG fr_rf (by omega))
    refine Jif_lt (show mx_Sn _ _ 1 (mx_if_lt 10 4) from sn_143 1) (by omega) (fun q2 => ?_) (fun q2 => ?_)
    · skip
      exact c10 
    · skip
      refine mx_J.step (sn_143 4) (fun _ _ => rfl) ?_
      refine JcI (z := 10) (show mx_Sn _ _ 5 (mx_const (.int 10) 7) from sn_143 5) rfl ?_
      refine Jicmp_lt (show mx_Sn _ _ 7 (mx_icmp_lt 12 10) from sn_143 7) (by omega) (by omega) (fun q3 => ?_) (fun q3 => ?_)
      · skip
        refine mx_J.step (sn_143 12) (fun _ _ => rfl) ?_
        refine mx_J.step (sn_143 13) (fun _ _ => rfl) ?_
        refine JputI (g := 3) hx (show mx_Sn _ _ 14 (mx_putf 1 5 3 (.int) 17) from sn_143 14) a38 s38 rfl rfl rfl rfl (fun Z4 h4 hx4 hE4 => ?_)
        have hG4 := GI_up hG hE4 (show 0 ≤ x0 ∧ x0 ≤ 9 by omega) trivial rfl
        refine JcI (z := 0) (show mx_Sn _ _ 17 (mx_const (.int 0) 18) from sn_143 17) rfl ?_
        exact mx_J.ret (sn_143 18) (fun _ _ => rfl) (hP 0 Z4 h4 hx4 hG4 (fr_tr (M := [(38, 3)]) fr_rf (fr_up hE4) (M1 := []) rfl rfl) (by omega))
      · skip
        exact c10 
theorem ct_143_1_38 {l : Launch} {D : va_G} {b0 : Nat} {ad : Nat → Nat} {Hb : Heap} {tau : Nat → Int64} {d n s : Nat} {S : Nat → xS} {Z : xZ} {h : mx_H} (hx : XH n s S Z h) (hG : GI n S Z) {x0 : Int} (p0 : (-2147483648) ≤ x0 ∧ x0 ≤ 2147483647) : ∃ (z : Int) (Z' : xZ) (h' : mx_H), mx_Ca (tB l D b0 ad Hb tau) (d + 1) 143 [.ref 1, .ref 38, xI x0] h (some (xI z), h') ∧ XH n s S Z' h' ∧ GI n S Z' ∧ fr' [(38, 3)] Z Z' ∧ (0 ≤ z ∧ z ≤ 1) := by
  obtain ⟨r, hca, z, Z', h', e, q⟩ := Jmt (B := tB l D b0 ad Hb tau) (M := mt_143) (mi := 143) (as := [.ref 1, .ref 38, xI x0]) (d := d + 0) (ls := [some (.ref 1), some (.ref 38), some (xI x0)]) rfl rfl rfl rfl rfl rfl (cw_143_1_38 (l := l) (D := D) (b0 := b0) (ad := ad) (Hb := Hb) (tau := tau) (d := d) (Post := fun r => ∃ (z : Int) (Z' : xZ) (h' : mx_H), r = (some (xI z), h') ∧ XH n s S Z' h' ∧ GI n S Z' ∧ fr' [(38, 3)] Z Z' ∧ (0 ≤ z ∧ z ≤ 1)) hx hG p0 (fun z Z' h' q1 q2 q3 q4 => ⟨z, Z', h', rfl, q1, q2, q3, q4⟩))
  subst e; exact ⟨z, Z', h', hca, q⟩
set_option maxRecDepth 100000 in
theorem cw_140_1_38 {l : Launch} {D : va_G} {b0 : Nat} {ad : Nat → Nat} {Hb : Heap} {tau : Nat → Int64} {d n s : Nat} {S : Nat → xS} {Z : xZ} {h : mx_H} {Post : mx_R → Prop} (hx : XH n s S Z h) (hG : GI n S Z) {x0 : Int} (p0 : (-2147483648) ≤ x0 ∧ x0 ≤ 2147483647) (hP : ∀ (z : Int) (Z' : xZ) (h' : mx_H), XH n s S Z' h' → GI n S Z' → fr' [(12, 2), (14, (-1)), (16, (-1)), (17, (-1)), (18, (-1)), (19, (-1)), (38, 2), (38, 4)] Z Z' → 0 ≤ z ∧ z ≤ 2 → Post (some (xI z), h')) : mx_J (tB l D b0 ad Hb tau) mt_140 (d + 8) 0 [some (.ref 1), some (.ref 38), some (xI x0), none] [] h Post := by
    have a1 : 1 < n := lt83 hG.1 rfl
    have s1 : S 1 = .inl (11, [2, 0, 0, 0, 2, 2, 2, 2, 2, 2, 2, 2, 2, 2, 2, 2, 2]) := hG.2.1 1 rfl
    have a12 : 12 < n := lt83 hG.1 rfl
    have s12 : S 12 = .inl (4, [2, 2, 0, 2, 2, 2, 2, 2, 2]) := hG.2.1 12 rfl
    have a38 : 38 < n := lt83 hG.1 rfl
    have s38 : S 38 = .inl (5, [2, 0, 0, 0, 0, 0]) := hG.2.1 38 rfl
    refine mx_J.step (sn_140 0) (fun _ _ => rfl) ?_
    have c10 : mx_J (tB l D b0 ad Hb tau) mt_140 (d + 8) 10 [some (.ref 1), some (.ref 38), some (xI x0), none] [] h Post := by
      refine JcI (z := 1) (show mx_Sn _ _ 10 (mx_const (.int 1) 11) from sn_140 10) rfl ?_
      exact mx_J.ret (sn_140 11) (fun _ _ => rfl) (hP 1 Z h hx hG fr_rf (by omega))
    refine Jif_lt (show mx_Sn _ _ 1 (mx_if_lt 10 4) from sn_140 1) (by omega) (fun q2 => ?_) (fun q2 => ?_)
    · skip
      exact c10 
    · skip
      refine mx_J.step (sn_140 4) (fun _ _ => rfl) ?_
      refine JcI (z := 18) (show mx_Sn _ _ 5 (mx_const (.int 18) 7) from sn_140 5) rfl ?_
      refine Jicmp_le (show mx_Sn _ _ 7 (mx_icmp_le 12 10) from sn_140 7) (by omega) (by omega) (fun q3 => ?_) (fun q3 => ?_)
      · skip
        refine mx_J.step (sn_140 12) (fun _ _ => rfl) ?_
        refine JgetR (g := 6) (b := 12) hx (show mx_Sn _ _ 13 (mx_getf 11 6 16) from sn_140 13) a1 s1 rfl rfl (hG.prr 1 6 rfl) ?_
        refine mx_J.step (sn_140 16) (fun _ _ => rfl) ?_
        have b4 : 0 ≤ Z 38 3 ∧ Z 38 3 ≤ 9 := hG.pr 38 3
        refine JgetI (g := 3) (z := Z 38 3) hx (show mx_Sn _ _ 17 (mx_getf 5 3 20) from sn_140 17) a38 s38 rfl rfl rfl ?_
        obtain ⟨Z5, h5, hc5, hx5, hG5, hf5⟩ := ct_25_12 (d := d + 7) (l := l) (D := D) (b0 := b0) (ad := ad) (Hb := Hb) (tau := tau) hx hG (show 0 ≤ Z 38 3 ∧ Z 38 3 ≤ 9 by omega)
        refine Jcv0 hx (show mx_Sn _ _ 20 (mx_callv 25 2 4 23) from sn_140 20) a12 s12 hc5 rfl rfl rfl ?_
        refine mx_J.step (sn_140 23) (fun _ _ => rfl) ?_
        refine JgetR (g := 6) (b := 12) hx5 (show mx_Sn _ _ 24 (mx_getf 11 6 27) from sn_140 24) a1 s1 rfl rfl (hG5.prr 1 6 rfl) ?_
        refine mx_J.step (sn_140 27) (fun _ _ => rfl) ?_
        have b6 : 0 ≤ Z 38 2 ∧ Z 38 2 ≤ 384 := hG.pr 38 2
        refine JgetI (g := 2) (z := Z 38 2) hx5 (show mx_Sn _ _ 28 (mx_getf 5 2 31) from sn_140 28) a38 s38 rfl rfl (hf5 38 2 rfl) ?_
        refine mx_J.step (sn_140 31) (fun _ _ => rfl) ?_
        obtain ⟨z7, Z7, h7, hc7, hx7, hG7, hf7, b7⟩ := ct_26_12 (d := d + 0) (l := l) (D := D) (b0 := b0) (ad := ad) (Hb := Hb) (tau := tau) hx5 hG5 (show (-2147483648) ≤ Z 38 2 ∧ Z 38 2 ≤ 2147483647 by omega) (show (-2147483648) ≤ x0 ∧ x0 ≤ 2147483647 by omega)
        refine Jcv hx5 (show mx_Sn _ _ 32 (mx_callv 26 3 4 35) from sn_140 32) a12 s12 hc7 rfl rfl rfl ?_
        refine mx_J.step (ls2 := [some (.ref 1), some (.ref 38), some (xI x0), some (xI z7)]) (sn_140 35) (fun _ _ => rfl) ?_
        refine mx_J.step (sn_140 36) (fun _ _ => rfl) ?_
        refine Jif_ge (show mx_Sn _ _ 37 (mx_if_ge 42 40) from sn_140 37) (by omega) (fun q8 => ?_) (fun q8 => ?_)
        · skip
          refine mx_J.step (sn_140 42) (fun _ _ => rfl) ?_
          refine mx_J.step (sn_140 43) (fun _ _ => rfl) ?_
          refine JputI (g := 2) hx7 (show mx_Sn _ _ 44 (mx_putf 1 5 2 (.int) 47) from sn_140 44) a38 s38 rfl rfl rfl rfl (fun Z9 h9 hx9 hE9 => ?_)
          have hG9 := GI_up hG7 hE9 (show 0 ≤ z7 ∧ z7 ≤ 384 by omega) trivial rfl
          refine mx_J.step (sn_140 47) (fun _ _ => rfl) ?_
          refine mx_J.step (sn_140 48) (fun _ _ => rfl) ?_
          have b10 : (-2147483648) ≤ Z 38 4 ∧ Z 38 4 ≤ 2147483647 := hG.pr 38 4
          refine JgetI (g := 4) (z := Z 38 4) hx9 (show mx_Sn _ _ 49 (mx_getf 5 4 52) from sn_140 49) a38 s38 rfl rfl ((up_ni hE9 (by decide)).trans ((hf7 38 4 rfl).trans (hf5 38 4 rfl))) ?_
          refine JcI (z := 1) (show mx_Sn _ _ 52 (mx_const (.int 1) 53) from sn_140 52) rfl ?_
          refine JiaddN (show mx_Sn _ _ 53 (mx_iadd 54) from sn_140 53) (fun y11 hy11 hq11 => ?_)
          refine JputI (g := 4) hx9 (show mx_Sn _ _ 54 (mx_putf 1 5 4 (.int) 57) from sn_140 54) a38 s38 rfl rfl rfl rfl (fun Z12 h12 hx12 hE12 => ?_)
          have hG12 := GI_up hG9 hE12 (show (-2147483648) ≤ y11 ∧ y11 ≤ 2147483647 by omega) trivial rfl
          refine JcI (z := 0) (show mx_Sn _ _ 57 (mx_const (.int 0) 58) from sn_140 57) rfl ?_
          exact mx_J.ret (sn_140 58) (fun _ _ => rfl) (hP 0 Z12 h12 hx12 hG12 (fr_tr (M := [(12, 2), (14, (-1)), (16, (-1)), (17, (-1)), (18, (-1)), (19, (-1)), (38, 2), (38, 4)]) (fr_tr (M := [(12, 2), (14, (-1)), (16, (-1)), (17, (-1)), (18, (-1)), (19, (-1)), (38, 2), (38, 4)]) (fr_tr (M := [(12, 2), (14, (-1)), (16, (-1)), (17, (-1)), (18, (-1)), (19, (-1)), (38, 2), (38, 4)]) (fr_tr (M := [(12, 2), (14, (-1)), (16, (-1)), (17, (-1)), (18, (-1)), (19, (-1)), (38, 2), (38, 4)]) fr_rf (hf5) (M1 := []) rfl rfl) (hf7) rfl rfl) (fr_up hE9) rfl rfl) (fr_up hE12) rfl rfl) (by omega))
        · skip
          refine JcI (z := 2) (show mx_Sn _ _ 40 (mx_const (.int 2) 41) from sn_140 40) rfl ?_
          exact mx_J.ret (sn_140 41) (fun _ _ => rfl) (hP 2 Z7 h7 hx7 hG7 (fr_tr (M := [(12, 2), (14, (-1)), (16, (-1)), (17, (-1)), (18, (-1)), (19, (-1)), (38, 2), (38, 4)]) (fr_tr (M := [(12, 2), (14, (-1)), (16, (-1)), (17, (-1)), (18, (-1)), (19, (-1)), (38, 2), (38, 4)]) fr_rf (hf5) (M1 := []) rfl rfl) (hf7) rfl rfl) (by omega))
      · skip
        exact c10 
theorem ct_140_1_38 {l : Launch} {D : va_G} {b0 : Nat} {ad : Nat → Nat} {Hb : Heap} {tau : Nat → Int64} {d n s : Nat} {S : Nat → xS} {Z : xZ} {h : mx_H} (hx : XH n s S Z h) (hG : GI n S Z) {x0 : Int} (p0 : (-2147483648) ≤ x0 ∧ x0 ≤ 2147483647) : ∃ (z : Int) (Z' : xZ) (h' : mx_H), mx_Ca (tB l D b0 ad Hb tau) (d + 9) 140 [.ref 1, .ref 38, xI x0] h (some (xI z), h') ∧ XH n s S Z' h' ∧ GI n S Z' ∧ fr' [(12, 2), (14, (-1)), (16, (-1)), (17, (-1)), (18, (-1)), (19, (-1)), (38, 2), (38, 4)] Z Z' ∧ (0 ≤ z ∧ z ≤ 2) := by
  obtain ⟨r, hca, z, Z', h', e, q⟩ := Jmt (B := tB l D b0 ad Hb tau) (M := mt_140) (mi := 140) (as := [.ref 1, .ref 38, xI x0]) (d := d + 8) (ls := [some (.ref 1), some (.ref 38), some (xI x0), none]) rfl rfl rfl rfl rfl rfl (cw_140_1_38 (l := l) (D := D) (b0 := b0) (ad := ad) (Hb := Hb) (tau := tau) (d := d) (Post := fun r => ∃ (z : Int) (Z' : xZ) (h' : mx_H), r = (some (xI z), h') ∧ XH n s S Z' h' ∧ GI n S Z' ∧ fr' [(12, 2), (14, (-1)), (16, (-1)), (17, (-1)), (18, (-1)), (19, (-1)), (38, 2), (38, 4)] Z Z' ∧ (0 ≤ z ∧ z ≤ 2)) hx hG p0 (fun z Z' h' q1 q2 q3 q4 => ⟨z, Z', h', rfl, q1, q2, q3, q4⟩))
  subst e; exact ⟨z, Z', h', hca, q⟩
set_option maxRecDepth 100000 in
theorem cw_153_ {l : Launch} {D : va_G} {b0 : Nat} {ad : Nat → Nat} {Hb : Heap} {tau : Nat → Int64} {d n s : Nat} {S : Nat → xS} {Z : xZ} {h : mx_H} {Post : mx_R → Prop} (hx : XH n s S Z h) (hG : GI n S Z) {x0 x1 x2 : Int} (p0 : (-9223372036854775808) ≤ x0 ∧ x0 ≤ 9223372036854775807) (p1 : 0 ≤ x1 ∧ x1 ≤ 7) (p2 : 0 ≤ x2 ∧ x2 ≤ 1) (hP : ∀ z : Int, (-2147483648) ≤ z ∧ z ≤ 2147483647 → Post (some (xI z), h)) : mx_J (tB l D b0 ad Hb tau) mt_153 (d + 0) 0 [some (xL x0), none, some (xI x1), some (xI x2), none, none, none, none, none, none, none, none, none] [] h Post := by
    refine JcL (z := 1) (show mx_Sn _ _ 0 (mx_const (.long 1) 1) from sn_153 0) rfl ?_
    refine mx_J.step (ls2 := [some (xL x0), none, some (xI x1), some (xI x2), some (xL 1), none, none, none, none, none, none, none, none]) (sn_153 1) (fun _ _ => rfl) ?_
    refine JcI (z := 0) (show mx_Sn _ _ 3 (mx_const (.int 0) 4) from sn_153 3) rfl ?_
    refine mx_J.step (ls2 := [some (xL x0), none, some (xI x1), some (xI x2), some (xL 1), none, some (xI 0), none, none, none, none, none, none]) (sn_153 4) (fun _ _ => rfl) ?_
    have c6 : ∀ (m1 : Nat) (w1_4 : Int) (w1_6 : Int), 7 - w1_6 < (m1 : Int) → (-9223372036854775808) ≤ w1_4 ∧ w1_4 ≤ 9223372036854775807 → 0 ≤ w1_6 ∧ w1_6 ≤ 7 → mx_J (tB l D b0 ad Hb tau) mt_153 (d + 0) 6 [some (xL x0), none, some (xI x1), some (xI x2), some (xL w1_4), none, some (xI w1_6), none, none, none, none, none, none] [] h Post := by
      intro m1
      induction m1 with
      | zero => intro w1_4 w1_6 q1 f1_0 f1_1; exact absurd q1 (by omega)
      | succ m1 ih1 =>
        intro w1_4 w1_6 q1 f1_0 f1_1
        refine mx_J.step (sn_153 6) (fun _ _ => rfl) ?_
        refine mx_J.step (sn_153 8) (fun _ _ => rfl) ?_
        refine Jicmp_ge (show mx_Sn _ _ 9 (mx_icmp_ge 26 12) from sn_153 9) (by omega) (by omega) (fun q2 => ?_) (fun q2 => ?_)
        · skip
          refine mx_J.step (sn_153 26) (fun _ _ => rfl) ?_
          refine mx_J.step (ls2 := [some (xL x0), none, some (xI x1), some (xI x2), some (xL w1_4), none, some (xL w1_4), none, none, none, none, none, none]) (sn_153 28) (fun _ _ => rfl) ?_
          refine mx_J.step (sn_153 30) (fun _ _ => rfl) ?_
          refine mx_J.step (ls2 := [some (xL x0), none, some (xI x1), some (xI x2), some (xL w1_4), none, some (xL w1_4), none, some (xL x0), none, none, none, none]) (sn_153 31) (fun _ _ => rfl) ?_
          refine JcI (z := 0) (show mx_Sn _ _ 33 (mx_const (.int 0) 34) from sn_153 33) rfl ?_
          refine mx_J.step (ls2 := [some (xL x0), none, some (xI x1), some (xI x2), some (xL w1_4), none, some (xL w1_4), none, some (xL x0), none, some (xI 0), none, none]) (sn_153 34) (fun _ _ => rfl) ?_
          have c36 : ∀ (m3 : Nat) (w3_6 : Int) (w3_8 : Int) (w3_10 : Int) (u3_11 : Option Value) (u3_12 : Option Value), 100 - w3_10 < (m3 : Int) → (-9223372036854775808) ≤ w3_6 ∧ w3_6 ≤ 9223372036854775807 → (-9223372036854775808) ≤ w3_8 ∧ w3_8 ≤ 9223372036854775807 → 0 ≤ w3_10 ∧ w3_10 ≤ 100 → mx_J (tB l D b0 ad Hb tau) mt_153 (d + 0) 36 [some (xL x0), none, some (xI x1), some (xI x2), some (xL w1_4), none, some (xL w3_6), none, some (xL w3_8), none, some (xI w3_10), u3_11, u3_12] [] h Post := by
            intro m3
            induction m3 with
            | zero => intro w3_6 w3_8 w3_10 u3_11 u3_12 q3 f3_0 f3_1 f3_2; exact absurd q3 (by omega)
            | succ m3 ih3 =>
              intro w3_6 w3_8 w3_10 u3_11 u3_12 q3 f3_0 f3_1 f3_2
              refine mx_J.step (sn_153 36) (fun _ _ => rfl) ?_
              refine JcI (z := 100) (show mx_Sn _ _ 38 (mx_const (.int 100) 40) from sn_153 38) rfl ?_
              have c71 : mx_J (tB l D b0 ad Hb tau) mt_153 (d + 0) 71 [some (xL x0), none, some (xI x1), some (xI x2), some (xL w1_4), none, some (xL w3_6), none, some (xL w3_8), none, some (xI w3_10), u3_11, u3_12] [] h Post := by
                refine mx_J.step (sn_153 71) (fun _ _ => rfl) ?_
                refine JcL (z := 1) (show mx_Sn _ _ 73 (mx_const (.long 1) 74) from sn_153 73) rfl ?_
                refine Jlif_ge (show mx_Sn _ _ 74 (mx_lif_ge 80 78) from sn_153 74) (by omega) (by omega) (fun q5 => ?_) (fun q5 => ?_)
                · skip
                  refine mx_J.step (sn_153 80) (fun _ _ => rfl) ?_
                  have c90 : ∀ (k6_0 : Int), (-9223372036854775808) ≤ k6_0 ∧ k6_0 ≤ 9223372036854775807 → mx_J (tB l D b0 ad Hb tau) mt_153 (d + 0) 90 [some (xL x0), none, some (xI x1), some (xI x2), some (xL w1_4), none, some (xL w3_6), none, some (xL w3_8), none, some (xI w3_10), u3_11, u3_12] [xL k6_0] h Post := by
                    intro k6_0 f6_0
                    refine mx_J.step (sn_153 90) (fun _ _ => rfl) ?_
                    refine JldivX (show mx_Sn _ _ 92 (mx_ldiv 93) from sn_153 92) (by omega) (by omega) (fun y7 hy7 => ?_)
                    refine Jl2i (show mx_Sn _ _ 93 (mx_l2i 94) from sn_153 93) (Jnorm fun y8 hy8 hq8 => ?_)
                    exact mx_J.ret (sn_153 94) (fun _ _ => rfl) (hP y8 (by omega))
                  refine Jif_ne (show mx_Sn _ _ 81 (mx_if_ne 88 84) from sn_153 81) (by omega) (fun q9 => ?_) (fun q9 => ?_)
                  · skip
                    refine mx_J.step (sn_153 88) (fun _ _ => rfl) ?_
                    exact c90 w1_4 (by omega)
                  · skip
                    refine mx_J.step (sn_153 84) (fun _ _ => rfl) ?_
                    refine mx_J.step (sn_153 85) (fun _ _ => rfl) ?_
                    exact c90 x0 (by omega)
                · skip
                  refine JcI (z := 0) (show mx_Sn _ _ 78 (mx_const (.int 0) 79) from sn_153 78) rfl ?_
                  exact mx_J.ret (sn_153 79) (fun _ _ => rfl) (hP 0 (by omega))
              refine Jicmp_ge (show mx_Sn _ _ 40 (mx_icmp_ge 71 43) from sn_153 40) (by omega) (by omega) (fun q10 => ?_) (fun q10 => ?_)
              · skip
                exact c71 
              · skip
                refine mx_J.step (sn_153 43) (fun _ _ => rfl) ?_
                refine JcL (z := 0) (show mx_Sn _ _ 45 (mx_const (.long 0) 46) from sn_153 45) rfl ?_
                refine Jlif_eq (show mx_Sn _ _ 46 (mx_lif_eq 71 50) from sn_153 46) (by omega) (by omega) (fun q11 => ?_) (fun q11 => ?_)
                · skip
                  exact c71 
                · skip
                  refine mx_J.step (sn_153 50) (fun _ _ => rfl) ?_
                  refine mx_J.step (sn_153 52) (fun _ _ => rfl) ?_
                  refine JlremX (show mx_Sn _ _ 54 (mx_lrem 55) from sn_153 54) (by omega) (by omega) (by omega) (fun y12 hy12 => ?_)
                  refine mx_J.step (ls2 := [some (xL x0), none, some (xI x1), some (xI x2), some (xL w1_4), none, some (xL w3_6), none, some (xL w3_8), none, some (xI w3_10), some (xL y12), none]) (sn_153 55) (fun _ _ => rfl) ?_
                  refine mx_J.step (sn_153 57) (fun _ _ => rfl) ?_
                  refine mx_J.step (ls2 := [some (xL x0), none, some (xI x1), some (xI x2), some (xL w1_4), none, some (xL w3_8), none, some (xL w3_8), none, some (xI w3_10), some (xL y12), none]) (sn_153 59) (fun _ _ => rfl) ?_
                  refine mx_J.step (sn_153 61) (fun _ _ => rfl) ?_
                  refine mx_J.step (ls2 := [some (xL x0), none, some (xI x1), some (xI x2), some (xL w1_4), none, some (xL w3_8), none, some (xL y12), none, some (xI w3_10), some (xL y12), none]) (sn_153 63) (fun _ _ => rfl) ?_
                  refine Jiinc (z := w3_10) (cz := 1) (ls2 := [some (xL x0), none, some (xI x1), some (xI x2), some (xL w1_4), none, some (xL w3_8), none, some (xL y12), none, some (xI (w3_10 + 1)), some (xL y12), none]) (show mx_Sn _ _ 65 (mx_iinc 10 1 68) from sn_153 65) rfl rfl rfl rfl ?_
                  refine mx_J.step (sn_153 68) (fun _ _ => rfl) ?_
                  exact ih3 w3_8 y12 (w3_10 + 1) (some (xL y12)) none (by omega) (by omega) (by omega) (by omega)
          exact c36 (Int.toNat (100 - 0) + 1) w1_4 x0 0 none none (by omega) (by omega) (by omega) (by omega)
        · skip
          refine mx_J.step (sn_153 12) (fun _ _ => rfl) ?_
          refine JcL (z := 10) (show mx_Sn _ _ 14 (mx_const (.long 10) 17) from sn_153 14) rfl ?_
          refine JlmulN (show mx_Sn _ _ 17 (mx_lmul 18) from sn_153 17) (fun y13 hy13 hq13 => ?_)
          refine mx_J.step (ls2 := [some (xL x0), none, some (xI x1), some (xI x2), some (xL y13), none, some (xI w1_6), none, none, none, none, none, none]) (sn_153 18) (fun _ _ => rfl) ?_
          refine Jiinc (z := w1_6) (cz := 1) (ls2 := [some (xL x0), none, some (xI x1), some (xI x2), some (xL y13), none, some (xI (w1_6 + 1)), none, none, none, none, none, none]) (show mx_Sn _ _ 20 (mx_iinc 6 1 23) from sn_153 20) rfl rfl rfl rfl ?_
          refine mx_J.step (sn_153 23) (fun _ _ => rfl) ?_
          exact ih1 y13 (w1_6 + 1) (by omega) (by omega) (by omega)
    exact c6 (Int.toNat (7 - 0) + 1) 1 0 (by omega) (by omega) (by omega)
theorem ct_153_ {l : Launch} {D : va_G} {b0 : Nat} {ad : Nat → Nat} {Hb : Heap} {tau : Nat → Int64} {d n s : Nat} {S : Nat → xS} {Z : xZ} {h : mx_H} (hx : XH n s S Z h) (hG : GI n S Z) {x0 x1 x2 : Int} (p0 : (-9223372036854775808) ≤ x0 ∧ x0 ≤ 9223372036854775807) (p1 : 0 ≤ x1 ∧ x1 ≤ 7) (p2 : 0 ≤ x2 ∧ x2 ≤ 1) : ∃ z : Int, mx_Ca (tB l D b0 ad Hb tau) (d + 1) 153 [xL x0, xI x1, xI x2] h (some (xI z), h) ∧ ((-2147483648) ≤ z ∧ z ≤ 2147483647) := by
  obtain ⟨r, hca, z, e, hp⟩ := Jmt (B := tB l D b0 ad Hb tau) (M := mt_153) (mi := 153) (as := [xL x0, xI x1, xI x2]) (d := d + 0) (ls := [some (xL x0), none, some (xI x1), some (xI x2), none, none, none, none, none, none, none, none, none]) rfl rfl rfl rfl rfl rfl (cw_153_ (l := l) (D := D) (b0 := b0) (ad := ad) (Hb := Hb) (tau := tau) (d := d) (Post := fun r => ∃ z : Int, r = (some (xI z), h) ∧ ((-2147483648) ≤ z ∧ z ≤ 2147483647)) hx hG p0 p1 p2 (fun z hz => ⟨z, rfl, hz⟩))
  subst e; exact ⟨z, hca, hp⟩
set_option maxRecDepth 100000 in
theorem cw_104_1 {l : Launch} {D : va_G} {b0 : Nat} {ad : Nat → Nat} {Hb : Heap} {tau : Nat → Int64} {d n s : Nat} {S : Nat → xS} {Z : xZ} {h : mx_H} {Post : mx_R → Prop} (hx : XH n s S Z h) (hG : GI n S Z) {x0 : Int} (p0 : (-9223372036854775808) ≤ x0 ∧ x0 ≤ 9223372036854775807) (hP : ∀ (z : Int) (Z' : xZ) (h' : mx_H), XH n s S Z' h' → GI n S Z' → fr' [(14, (-1)), (16, (-1)), (17, (-1)), (18, (-1)), (19, (-1)), (20, 6), (20, 7), (21, (-1)), (22, (-1))] Z Z' → (-3) ≤ z ∧ z ≤ 384 → Post (some (xI z), h')) : mx_J (tB l D b0 ad Hb tau) mt_104 (d + 10) 0 [some (.ref 1), some (xL x0), none] [] h Post := by
    have a1 : 1 < n := lt83 hG.1 rfl
    have s1 : S 1 = .inl (11, [2, 0, 0, 0, 2, 2, 2, 2, 2, 2, 2, 2, 2, 2, 2, 2, 2]) := hG.2.1 1 rfl
    have a20 : 20 < n := lt83 hG.1 rfl
    have s20 : S 20 = .inl (2, [2, 2, 2, 2, 2, 2, 0, 0, 0, 0, 0, 0]) := hG.2.1 20 rfl
    have a36 : 36 < n := lt83 hG.1 rfl
    have s36 : S 36 = .inl (5, [2, 0, 0, 0, 0, 0]) := hG.2.1 36 rfl
    refine mx_J.step (sn_104 0) (fun _ _ => rfl) ?_
    refine JcL (z := 0) (show mx_Sn _ _ 1 (mx_const (.long 0) 2) from sn_104 1) rfl ?_
    have c14 : mx_J (tB l D b0 ad Hb tau) mt_104 (d + 10) 14 [some (.ref 1), some (xL x0), none] [] h Post := by
      refine JcI (z := (-3)) (show mx_Sn _ _ 14 (mx_const (.int (-3)) 16) from sn_104 14) rfl ?_
      exact mx_J.ret (sn_104 16) (fun _ _ => rfl) (hP (-3) Z h hx hG fr_rf (by omega))
    refine Jlif_lt (show mx_Sn _ _ 2 (mx_lif_lt 14 6) from sn_104 2) (by omega) (by omega) (fun q2 => ?_) (fun q2 => ?_)
    · skip
      exact c14 
    · skip
      refine mx_J.step (sn_104 6) (fun _ _ => rfl) ?_
      refine JcL (z := 1000000000000000) (show mx_Sn _ _ 7 (mx_const (.long 1000000000000000) 10) from sn_104 7) rfl ?_
      refine Jlif_le (show mx_Sn _ _ 10 (mx_lif_le 17 14) from sn_104 10) (by omega) (by omega) (fun q3 => ?_) (fun q3 => ?_)
      · skip
        refine mx_J.step (sn_104 17) (fun _ _ => rfl) ?_
        refine JgetR (g := 7) (b := 20) hx (show mx_Sn _ _ 18 (mx_getf 11 7 21) from sn_104 18) a1 s1 rfl rfl (hG.prr 1 7 rfl) ?_
        refine mx_J.step (sn_104 21) (fun _ _ => rfl) ?_
        refine JgetR (g := 12) (b := 36) hx (show mx_Sn _ _ 22 (mx_getf 11 12 25) from sn_104 22) a1 s1 rfl rfl (hG.prr 1 12 rfl) ?_
        have b4 : 0 ≤ Z 36 2 ∧ Z 36 2 ≤ 384 := hG.pr 36 2
        refine JgetI (g := 2) (z := Z 36 2) hx (show mx_Sn _ _ 25 (mx_getf 5 2 28) from sn_104 25) a36 s36 rfl rfl rfl ?_
        obtain ⟨Z5, h5, hc5, hx5, hG5, hf5⟩ := ct_15_20 (d := d + 0) (l := l) (D := D) (b0 := b0) (ad := ad) (Hb := Hb) (tau := tau) hx hG (show 0 ≤ Z 36 2 ∧ Z 36 2 ≤ 384 by omega)
        refine Jcv0 hx (show mx_Sn _ _ 28 (mx_callv 15 2 2 31) from sn_104 28) a20 s20 hc5 rfl rfl rfl ?_
        refine mx_J.step (sn_104 31) (fun _ _ => rfl) ?_
        refine JgetR (g := 7) (b := 20) hx5 (show mx_Sn _ _ 32 (mx_getf 11 7 35) from sn_104 32) a1 s1 rfl rfl (hG5.prr 1 7 rfl) ?_
        refine mx_J.step (sn_104 35) (fun _ _ => rfl) ?_
        obtain ⟨z6, hc6, b6⟩ := ct_16_20 (d := d + 9) (l := l) (D := D) (b0 := b0) (ad := ad) (Hb := Hb) (tau := tau) hx5 hG5 (show 0 ≤ x0 ∧ x0 ≤ 1000000000000000 by omega)
        refine Jcv hx5 (show mx_Sn _ _ 36 (mx_callv 16 2 2 39) from sn_104 36) a20 s20 hc6 rfl rfl rfl ?_
        exact mx_J.ret (sn_104 39) (fun _ _ => rfl) (hP z6 Z5 h5 hx5 hG5 (fr_tr (M := [(14, (-1)), (16, (-1)), (17, (-1)), (18, (-1)), (19, (-1)), (20, 6), (20, 7), (21, (-1)), (22, (-1))]) fr_rf (hf5) (M1 := []) rfl rfl) (by omega))
      · skip
        exact c14 
theorem ct_104_1 {l : Launch} {D : va_G} {b0 : Nat} {ad : Nat → Nat} {Hb : Heap} {tau : Nat → Int64} {d n s : Nat} {S : Nat → xS} {Z : xZ} {h : mx_H} (hx : XH n s S Z h) (hG : GI n S Z) {x0 : Int} (p0 : (-9223372036854775808) ≤ x0 ∧ x0 ≤ 9223372036854775807) : ∃ (z : Int) (Z' : xZ) (h' : mx_H), mx_Ca (tB l D b0 ad Hb tau) (d + 11) 104 [.ref 1, xL x0] h (some (xI z), h') ∧ XH n s S Z' h' ∧ GI n S Z' ∧ fr' [(14, (-1)), (16, (-1)), (17, (-1)), (18, (-1)), (19, (-1)), (20, 6), (20, 7), (21, (-1)), (22, (-1))] Z Z' ∧ ((-3) ≤ z ∧ z ≤ 384) := by
  obtain ⟨r, hca, z, Z', h', e, q⟩ := Jmt (B := tB l D b0 ad Hb tau) (M := mt_104) (mi := 104) (as := [.ref 1, xL x0]) (d := d + 10) (ls := [some (.ref 1), some (xL x0), none]) rfl rfl rfl rfl rfl rfl (cw_104_1 (l := l) (D := D) (b0 := b0) (ad := ad) (Hb := Hb) (tau := tau) (d := d) (Post := fun r => ∃ (z : Int) (Z' : xZ) (h' : mx_H), r = (some (xI z), h') ∧ XH n s S Z' h' ∧ GI n S Z' ∧ fr' [(14, (-1)), (16, (-1)), (17, (-1)), (18, (-1)), (19, (-1)), (20, 6), (20, 7), (21, (-1)), (22, (-1))] Z Z' ∧ ((-3) ≤ z ∧ z ≤ 384)) hx hG p0 (fun z Z' h' q1 q2 q3 q4 => ⟨z, Z', h', rfl, q1, q2, q3, q4⟩))
  subst e; exact ⟨z, Z', h', hca, q⟩
set_option maxRecDepth 100000 in
theorem cw_105_1 {l : Launch} {D : va_G} {b0 : Nat} {ad : Nat → Nat} {Hb : Heap} {tau : Nat → Int64} {d n s : Nat} {S : Nat → xS} {Z : xZ} {h : mx_H} {Post : mx_R → Prop} (hx : XH n s S Z h) (hG : GI n S Z) {x0 : Int} (p0 : (-2147483648) ≤ x0 ∧ x0 ≤ 2147483647) (hP : ∀ (z : Int) (Z' : xZ) (h' : mx_H), XH n s S Z' h' → GI n S Z' → fr' [(14, (-1)), (16, (-1)), (17, (-1)), (18, (-1)), (19, (-1)), (20, 6), (20, 7), (21, (-1)), (22, (-1))] Z Z' → (-2) ≤ z ∧ z ≤ 2147483647 → Post (some (xI z), h')) : mx_J (tB l D b0 ad Hb tau) mt_105 (d + 10) 0 [some (.ref 1), some (xI x0)] [] h Post := by
    have a1 : 1 < n := lt83 hG.1 rfl
    have s1 : S 1 = .inl (11, [2, 0, 0, 0, 2, 2, 2, 2, 2, 2, 2, 2, 2, 2, 2, 2, 2]) := hG.2.1 1 rfl
    have a20 : 20 < n := lt83 hG.1 rfl
    have s20 : S 20 = .inl (2, [2, 2, 2, 2, 2, 2, 0, 0, 0, 0, 0, 0]) := hG.2.1 20 rfl
    have a36 : 36 < n := lt83 hG.1 rfl
    have s36 : S 36 = .inl (5, [2, 0, 0, 0, 0, 0]) := hG.2.1 36 rfl
    refine mx_J.step (sn_105 0) (fun _ _ => rfl) ?_
    have c9 : mx_J (tB l D b0 ad Hb tau) mt_105 (d + 10) 9 [some (.ref 1), some (xI x0)] [] h Post := by
      refine JcI (z := (-2)) (show mx_Sn _ _ 9 (mx_const (.int (-2)) 11) from sn_105 9) rfl ?_
      exact mx_J.ret (sn_105 11) (fun _ _ => rfl) (hP (-2) Z h hx hG fr_rf (by omega))
    refine Jif_lt (show mx_Sn _ _ 1 (mx_if_lt 9 4) from sn_105 1) (by omega) (fun q2 => ?_) (fun q2 => ?_)
    · skip
      exact c9 
    · skip
      refine mx_J.step (sn_105 4) (fun _ _ => rfl) ?_
      refine JcI (z := 1) (show mx_Sn _ _ 5 (mx_const (.int 1) 6) from sn_105 5) rfl ?_
      refine Jicmp_le (show mx_Sn _ _ 6 (mx_icmp_le 12 9) from sn_105 6) (by omega) (by omega) (fun q3 => ?_) (fun q3 => ?_)
      · skip
        refine mx_J.step (sn_105 12) (fun _ _ => rfl) ?_
        refine JgetR (g := 7) (b := 20) hx (show mx_Sn _ _ 13 (mx_getf 11 7 16) from sn_105 13) a1 s1 rfl rfl (hG.prr 1 7 rfl) ?_
        refine mx_J.step (sn_105 16) (fun _ _ => rfl) ?_
        refine JgetR (g := 12) (b := 36) hx (show mx_Sn _ _ 17 (mx_getf 11 12 20) from sn_105 17) a1 s1 rfl rfl (hG.prr 1 12 rfl) ?_
        have b4 : 0 ≤ Z 36 2 ∧ Z 36 2 ≤ 384 := hG.pr 36 2
        refine JgetI (g := 2) (z := Z 36 2) hx (show mx_Sn _ _ 20 (mx_getf 5 2 23) from sn_105 20) a36 s36 rfl rfl rfl ?_
        obtain ⟨Z5, h5, hc5, hx5, hG5, hf5⟩ := ct_15_20 (d := d + 0) (l := l) (D := D) (b0 := b0) (ad := ad) (Hb := Hb) (tau := tau) hx hG (show 0 ≤ Z 36 2 ∧ Z 36 2 ≤ 384 by omega)
        refine Jcv0 hx (show mx_Sn _ _ 23 (mx_callv 15 2 2 26) from sn_105 23) a20 s20 hc5 rfl rfl rfl ?_
        refine mx_J.step (sn_105 26) (fun _ _ => rfl) ?_
        have c47 : ∀ (k6_0 : Int), 0 ≤ k6_0 ∧ k6_0 ≤ 2147483647 → mx_J (tB l D b0 ad Hb tau) mt_105 (d + 10) 47 [some (.ref 1), some (xI x0)] [xI k6_0] h5 Post := by
          intro k6_0 f6_0
          exact mx_J.ret (sn_105 47) (fun _ _ => rfl) (hP k6_0 Z5 h5 hx5 hG5 (fr_tr (M := [(14, (-1)), (16, (-1)), (17, (-1)), (18, (-1)), (19, (-1)), (20, 6), (20, 7), (21, (-1)), (22, (-1))]) fr_rf (hf5) (M1 := []) rfl rfl) (by omega))
        refine Jif_ne (show mx_Sn _ _ 27 (mx_if_ne 40 30) from sn_105 27) (by omega) (fun q7 => ?_) (fun q7 => ?_)
        · skip
          refine mx_J.step (sn_105 40) (fun _ _ => rfl) ?_
          refine JgetR (g := 7) (b := 20) hx5 (show mx_Sn _ _ 41 (mx_getf 11 7 44) from sn_105 41) a1 s1 rfl rfl (hG5.prr 1 7 rfl) ?_
          have b8 : 1 ≤ Z5 20 7 ∧ Z5 20 7 ≤ 2147483647 := hG5.pr 20 7
          refine JgetI (g := 7) (z := Z5 20 7) hx5 (show mx_Sn _ _ 44 (mx_getf 2 7 47) from sn_105 44) a20 s20 rfl rfl rfl ?_
          exact c47 (Z5 20 7) (by omega)
        · skip
          refine mx_J.step (sn_105 30) (fun _ _ => rfl) ?_
          refine JgetR (g := 7) (b := 20) hx5 (show mx_Sn _ _ 31 (mx_getf 11 7 34) from sn_105 31) a1 s1 rfl rfl (hG5.prr 1 7 rfl) ?_
          have b9 : 0 ≤ Z5 20 6 ∧ Z5 20 6 ≤ 2147483647 := hG5.pr 20 6
          refine JgetI (g := 6) (z := Z5 20 6) hx5 (show mx_Sn _ _ 34 (mx_getf 2 6 37) from sn_105 34) a20 s20 rfl rfl rfl ?_
          refine mx_J.step (sn_105 37) (fun _ _ => rfl) ?_
          exact c47 (Z5 20 6) (by omega)
      · skip
        exact c9 
theorem ct_105_1 {l : Launch} {D : va_G} {b0 : Nat} {ad : Nat → Nat} {Hb : Heap} {tau : Nat → Int64} {d n s : Nat} {S : Nat → xS} {Z : xZ} {h : mx_H} (hx : XH n s S Z h) (hG : GI n S Z) {x0 : Int} (p0 : (-2147483648) ≤ x0 ∧ x0 ≤ 2147483647) : ∃ (z : Int) (Z' : xZ) (h' : mx_H), mx_Ca (tB l D b0 ad Hb tau) (d + 11) 105 [.ref 1, xI x0] h (some (xI z), h') ∧ XH n s S Z' h' ∧ GI n S Z' ∧ fr' [(14, (-1)), (16, (-1)), (17, (-1)), (18, (-1)), (19, (-1)), (20, 6), (20, 7), (21, (-1)), (22, (-1))] Z Z' ∧ ((-2) ≤ z ∧ z ≤ 2147483647) := by
  obtain ⟨r, hca, z, Z', h', e, q⟩ := Jmt (B := tB l D b0 ad Hb tau) (M := mt_105) (mi := 105) (as := [.ref 1, xI x0]) (d := d + 10) (ls := [some (.ref 1), some (xI x0)]) rfl rfl rfl rfl rfl rfl (cw_105_1 (l := l) (D := D) (b0 := b0) (ad := ad) (Hb := Hb) (tau := tau) (d := d) (Post := fun r => ∃ (z : Int) (Z' : xZ) (h' : mx_H), r = (some (xI z), h') ∧ XH n s S Z' h' ∧ GI n S Z' ∧ fr' [(14, (-1)), (16, (-1)), (17, (-1)), (18, (-1)), (19, (-1)), (20, 6), (20, 7), (21, (-1)), (22, (-1))] Z Z' ∧ ((-2) ≤ z ∧ z ≤ 2147483647)) hx hG p0 (fun z Z' h' q1 q2 q3 q4 => ⟨z, Z', h', rfl, q1, q2, q3, q4⟩))
  subst e; exact ⟨z, Z', h', hca, q⟩
set_option maxRecDepth 100000 in
theorem cw_106_1 {l : Launch} {D : va_G} {b0 : Nat} {ad : Nat → Nat} {Hb : Heap} {tau : Nat → Int64} {d n s : Nat} {S : Nat → xS} {Z : xZ} {h : mx_H} {Post : mx_R → Prop} (hx : XH n s S Z h) (hG : GI n S Z) {x0 : Int} (p0 : (-2147483648) ≤ x0 ∧ x0 ≤ 2147483647) (hP : ∀ (z : Int) (Z' : xZ) (h' : mx_H), XH n s S Z' h' → GI n S Z' → fr' [(14, (-1)), (16, (-1)), (17, (-1)), (18, (-1)), (19, (-1)), (20, 8), (20, 9), (20, 10), (20, 11), (21, (-1)), (22, (-1)), (23, (-1)), (24, (-1))] Z Z' → (-2147483648) ≤ z ∧ z ≤ 2147483647 → Post (some (xI z), h')) : mx_J (tB l D b0 ad Hb tau) mt_106 (d + 11) 0 [some (.ref 1), some (xI x0)] [] h Post := by
    have a1 : 1 < n := lt83 hG.1 rfl
    have s1 : S 1 = .inl (11, [2, 0, 0, 0, 2, 2, 2, 2, 2, 2, 2, 2, 2, 2, 2, 2, 2]) := hG.2.1 1 rfl
    have a7 : 7 < n := lt83 hG.1 rfl
    have s7 : S 7 = .inl (0, [2, 2, 2, 2, 0, 0]) := hG.2.1 7 rfl
    have a20 : 20 < n := lt83 hG.1 rfl
    have s20 : S 20 = .inl (2, [2, 2, 2, 2, 2, 2, 0, 0, 0, 0, 0, 0]) := hG.2.1 20 rfl
    have a36 : 36 < n := lt83 hG.1 rfl
    have s36 : S 36 = .inl (5, [2, 0, 0, 0, 0, 0]) := hG.2.1 36 rfl
    refine mx_J.step (sn_106 0) (fun _ _ => rfl) ?_
    have c9 : mx_J (tB l D b0 ad Hb tau) mt_106 (d + 11) 9 [some (.ref 1), some (xI x0)] [] h Post := by
      refine JcI (z := (-2)) (show mx_Sn _ _ 9 (mx_const (.int (-2)) 11) from sn_106 9) rfl ?_
      exact mx_J.ret (sn_106 11) (fun _ _ => rfl) (hP (-2) Z h hx hG fr_rf (by omega))
    refine Jif_lt (show mx_Sn _ _ 1 (mx_if_lt 9 4) from sn_106 1) (by omega) (fun q2 => ?_) (fun q2 => ?_)
    · skip
      exact c9 
    · skip
      refine mx_J.step (sn_106 4) (fun _ _ => rfl) ?_
      refine JcI (z := 5) (show mx_Sn _ _ 5 (mx_const (.int 5) 6) from sn_106 5) rfl ?_
      refine Jicmp_le (show mx_Sn _ _ 6 (mx_icmp_le 12 9) from sn_106 6) (by omega) (by omega) (fun q3 => ?_) (fun q3 => ?_)
      · skip
        refine mx_J.step (sn_106 12) (fun _ _ => rfl) ?_
        refine Jif_ne (show mx_Sn _ _ 13 (mx_if_ne 24 16) from sn_106 13) (by omega) (fun q4 => ?_) (fun q4 => ?_)
        · skip
          refine mx_J.step (sn_106 24) (fun _ _ => rfl) ?_
          refine JgetR (g := 7) (b := 20) hx (show mx_Sn _ _ 25 (mx_getf 11 7 28) from sn_106 25) a1 s1 rfl rfl (hG.prr 1 7 rfl) ?_
          obtain ⟨Z5, h5, hc5, hx5, hG5, hf5⟩ := ct_18_20 (d := d + 0) (l := l) (D := D) (b0 := b0) (ad := ad) (Hb := Hb) (tau := tau) hx hG 
          refine Jcv0 hx (show mx_Sn _ _ 28 (mx_callv 18 1 2 31) from sn_106 28) a20 s20 hc5 rfl rfl rfl ?_
          refine mx_J.step (sn_106 31) (fun _ _ => rfl) ?_
          refine Jtsw (z := x0) (show mx_Sn _ _ 32 (mx_tsw 1 4 [64, 72, 80, 88] 96) from sn_106 32) (by omega) (fun q6 => ?_) (fun q6 => ?_)
          · skip
            refine mx_J.step (sn_106 96) (fun _ _ => rfl) ?_
            refine JgetR (g := 7) (b := 20) hx5 (show mx_Sn _ _ 97 (mx_getf 11 7 100) from sn_106 97) a1 s1 rfl rfl (hG5.prr 1 7 rfl) ?_
            refine mx_J.step (sn_106 100) (fun _ _ => rfl) ?_
            refine JgetR (g := 12) (b := 36) hx5 (show mx_Sn _ _ 101 (mx_getf 11 12 104) from sn_106 101) a1 s1 rfl rfl (hG5.prr 1 12 rfl) ?_
            have b7 : 0 ≤ Z 36 2 ∧ Z 36 2 ≤ 384 := hG.pr 36 2
            refine JgetI (g := 2) (z := Z 36 2) hx5 (show mx_Sn _ _ 104 (mx_getf 5 2 107) from sn_106 104) a36 s36 rfl rfl (hf5 36 2 rfl) ?_
            obtain ⟨z8, hc8, b8⟩ := ct_21_20 (d := d + 10) (l := l) (D := D) (b0 := b0) (ad := ad) (Hb := Hb) (tau := tau) hx5 hG5 (show 0 ≤ Z 36 2 ∧ Z 36 2 ≤ 384 by omega)
            refine Jcv hx5 (show mx_Sn _ _ 107 (mx_callv 21 2 2 110) from sn_106 107) a20 s20 hc8 rfl rfl rfl ?_
            exact mx_J.ret (sn_106 110) (fun _ _ => rfl) (hP z8 Z5 h5 hx5 hG5 (fr_tr (M := [(14, (-1)), (16, (-1)), (17, (-1)), (18, (-1)), (19, (-1)), (20, 8), (20, 9), (20, 10), (20, 11), (21, (-1)), (22, (-1)), (23, (-1)), (24, (-1))]) fr_rf (hf5) (M1 := []) rfl rfl) (by omega))
          · skip
            have e6 : x0 = 1 ∨ x0 = 2 ∨ x0 = 3 ∨ x0 = 4 := by omega
            rcases e6 with e6 | e6 | e6 | e6
            · refine ⟨64, by rw [e6]; rfl, ?_⟩
              refine mx_J.step (sn_106 64) (fun _ _ => rfl) ?_
              refine JgetR (g := 7) (b := 20) hx5 (show mx_Sn _ _ 65 (mx_getf 11 7 68) from sn_106 65) a1 s1 rfl rfl (hG5.prr 1 7 rfl) ?_
              have b9 : (-2147483648) ≤ Z5 20 8 ∧ Z5 20 8 ≤ 2147483647 := hG5.pr 20 8
              refine JgetI (g := 8) (z := Z5 20 8) hx5 (show mx_Sn _ _ 68 (mx_getf 2 8 71) from sn_106 68) a20 s20 rfl rfl rfl ?_
              exact mx_J.ret (sn_106 71) (fun _ _ => rfl) (hP (Z5 20 8) Z5 h5 hx5 hG5 (fr_tr (M := [(14, (-1)), (16, (-1)), (17, (-1)), (18, (-1)), (19, (-1)), (20, 8), (20, 9), (20, 10), (20, 11), (21, (-1)), (22, (-1)), (23, (-1)), (24, (-1))]) fr_rf (hf5) (M1 := []) rfl rfl) (by omega))
            · refine ⟨72, by rw [e6]; rfl, ?_⟩
              refine mx_J.step (sn_106 72) (fun _ _ => rfl) ?_
              refine JgetR (g := 7) (b := 20) hx5 (show mx_Sn _ _ 73 (mx_getf 11 7 76) from sn_106 73) a1 s1 rfl rfl (hG5.prr 1 7 rfl) ?_
              have b10 : (-2147483648) ≤ Z5 20 9 ∧ Z5 20 9 ≤ 2147483647 := hG5.pr 20 9
              refine JgetI (g := 9) (z := Z5 20 9) hx5 (show mx_Sn _ _ 76 (mx_getf 2 9 79) from sn_106 76) a20 s20 rfl rfl rfl ?_
              exact mx_J.ret (sn_106 79) (fun _ _ => rfl) (hP (Z5 20 9) Z5 h5 hx5 hG5 (fr_tr (M := [(14, (-1)), (16, (-1)), (17, (-1)), (18, (-1)), (19, (-1)), (20, 8), (20, 9), (20, 10), (20, 11), (21, (-1)), (22, (-1)), (23, (-1)), (24, (-1))]) fr_rf (hf5) (M1 := []) rfl rfl) (by omega))
            · refine ⟨80, by rw [e6]; rfl, ?_⟩
              refine mx_J.step (sn_106 80) (fun _ _ => rfl) ?_
              refine JgetR (g := 7) (b := 20) hx5 (show mx_Sn _ _ 81 (mx_getf 11 7 84) from sn_106 81) a1 s1 rfl rfl (hG5.prr 1 7 rfl) ?_
              have b11 : (-2147483648) ≤ Z5 20 10 ∧ Z5 20 10 ≤ 2147483647 := hG5.pr 20 10
              refine JgetI (g := 10) (z := Z5 20 10) hx5 (show mx_Sn _ _ 84 (mx_getf 2 10 87) from sn_106 84) a20 s20 rfl rfl rfl ?_
              exact mx_J.ret (sn_106 87) (fun _ _ => rfl) (hP (Z5 20 10) Z5 h5 hx5 hG5 (fr_tr (M := [(14, (-1)), (16, (-1)), (17, (-1)), (18, (-1)), (19, (-1)), (20, 8), (20, 9), (20, 10), (20, 11), (21, (-1)), (22, (-1)), (23, (-1)), (24, (-1))]) fr_rf (hf5) (M1 := []) rfl rfl) (by omega))
            · refine ⟨88, by rw [e6]; rfl, ?_⟩
              refine mx_J.step (sn_106 88) (fun _ _ => rfl) ?_
              refine JgetR (g := 7) (b := 20) hx5 (show mx_Sn _ _ 89 (mx_getf 11 7 92) from sn_106 89) a1 s1 rfl rfl (hG5.prr 1 7 rfl) ?_
              have b12 : (-2147483648) ≤ Z5 20 11 ∧ Z5 20 11 ≤ 2147483647 := hG5.pr 20 11
              refine JgetI (g := 11) (z := Z5 20 11) hx5 (show mx_Sn _ _ 92 (mx_getf 2 11 95) from sn_106 92) a20 s20 rfl rfl rfl ?_
              exact mx_J.ret (sn_106 95) (fun _ _ => rfl) (hP (Z5 20 11) Z5 h5 hx5 hG5 (fr_tr (M := [(14, (-1)), (16, (-1)), (17, (-1)), (18, (-1)), (19, (-1)), (20, 8), (20, 9), (20, 10), (20, 11), (21, (-1)), (22, (-1)), (23, (-1)), (24, (-1))]) fr_rf (hf5) (M1 := []) rfl rfl) (by omega))
        · skip
          refine mx_J.step (sn_106 16) (fun _ _ => rfl) ?_
          refine JgetR (g := 5) (b := 7) hx (show mx_Sn _ _ 17 (mx_getf 11 5 20) from sn_106 17) a1 s1 rfl rfl (hG.prr 1 5 rfl) ?_
          have b13 : 0 ≤ Z 7 5 ∧ Z 7 5 ≤ 385 := hG.pr 7 5
          refine JgetI (g := 5) (z := Z 7 5) hx (show mx_Sn _ _ 20 (mx_getf 0 5 23) from sn_106 20) a7 s7 rfl rfl rfl ?_
          exact mx_J.ret (sn_106 23) (fun _ _ => rfl) (hP (Z 7 5) Z h hx hG fr_rf (by omega))
      · skip
        exact c9 
theorem ct_106_1 {l : Launch} {D : va_G} {b0 : Nat} {ad : Nat → Nat} {Hb : Heap} {tau : Nat → Int64} {d n s : Nat} {S : Nat → xS} {Z : xZ} {h : mx_H} (hx : XH n s S Z h) (hG : GI n S Z) {x0 : Int} (p0 : (-2147483648) ≤ x0 ∧ x0 ≤ 2147483647) : ∃ (z : Int) (Z' : xZ) (h' : mx_H), mx_Ca (tB l D b0 ad Hb tau) (d + 12) 106 [.ref 1, xI x0] h (some (xI z), h') ∧ XH n s S Z' h' ∧ GI n S Z' ∧ fr' [(14, (-1)), (16, (-1)), (17, (-1)), (18, (-1)), (19, (-1)), (20, 8), (20, 9), (20, 10), (20, 11), (21, (-1)), (22, (-1)), (23, (-1)), (24, (-1))] Z Z' ∧ ((-2147483648) ≤ z ∧ z ≤ 2147483647) := by
  obtain ⟨r, hca, z, Z', h', e, q⟩ := Jmt (B := tB l D b0 ad Hb tau) (M := mt_106) (mi := 106) (as := [.ref 1, xI x0]) (d := d + 11) (ls := [some (.ref 1), some (xI x0)]) rfl rfl rfl rfl rfl rfl (cw_106_1 (l := l) (D := D) (b0 := b0) (ad := ad) (Hb := Hb) (tau := tau) (d := d) (Post := fun r => ∃ (z : Int) (Z' : xZ) (h' : mx_H), r = (some (xI z), h') ∧ XH n s S Z' h' ∧ GI n S Z' ∧ fr' [(14, (-1)), (16, (-1)), (17, (-1)), (18, (-1)), (19, (-1)), (20, 8), (20, 9), (20, 10), (20, 11), (21, (-1)), (22, (-1)), (23, (-1)), (24, (-1))] Z Z' ∧ ((-2147483648) ≤ z ∧ z ≤ 2147483647)) hx hG p0 (fun z Z' h' q1 q2 q3 q4 => ⟨z, Z', h', rfl, q1, q2, q3, q4⟩))
  subst e; exact ⟨z, Z', h', hca, q⟩
set_option maxRecDepth 100000 in
theorem cw_107_1 {l : Launch} {D : va_G} {b0 : Nat} {ad : Nat → Nat} {Hb : Heap} {tau : Nat → Int64} {d n s : Nat} {S : Nat → xS} {Z : xZ} {h : mx_H} {Post : mx_R → Prop} (hx : XH n s S Z h) (hG : GI n S Z) {x0 : Int} (p0 : (-2147483648) ≤ x0 ∧ x0 ≤ 2147483647) (hP : ∀ (z : Int) (Z' : xZ) (h' : mx_H), XH n s S Z' h' → GI n S Z' → fr' [(14, (-1)), (16, (-1)), (17, (-1)), (18, (-1)), (19, (-1))] Z Z' → (-2147483648) ≤ z ∧ z ≤ 2147483647 → Post (some (xI z), h')) : mx_J (tB l D b0 ad Hb tau) mt_107 (d + 10) 0 [some (.ref 1), some (xI x0)] [] h Post := by
    have a1 : 1 < n := lt83 hG.1 rfl
    have s1 : S 1 = .inl (11, [2, 0, 0, 0, 2, 2, 2, 2, 2, 2, 2, 2, 2, 2, 2, 2, 2]) := hG.2.1 1 rfl
    have a20 : 20 < n := lt83 hG.1 rfl
    have s20 : S 20 = .inl (2, [2, 2, 2, 2, 2, 2, 0, 0, 0, 0, 0, 0]) := hG.2.1 20 rfl
    have a36 : 36 < n := lt83 hG.1 rfl
    have s36 : S 36 = .inl (5, [2, 0, 0, 0, 0, 0]) := hG.2.1 36 rfl
    refine mx_J.step (sn_107 0) (fun _ _ => rfl) ?_
    have c10 : mx_J (tB l D b0 ad Hb tau) mt_107 (d + 10) 10 [some (.ref 1), some (xI x0)] [] h Post := by
      refine JcI (z := (-3)) (show mx_Sn _ _ 10 (mx_const (.int (-3)) 12) from sn_107 10) rfl ?_
      exact mx_J.ret (sn_107 12) (fun _ _ => rfl) (hP (-3) Z h hx hG fr_rf (by omega))
    refine Jif_lt (show mx_Sn _ _ 1 (mx_if_lt 10 4) from sn_107 1) (by omega) (fun q2 => ?_) (fun q2 => ?_)
    · skip
      exact c10 
    · skip
      refine mx_J.step (sn_107 4) (fun _ _ => rfl) ?_
      refine JcI (z := 9) (show mx_Sn _ _ 5 (mx_const (.int 9) 7) from sn_107 5) rfl ?_
      refine Jicmp_le (show mx_Sn _ _ 7 (mx_icmp_le 13 10) from sn_107 7) (by omega) (by omega) (fun q3 => ?_) (fun q3 => ?_)
      · skip
        refine mx_J.step (sn_107 13) (fun _ _ => rfl) ?_
        refine JgetR (g := 7) (b := 20) hx (show mx_Sn _ _ 14 (mx_getf 11 7 17) from sn_107 14) a1 s1 rfl rfl (hG.prr 1 7 rfl) ?_
        refine mx_J.step (sn_107 17) (fun _ _ => rfl) ?_
        refine JgetR (g := 12) (b := 36) hx (show mx_Sn _ _ 18 (mx_getf 11 12 21) from sn_107 18) a1 s1 rfl rfl (hG.prr 1 12 rfl) ?_
        have b4 : 0 ≤ Z 36 2 ∧ Z 36 2 ≤ 384 := hG.pr 36 2
        refine JgetI (g := 2) (z := Z 36 2) hx (show mx_Sn _ _ 21 (mx_getf 5 2 24) from sn_107 21) a36 s36 rfl rfl rfl ?_
        refine mx_J.step (sn_107 24) (fun _ _ => rfl) ?_
        obtain ⟨z5, Z5, h5, hc5, hx5, hG5, hf5, b5⟩ := ct_17_20 (d := d + 0) (l := l) (D := D) (b0 := b0) (ad := ad) (Hb := Hb) (tau := tau) hx hG (show (-2147483648) ≤ Z 36 2 ∧ Z 36 2 ≤ 2147483647 by omega) (show 0 ≤ x0 ∧ x0 ≤ 9 by omega)
        refine Jcv hx (show mx_Sn _ _ 25 (mx_callv 17 3 2 28) from sn_107 25) a20 s20 hc5 rfl rfl rfl ?_
        exact mx_J.ret (sn_107 28) (fun _ _ => rfl) (hP z5 Z5 h5 hx5 hG5 (fr_tr (M := [(14, (-1)), (16, (-1)), (17, (-1)), (18, (-1)), (19, (-1))]) fr_rf (hf5) (M1 := []) rfl rfl) (by omega))
      · skip
        exact c10 
theorem ct_107_1 {l : Launch} {D : va_G} {b0 : Nat} {ad : Nat → Nat} {Hb : Heap} {tau : Nat → Int64} {d n s : Nat} {S : Nat → xS} {Z : xZ} {h : mx_H} (hx : XH n s S Z h) (hG : GI n S Z) {x0 : Int} (p0 : (-2147483648) ≤ x0 ∧ x0 ≤ 2147483647) : ∃ (z : Int) (Z' : xZ) (h' : mx_H), mx_Ca (tB l D b0 ad Hb tau) (d + 11) 107 [.ref 1, xI x0] h (some (xI z), h') ∧ XH n s S Z' h' ∧ GI n S Z' ∧ fr' [(14, (-1)), (16, (-1)), (17, (-1)), (18, (-1)), (19, (-1))] Z Z' ∧ ((-2147483648) ≤ z ∧ z ≤ 2147483647) := by
  obtain ⟨r, hca, z, Z', h', e, q⟩ := Jmt (B := tB l D b0 ad Hb tau) (M := mt_107) (mi := 107) (as := [.ref 1, xI x0]) (d := d + 10) (ls := [some (.ref 1), some (xI x0)]) rfl rfl rfl rfl rfl rfl (cw_107_1 (l := l) (D := D) (b0 := b0) (ad := ad) (Hb := Hb) (tau := tau) (d := d) (Post := fun r => ∃ (z : Int) (Z' : xZ) (h' : mx_H), r = (some (xI z), h') ∧ XH n s S Z' h' ∧ GI n S Z' ∧ fr' [(14, (-1)), (16, (-1)), (17, (-1)), (18, (-1)), (19, (-1))] Z Z' ∧ ((-2147483648) ≤ z ∧ z ≤ 2147483647)) hx hG p0 (fun z Z' h' q1 q2 q3 q4 => ⟨z, Z', h', rfl, q1, q2, q3, q4⟩))
  subst e; exact ⟨z, Z', h', hca, q⟩
set_option maxRecDepth 100000 in
theorem cw_110_1 {l : Launch} {D : va_G} {b0 : Nat} {ad : Nat → Nat} {Hb : Heap} {tau : Nat → Int64} {d n s : Nat} {S : Nat → xS} {Z : xZ} {h : mx_H} {Post : mx_R → Prop} (hx : XH n s S Z h) (hG : GI n S Z) {x0 x1 : Int} (p0 : (-2147483648) ≤ x0 ∧ x0 ≤ 2147483647) (p1 : (-2147483648) ≤ x1 ∧ x1 ≤ 2147483647) (hP : ∀ (z : Int) (Z' : xZ) (h' : mx_H), XH n s S Z' h' → GI n S Z' → fr' [(14, (-1)), (16, (-1)), (17, (-1)), (18, (-1)), (19, (-1)), (33, (-1))] Z Z' → (-9223372036854775808) ≤ z ∧ z ≤ 9223372036854775807 → Post (some (xL z), h')) : mx_J (tB l D b0 ad Hb tau) mt_110 (d + 9) 0 [some (.ref 1), some (xI x0), some (xI x1), none] [] h Post := by
    have a1 : 1 < n := lt83 hG.1 rfl
    have s1 : S 1 = .inl (11, [2, 0, 0, 0, 2, 2, 2, 2, 2, 2, 2, 2, 2, 2, 2, 2, 2]) := hG.2.1 1 rfl
    have a32 : 32 < n := lt83 hG.1 rfl
    have s32 : S 32 = .inl (9, [2, 2, 2]) := hG.2.1 32 rfl
    have a36 : 36 < n := lt83 hG.1 rfl
    have s36 : S 36 = .inl (5, [2, 0, 0, 0, 0, 0]) := hG.2.1 36 rfl
    refine mx_J.step (sn_110 0) (fun _ _ => rfl) ?_
    refine JcI (z := 1) (show mx_Sn _ _ 1 (mx_const (.int 1) 2) from sn_110 1) rfl ?_
    have c21 : mx_J (tB l D b0 ad Hb tau) mt_110 (d + 9) 21 [some (.ref 1), some (xI x0), some (xI x1), none] [] h Post := by
      refine JcL (z := (-3)) (show mx_Sn _ _ 21 (mx_const (.long (-3)) 24) from sn_110 21) rfl ?_
      exact mx_J.ret (sn_110 24) (fun _ _ => rfl) (hP (-3) Z h hx hG fr_rf (by omega))
    refine Jicmp_lt (show mx_Sn _ _ 2 (mx_icmp_lt 21 5) from sn_110 2) (by omega) (by omega) (fun q2 => ?_) (fun q2 => ?_)
    · skip
      exact c21 
    · skip
      refine mx_J.step (sn_110 5) (fun _ _ => rfl) ?_
      refine JcI (z := 18) (show mx_Sn _ _ 6 (mx_const (.int 18) 8) from sn_110 6) rfl ?_
      refine Jicmp_gt (show mx_Sn _ _ 8 (mx_icmp_gt 21 11) from sn_110 8) (by omega) (by omega) (fun q3 => ?_) (fun q3 => ?_)
      · skip
        exact c21 
      · skip
        refine mx_J.step (sn_110 11) (fun _ _ => rfl) ?_
        refine Jif_lt (show mx_Sn _ _ 12 (mx_if_lt 21 15) from sn_110 12) (by omega) (fun q4 => ?_) (fun q4 => ?_)
        · skip
          exact c21 
        · skip
          refine mx_J.step (sn_110 15) (fun _ _ => rfl) ?_
          refine JcI (z := 9) (show mx_Sn _ _ 16 (mx_const (.int 9) 18) from sn_110 16) rfl ?_
          refine Jicmp_le (show mx_Sn _ _ 18 (mx_icmp_le 25 21) from sn_110 18) (by omega) (by omega) (fun q5 => ?_) (fun q5 => ?_)
          · skip
            refine mx_J.step (sn_110 25) (fun _ _ => rfl) ?_
            refine JgetR (g := 9) (b := 32) hx (show mx_Sn _ _ 26 (mx_getf 11 9 29) from sn_110 26) a1 s1 rfl rfl (hG.prr 1 9 rfl) ?_
            refine mx_J.step (sn_110 29) (fun _ _ => rfl) ?_
            refine JgetR (g := 12) (b := 36) hx (show mx_Sn _ _ 30 (mx_getf 11 12 33) from sn_110 30) a1 s1 rfl rfl (hG.prr 1 12 rfl) ?_
            have b6 : 0 ≤ Z 36 2 ∧ Z 36 2 ≤ 384 := hG.pr 36 2
            refine JgetI (g := 2) (z := Z 36 2) hx (show mx_Sn _ _ 33 (mx_getf 5 2 36) from sn_110 33) a36 s36 rfl rfl rfl ?_
            obtain ⟨Z7, h7, hc7, hx7, hG7, hf7⟩ := ct_71_32 (d := d + 7) (l := l) (D := D) (b0 := b0) (ad := ad) (Hb := Hb) (tau := tau) hx hG (show (-2147483648) ≤ Z 36 2 ∧ Z 36 2 ≤ 2147483647 by omega)
            refine Jcv0 hx (show mx_Sn _ _ 36 (mx_callv 71 2 9 39) from sn_110 36) a32 s32 hc7 rfl rfl rfl ?_
            refine JcI (z := 0) (show mx_Sn _ _ 39 (mx_const (.int 0) 40) from sn_110 39) rfl ?_
            refine mx_J.step (ls2 := [some (.ref 1), some (xI x0), some (xI x1), some (xI 0)]) (sn_110 40) (fun _ _ => rfl) ?_
            have c41 : ∀ (m8 : Nat) (w8_3 : Int) (Z9 : xZ) (h9 : mx_H), 9 - w8_3 < (m8 : Int) → 0 ≤ w8_3 ∧ w8_3 ≤ 9 → XH n s S Z9 h9 → GI n S Z9 → fr' [(14, (-1)), (16, (-1)), (17, (-1)), (18, (-1)), (19, (-1)), (33, (-1))] Z7 Z9 → mx_J (tB l D b0 ad Hb tau) mt_110 (d + 9) 41 [some (.ref 1), some (xI x0), some (xI x1), some (xI w8_3)] [] h9 Post := by
              intro m8
              induction m8 with
              | zero => intro w8_3 Z9 h9 q8 f8_0 hx9 hG9 hf9; exact absurd q8 (by omega)
              | succ m8 ih8 =>
                intro w8_3 Z9 h9 q8 f8_0 hx9 hG9 hf9
                refine mx_J.step (sn_110 41) (fun _ _ => rfl) ?_
                refine mx_J.step (sn_110 42) (fun _ _ => rfl) ?_
                refine Jicmp_ge (show mx_Sn _ _ 43 (mx_icmp_ge 61 46) from sn_110 43) (by omega) (by omega) (fun q10 => ?_) (fun q10 => ?_)
                · skip
                  refine mx_J.step (sn_110 61) (fun _ _ => rfl) ?_
                  refine JgetR (g := 9) (b := 32) hx9 (show mx_Sn _ _ 62 (mx_getf 11 9 65) from sn_110 62) a1 s1 rfl rfl (hG9.prr 1 9 rfl) ?_
                  refine mx_J.step (sn_110 65) (fun _ _ => rfl) ?_
                  refine mx_J.step (sn_110 66) (fun _ _ => rfl) ?_
                  refine mx_J.step (sn_110 67) (fun _ _ => rfl) ?_
                  obtain ⟨z11, hc11, b11⟩ := ct_75_32 (d := d + 7) (l := l) (D := D) (b0 := b0) (ad := ad) (Hb := Hb) (tau := tau) hx9 hG9 (show 0 ≤ x1 ∧ x1 ≤ 9 by omega) (show 1 ≤ x0 ∧ x0 ≤ 18 by omega) (show 1 ≤ x0 ∧ x0 ≤ 18 by omega)
                  refine Jcv hx9 (show mx_Sn _ _ 68 (mx_callv 75 4 9 71) from sn_110 68) a32 s32 hc11 rfl rfl rfl ?_
                  exact mx_J.ret (sn_110 71) (fun _ _ => rfl) (hP z11 Z9 h9 hx9 hG9 (fr_tr (M := [(14, (-1)), (16, (-1)), (17, (-1)), (18, (-1)), (19, (-1)), (33, (-1))]) (fr_tr (M := [(14, (-1)), (16, (-1)), (17, (-1)), (18, (-1)), (19, (-1)), (33, (-1))]) fr_rf (hf7) (M1 := []) rfl rfl) (hf9) rfl rfl) (by omega))
                · skip
                  refine mx_J.step (sn_110 46) (fun _ _ => rfl) ?_
                  refine JgetR (g := 9) (b := 32) hx9 (show mx_Sn _ _ 47 (mx_getf 11 9 50) from sn_110 47) a1 s1 rfl rfl (hG9.prr 1 9 rfl) ?_
                  refine mx_J.step (sn_110 50) (fun _ _ => rfl) ?_
                  refine JcI (z := (-1)) (show mx_Sn _ _ 51 (mx_const (.int (-1)) 52) from sn_110 51) rfl ?_
                  obtain ⟨Z12, h12, hc12, hx12, hG12, hf12⟩ := ct_73_32 (d := d + 0) (l := l) (D := D) (b0 := b0) (ad := ad) (Hb := Hb) (tau := tau) hx9 hG9 (show 0 ≤ w8_3 ∧ w8_3 ≤ 8 by omega) (show (-1) ≤ (-1) ∧ (-1) ≤ 18 by omega)
                  refine Jcv0 hx9 (show mx_Sn _ _ 52 (mx_callv 73 3 9 55) from sn_110 52) a32 s32 hc12 rfl rfl rfl ?_
                  refine Jiinc (z := w8_3) (cz := 1) (ls2 := [some (.ref 1), some (xI x0), some (xI x1), some (xI (w8_3 + 1))]) (show mx_Sn _ _ 55 (mx_iinc 3 1 58) from sn_110 55) rfl rfl rfl rfl ?_
                  refine mx_J.step (sn_110 58) (fun _ _ => rfl) ?_
                  exact ih8 (w8_3 + 1) Z12 h12 (by omega) (by omega) hx12 hG12 (fr_tr (M := [(14, (-1)), (16, (-1)), (17, (-1)), (18, (-1)), (19, (-1)), (33, (-1))]) (fr_tr (M := [(14, (-1)), (16, (-1)), (17, (-1)), (18, (-1)), (19, (-1)), (33, (-1))]) fr_rf (hf9) (M1 := []) rfl rfl) (hf12) rfl rfl)
            exact c41 (Int.toNat (9 - 0) + 1) 0 Z7 h7 (by omega) (by omega) hx7 hG7 fr_rf
          · skip
            exact c21 
theorem ct_110_1 {l : Launch} {D : va_G} {b0 : Nat} {ad : Nat → Nat} {Hb : Heap} {tau : Nat → Int64} {d n s : Nat} {S : Nat → xS} {Z : xZ} {h : mx_H} (hx : XH n s S Z h) (hG : GI n S Z) {x0 x1 : Int} (p0 : (-2147483648) ≤ x0 ∧ x0 ≤ 2147483647) (p1 : (-2147483648) ≤ x1 ∧ x1 ≤ 2147483647) : ∃ (z : Int) (Z' : xZ) (h' : mx_H), mx_Ca (tB l D b0 ad Hb tau) (d + 10) 110 [.ref 1, xI x0, xI x1] h (some (xL z), h') ∧ XH n s S Z' h' ∧ GI n S Z' ∧ fr' [(14, (-1)), (16, (-1)), (17, (-1)), (18, (-1)), (19, (-1)), (33, (-1))] Z Z' ∧ ((-9223372036854775808) ≤ z ∧ z ≤ 9223372036854775807) := by
  obtain ⟨r, hca, z, Z', h', e, q⟩ := Jmt (B := tB l D b0 ad Hb tau) (M := mt_110) (mi := 110) (as := [.ref 1, xI x0, xI x1]) (d := d + 9) (ls := [some (.ref 1), some (xI x0), some (xI x1), none]) rfl rfl rfl rfl rfl rfl (cw_110_1 (l := l) (D := D) (b0 := b0) (ad := ad) (Hb := Hb) (tau := tau) (d := d) (Post := fun r => ∃ (z : Int) (Z' : xZ) (h' : mx_H), r = (some (xL z), h') ∧ XH n s S Z' h' ∧ GI n S Z' ∧ fr' [(14, (-1)), (16, (-1)), (17, (-1)), (18, (-1)), (19, (-1)), (33, (-1))] Z Z' ∧ ((-9223372036854775808) ≤ z ∧ z ≤ 9223372036854775807)) hx hG p0 p1 (fun z Z' h' q1 q2 q3 q4 => ⟨z, Z', h', rfl, q1, q2, q3, q4⟩))
  subst e; exact ⟨z, Z', h', hca, q⟩
set_option maxRecDepth 100000 in
theorem cw_111_1 {l : Launch} {D : va_G} {b0 : Nat} {ad : Nat → Nat} {Hb : Heap} {tau : Nat → Int64} {d n s : Nat} {S : Nat → xS} {Z : xZ} {h : mx_H} {Post : mx_R → Prop} (hx : XH n s S Z h) (hG : GI n S Z) {x0 : Int} (p0 : (-2147483648) ≤ x0 ∧ x0 ≤ 2147483647) (hP : ∀ (z : Int) (Z' : xZ) (h' : mx_H), XH n s S Z' h' → GI n S Z' → fr' [(14, (-1)), (16, (-1)), (17, (-1)), (18, (-1)), (19, (-1)), (29, (-1))] Z Z' → (-2147483648) ≤ z ∧ z ≤ 2147483647 → Post (some (xI z), h')) : mx_J (tB l D b0 ad Hb tau) mt_111 (d + 10) 0 [some (.ref 1), some (xI x0)] [] h Post := by
    have a1 : 1 < n := lt83 hG.1 rfl
    have s1 : S 1 = .inl (11, [2, 0, 0, 0, 2, 2, 2, 2, 2, 2, 2, 2, 2, 2, 2, 2, 2]) := hG.2.1 1 rfl
    have a25 : 25 < n := lt83 hG.1 rfl
    have s25 : S 25 = .inl (8, [2, 2, 2, 2, 2, 2, 2, 2, 0]) := hG.2.1 25 rfl
    have a36 : 36 < n := lt83 hG.1 rfl
    have s36 : S 36 = .inl (5, [2, 0, 0, 0, 0, 0]) := hG.2.1 36 rfl
    refine mx_J.step (sn_111 0) (fun _ _ => rfl) ?_
    refine JcI (z := 1) (show mx_Sn _ _ 1 (mx_const (.int 1) 2) from sn_111 1) rfl ?_
    have c11 : mx_J (tB l D b0 ad Hb tau) mt_111 (d + 10) 11 [some (.ref 1), some (xI x0)] [] h Post := by
      refine JcI (z := (-3)) (show mx_Sn _ _ 11 (mx_const (.int (-3)) 13) from sn_111 11) rfl ?_
      exact mx_J.ret (sn_111 13) (fun _ _ => rfl) (hP (-3) Z h hx hG fr_rf (by omega))
    refine Jicmp_lt (show mx_Sn _ _ 2 (mx_icmp_lt 11 5) from sn_111 2) (by omega) (by omega) (fun q2 => ?_) (fun q2 => ?_)
    · skip
      exact c11 
    · skip
      refine mx_J.step (sn_111 5) (fun _ _ => rfl) ?_
      refine JcI (z := 18) (show mx_Sn _ _ 6 (mx_const (.int 18) 8) from sn_111 6) rfl ?_
      refine Jicmp_le (show mx_Sn _ _ 8 (mx_icmp_le 14 11) from sn_111 8) (by omega) (by omega) (fun q3 => ?_) (fun q3 => ?_)
      · skip
        refine mx_J.step (sn_111 14) (fun _ _ => rfl) ?_
        refine JgetR (g := 8) (b := 25) hx (show mx_Sn _ _ 15 (mx_getf 11 8 18) from sn_111 15) a1 s1 rfl rfl (hG.prr 1 8 rfl) ?_
        refine mx_J.step (sn_111 18) (fun _ _ => rfl) ?_
        refine JgetR (g := 12) (b := 36) hx (show mx_Sn _ _ 19 (mx_getf 11 12 22) from sn_111 19) a1 s1 rfl rfl (hG.prr 1 12 rfl) ?_
        have b4 : 0 ≤ Z 36 2 ∧ Z 36 2 ≤ 384 := hG.pr 36 2
        refine JgetI (g := 2) (z := Z 36 2) hx (show mx_Sn _ _ 22 (mx_getf 5 2 25) from sn_111 22) a36 s36 rfl rfl rfl ?_
        refine mx_J.step (sn_111 25) (fun _ _ => rfl) ?_
        obtain ⟨z5, Z5, h5, hc5, hx5, hG5, hf5, b5⟩ := ct_64_25 (d := d + 0) (l := l) (D := D) (b0 := b0) (ad := ad) (Hb := Hb) (tau := tau) hx hG (show 0 ≤ Z 36 2 ∧ Z 36 2 ≤ 384 by omega) (show 1 ≤ x0 ∧ x0 ≤ 18 by omega)
        refine Jcv hx (show mx_Sn _ _ 26 (mx_callv 64 3 8 29) from sn_111 26) a25 s25 hc5 rfl rfl rfl ?_
        exact mx_J.ret (sn_111 29) (fun _ _ => rfl) (hP z5 Z5 h5 hx5 hG5 (fr_tr (M := [(14, (-1)), (16, (-1)), (17, (-1)), (18, (-1)), (19, (-1)), (29, (-1))]) fr_rf (hf5) (M1 := []) rfl rfl) (by omega))
      · skip
        exact c11 
theorem ct_111_1 {l : Launch} {D : va_G} {b0 : Nat} {ad : Nat → Nat} {Hb : Heap} {tau : Nat → Int64} {d n s : Nat} {S : Nat → xS} {Z : xZ} {h : mx_H} (hx : XH n s S Z h) (hG : GI n S Z) {x0 : Int} (p0 : (-2147483648) ≤ x0 ∧ x0 ≤ 2147483647) : ∃ (z : Int) (Z' : xZ) (h' : mx_H), mx_Ca (tB l D b0 ad Hb tau) (d + 11) 111 [.ref 1, xI x0] h (some (xI z), h') ∧ XH n s S Z' h' ∧ GI n S Z' ∧ fr' [(14, (-1)), (16, (-1)), (17, (-1)), (18, (-1)), (19, (-1)), (29, (-1))] Z Z' ∧ ((-2147483648) ≤ z ∧ z ≤ 2147483647) := by
  obtain ⟨r, hca, z, Z', h', e, q⟩ := Jmt (B := tB l D b0 ad Hb tau) (M := mt_111) (mi := 111) (as := [.ref 1, xI x0]) (d := d + 10) (ls := [some (.ref 1), some (xI x0)]) rfl rfl rfl rfl rfl rfl (cw_111_1 (l := l) (D := D) (b0 := b0) (ad := ad) (Hb := Hb) (tau := tau) (d := d) (Post := fun r => ∃ (z : Int) (Z' : xZ) (h' : mx_H), r = (some (xI z), h') ∧ XH n s S Z' h' ∧ GI n S Z' ∧ fr' [(14, (-1)), (16, (-1)), (17, (-1)), (18, (-1)), (19, (-1)), (29, (-1))] Z Z' ∧ ((-2147483648) ≤ z ∧ z ≤ 2147483647)) hx hG p0 (fun z Z' h' q1 q2 q3 q4 => ⟨z, Z', h', rfl, q1, q2, q3, q4⟩))
  subst e; exact ⟨z, Z', h', hca, q⟩
set_option maxRecDepth 100000 in
theorem cw_112_1 {l : Launch} {D : va_G} {b0 : Nat} {ad : Nat → Nat} {Hb : Heap} {tau : Nat → Int64} {d n s : Nat} {S : Nat → xS} {Z : xZ} {h : mx_H} {Post : mx_R → Prop} (hx : XH n s S Z h) (hG : GI n S Z)  (hP : ∀ (z : Int) (Z' : xZ) (h' : mx_H), XH n s S Z' h' → GI n S Z' → fr' [(14, (-1)), (16, (-1)), (17, (-1)), (18, (-1)), (19, (-1)), (25, 8), (26, (-1)), (27, (-1)), (28, (-1)), (29, (-1))] Z Z' → 0 ≤ z ∧ z ≤ 385 → Post (some (xI z), h')) : mx_J (tB l D b0 ad Hb tau) mt_112 (d + 10) 0 [some (.ref 1)] [] h Post := by
    have a1 : 1 < n := lt83 hG.1 rfl
    have s1 : S 1 = .inl (11, [2, 0, 0, 0, 2, 2, 2, 2, 2, 2, 2, 2, 2, 2, 2, 2, 2]) := hG.2.1 1 rfl
    have a25 : 25 < n := lt83 hG.1 rfl
    have s25 : S 25 = .inl (8, [2, 2, 2, 2, 2, 2, 2, 2, 0]) := hG.2.1 25 rfl
    have a36 : 36 < n := lt83 hG.1 rfl
    have s36 : S 36 = .inl (5, [2, 0, 0, 0, 0, 0]) := hG.2.1 36 rfl
    refine mx_J.step (sn_112 0) (fun _ _ => rfl) ?_
    refine JgetR (g := 8) (b := 25) hx (show mx_Sn _ _ 1 (mx_getf 11 8 4) from sn_112 1) a1 s1 rfl rfl (hG.prr 1 8 rfl) ?_
    refine mx_J.step (sn_112 4) (fun _ _ => rfl) ?_
    refine JgetR (g := 12) (b := 36) hx (show mx_Sn _ _ 5 (mx_getf 11 12 8) from sn_112 5) a1 s1 rfl rfl (hG.prr 1 12 rfl) ?_
    have b1 : 0 ≤ Z 36 2 ∧ Z 36 2 ≤ 384 := hG.pr 36 2
    refine JgetI (g := 2) (z := Z 36 2) hx (show mx_Sn _ _ 8 (mx_getf 5 2 11) from sn_112 8) a36 s36 rfl rfl rfl ?_
    refine JcI (z := (-1)) (show mx_Sn _ _ 11 (mx_const (.int (-1)) 12) from sn_112 11) rfl ?_
    obtain ⟨z2, Z2, h2, hc2, hx2, hG2, hf2, b2⟩ := ct_61_25 (d := d + 0) (l := l) (D := D) (b0 := b0) (ad := ad) (Hb := Hb) (tau := tau) hx hG (show 0 ≤ Z 36 2 ∧ Z 36 2 ≤ 384 by omega) (show (-1) ≤ (-1) ∧ (-1) ≤ 384 by omega)
    refine Jcv hx (show mx_Sn _ _ 12 (mx_callv 61 3 8 15) from sn_112 12) a25 s25 hc2 rfl rfl rfl ?_
    refine mx_J.step (sn_112 15) (fun _ _ => rfl) ?_
    refine mx_J.step (sn_112 16) (fun _ _ => rfl) ?_
    refine JgetR (g := 8) (b := 25) hx2 (show mx_Sn _ _ 17 (mx_getf 11 8 20) from sn_112 17) a1 s1 rfl rfl (hG2.prr 1 8 rfl) ?_
    have b3 : 0 ≤ Z2 25 8 ∧ Z2 25 8 ≤ 385 := hG2.pr 25 8
    refine JgetI (g := 8) (z := Z2 25 8) hx2 (show mx_Sn _ _ 20 (mx_getf 8 8 23) from sn_112 20) a25 s25 rfl rfl rfl ?_
    exact mx_J.ret (sn_112 23) (fun _ _ => rfl) (hP (Z2 25 8) Z2 h2 hx2 hG2 (fr_tr (M := [(14, (-1)), (16, (-1)), (17, (-1)), (18, (-1)), (19, (-1)), (25, 8), (26, (-1)), (27, (-1)), (28, (-1)), (29, (-1))]) fr_rf (hf2) (M1 := []) rfl rfl) (by omega))
theorem ct_112_1 {l : Launch} {D : va_G} {b0 : Nat} {ad : Nat → Nat} {Hb : Heap} {tau : Nat → Int64} {d n s : Nat} {S : Nat → xS} {Z : xZ} {h : mx_H} (hx : XH n s S Z h) (hG : GI n S Z)  : ∃ (z : Int) (Z' : xZ) (h' : mx_H), mx_Ca (tB l D b0 ad Hb tau) (d + 11) 112 [.ref 1] h (some (xI z), h') ∧ XH n s S Z' h' ∧ GI n S Z' ∧ fr' [(14, (-1)), (16, (-1)), (17, (-1)), (18, (-1)), (19, (-1)), (25, 8), (26, (-1)), (27, (-1)), (28, (-1)), (29, (-1))] Z Z' ∧ (0 ≤ z ∧ z ≤ 385) := by
  obtain ⟨r, hca, z, Z', h', e, q⟩ := Jmt (B := tB l D b0 ad Hb tau) (M := mt_112) (mi := 112) (as := [.ref 1]) (d := d + 10) (ls := [some (.ref 1)]) rfl rfl rfl rfl rfl rfl (cw_112_1 (l := l) (D := D) (b0 := b0) (ad := ad) (Hb := Hb) (tau := tau) (d := d) (Post := fun r => ∃ (z : Int) (Z' : xZ) (h' : mx_H), r = (some (xI z), h') ∧ XH n s S Z' h' ∧ GI n S Z' ∧ fr' [(14, (-1)), (16, (-1)), (17, (-1)), (18, (-1)), (19, (-1)), (25, 8), (26, (-1)), (27, (-1)), (28, (-1)), (29, (-1))] Z Z' ∧ (0 ≤ z ∧ z ≤ 385)) hx hG  (fun z Z' h' q1 q2 q3 q4 => ⟨z, Z', h', rfl, q1, q2, q3, q4⟩))
  subst e; exact ⟨z, Z', h', hca, q⟩
set_option maxRecDepth 100000 in
theorem cw_114_1 {l : Launch} {D : va_G} {b0 : Nat} {ad : Nat → Nat} {Hb : Heap} {tau : Nat → Int64} {d n s : Nat} {S : Nat → xS} {Z : xZ} {h : mx_H} {Post : mx_R → Prop} (hx : XH n s S Z h) (hG : GI n S Z) {x0 x1 : Int} (p0 : (-2147483648) ≤ x0 ∧ x0 ≤ 2147483647) (p1 : (-2147483648) ≤ x1 ∧ x1 ≤ 2147483647) (hP : ∀ z : Int, (-2147483648) ≤ z ∧ z ≤ 2147483647 → Post (some (xI z), h)) : mx_J (tB l D b0 ad Hb tau) mt_114 (d + 2) 0 [some (.ref 1), some (xI x0), some (xI x1), none, none] [] h Post := by
    have a1 : 1 < n := lt83 hG.1 rfl
    have s1 : S 1 = .inl (11, [2, 0, 0, 0, 2, 2, 2, 2, 2, 2, 2, 2, 2, 2, 2, 2, 2]) := hG.2.1 1 rfl
    have a7 : 7 < n := lt83 hG.1 rfl
    have s7 : S 7 = .inl (0, [2, 2, 2, 2, 0, 0]) := hG.2.1 7 rfl
    refine mx_J.step (sn_114 0) (fun _ _ => rfl) ?_
    refine JcI (z := 1) (show mx_Sn _ _ 1 (mx_const (.int 1) 2) from sn_114 1) rfl ?_
    have c22 : mx_J (tB l D b0 ad Hb tau) mt_114 (d + 2) 22 [some (.ref 1), some (xI x0), some (xI x1), none, none] [] h Post := by
      refine JcI (z := (-3)) (show mx_Sn _ _ 22 (mx_const (.int (-3)) 24) from sn_114 22) rfl ?_
      exact mx_J.ret (sn_114 24) (fun _ _ => rfl) (hP (-3) (by omega))
    refine Jicmp_lt (show mx_Sn _ _ 2 (mx_icmp_lt 22 5) from sn_114 2) (by omega) (by omega) (fun q2 => ?_) (fun q2 => ?_)
    · skip
      exact c22 
    · skip
      refine mx_J.step (sn_114 5) (fun _ _ => rfl) ?_
      refine JcI (z := 18) (show mx_Sn _ _ 6 (mx_const (.int 18) 8) from sn_114 6) rfl ?_
      refine Jicmp_gt (show mx_Sn _ _ 8 (mx_icmp_gt 22 11) from sn_114 8) (by omega) (by omega) (fun q3 => ?_) (fun q3 => ?_)
      · skip
        exact c22 
      · skip
        refine mx_J.step (sn_114 11) (fun _ _ => rfl) ?_
        refine JcI (z := 1) (show mx_Sn _ _ 12 (mx_const (.int 1) 13) from sn_114 12) rfl ?_
        refine Jicmp_lt (show mx_Sn _ _ 13 (mx_icmp_lt 22 16) from sn_114 13) (by omega) (by omega) (fun q4 => ?_) (fun q4 => ?_)
        · skip
          exact c22 
        · skip
          refine mx_J.step (sn_114 16) (fun _ _ => rfl) ?_
          refine JcI (z := 18) (show mx_Sn _ _ 17 (mx_const (.int 18) 19) from sn_114 17) rfl ?_
          refine Jicmp_le (show mx_Sn _ _ 19 (mx_icmp_le 25 22) from sn_114 19) (by omega) (by omega) (fun q5 => ?_) (fun q5 => ?_)
          · skip
            refine JcI (z := 0) (show mx_Sn _ _ 25 (mx_const (.int 0) 26) from sn_114 25) rfl ?_
            refine mx_J.step (ls2 := [some (.ref 1), some (xI x0), some (xI x1), some (xI 0), none]) (sn_114 26) (fun _ _ => rfl) ?_
            refine JcI (z := 0) (show mx_Sn _ _ 27 (mx_const (.int 0) 28) from sn_114 27) rfl ?_
            refine mx_J.step (ls2 := [some (.ref 1), some (xI x0), some (xI x1), some (xI 0), some (xI 0)]) (sn_114 28) (fun _ _ => rfl) ?_
            have c30 : ∀ (m6 : Nat) (w6_3 : Int) (w6_4 : Int), 385 - w6_4 < (m6 : Int) → (-2147483648) ≤ w6_3 ∧ w6_3 ≤ 2147483647 → 0 ≤ w6_4 ∧ w6_4 ≤ 385 → mx_J (tB l D b0 ad Hb tau) mt_114 (d + 2) 30 [some (.ref 1), some (xI x0), some (xI x1), some (xI w6_3), some (xI w6_4)] [] h Post := by
              intro m6
              induction m6 with
              | zero => intro w6_3 w6_4 q6 f6_0 f6_1; exact absurd q6 (by omega)
              | succ m6 ih6 =>
                intro w6_3 w6_4 q6 f6_0 f6_1
                refine mx_J.step (sn_114 30) (fun _ _ => rfl) ?_
                refine mx_J.step (sn_114 32) (fun _ _ => rfl) ?_
                refine JgetR (g := 5) (b := 7) hx (show mx_Sn _ _ 33 (mx_getf 11 5 36) from sn_114 33) a1 s1 rfl rfl (hG.prr 1 5 rfl) ?_
                have b7 : 0 ≤ Z 7 5 ∧ Z 7 5 ≤ 385 := hG.pr 7 5
                refine JgetI (g := 5) (z := Z 7 5) hx (show mx_Sn _ _ 36 (mx_getf 0 5 39) from sn_114 36) a7 s7 rfl rfl rfl ?_
                refine Jicmp_ge (show mx_Sn _ _ 39 (mx_icmp_ge 78 42) from sn_114 39) (by omega) (by omega) (fun q8 => ?_) (fun q8 => ?_)
                · skip
                  refine mx_J.step (sn_114 78) (fun _ _ => rfl) ?_
                  exact mx_J.ret (sn_114 79) (fun _ _ => rfl) (hP w6_3 (by omega))
                · skip
                  refine mx_J.step (sn_114 42) (fun _ _ => rfl) ?_
                  refine JgetR (g := 5) (b := 7) hx (show mx_Sn _ _ 43 (mx_getf 11 5 46) from sn_114 43) a1 s1 rfl rfl (hG.prr 1 5 rfl) ?_
                  refine mx_J.step (sn_114 46) (fun _ _ => rfl) ?_
                  obtain ⟨z9, hc9, b9⟩ := ct_5_7 (d := d + 1) (l := l) (D := D) (b0 := b0) (ad := ad) (Hb := Hb) (tau := tau) hx hG (show (-2147483648) ≤ w6_4 ∧ w6_4 ≤ 2147483647 by omega)
                  refine Jcv hx (show mx_Sn _ _ 48 (mx_callv 5 2 0 51) from sn_114 48) a7 s7 hc9 rfl rfl rfl ?_
                  refine mx_J.step (sn_114 51) (fun _ _ => rfl) ?_
                  have c72 : ∀ (w10_3 : Int), (-2147483648) ≤ w10_3 ∧ w10_3 ≤ 2147483647 → mx_J (tB l D b0 ad Hb tau) mt_114 (d + 2) 72 [some (.ref 1), some (xI x0), some (xI x1), some (xI w10_3), some (xI w6_4)] [] h Post := by
                    intro w10_3 f10_0
                    refine Jiinc (z := w6_4) (cz := 1) (ls2 := [some (.ref 1), some (xI x0), some (xI x1), some (xI w10_3), some (xI (w6_4 + 1))]) (show mx_Sn _ _ 72 (mx_iinc 4 1 75) from sn_114 72) rfl rfl rfl rfl ?_
                    refine mx_J.step (sn_114 75) (fun _ _ => rfl) ?_
                    exact ih6 w10_3 (w6_4 + 1) (by omega) (by omega) (by omega)
                  refine Jicmp_gt (show mx_Sn _ _ 52 (mx_icmp_gt 72 55) from sn_114 52) (by omega) (by omega) (fun q11 => ?_) (fun q11 => ?_)
                  · skip
                    exact c72 w6_3 (by omega)
                  · skip
                    refine mx_J.step (sn_114 55) (fun _ _ => rfl) ?_
                    refine JgetR (g := 5) (b := 7) hx (show mx_Sn _ _ 56 (mx_getf 11 5 59) from sn_114 56) a1 s1 rfl rfl (hG.prr 1 5 rfl) ?_
                    refine mx_J.step (sn_114 59) (fun _ _ => rfl) ?_
                    refine JcI (z := 0) (show mx_Sn _ _ 61 (mx_const (.int 0) 62) from sn_114 61) rfl ?_
                    obtain ⟨z12, hc12, b12⟩ := ct_6_7 (d := d + 0) (l := l) (D := D) (b0 := b0) (ad := ad) (Hb := Hb) (tau := tau) hx hG (show (-2147483648) ≤ w6_4 ∧ w6_4 ≤ 2147483647 by omega) (show (-2147483648) ≤ 0 ∧ 0 ≤ 2147483647 by omega)
                    refine Jcv hx (show mx_Sn _ _ 62 (mx_callv 6 3 0 65) from sn_114 62) a7 s7 hc12 rfl rfl rfl ?_
                    refine mx_J.step (sn_114 65) (fun _ _ => rfl) ?_
                    refine Jicmp_gt (show mx_Sn _ _ 66 (mx_icmp_gt 72 69) from sn_114 66) (by omega) (by omega) (fun q13 => ?_) (fun q13 => ?_)
                    · skip
                      exact c72 w6_3 (by omega)
                    · skip
                      refine JiincN (z := w6_3) (cz := 1) (show mx_Sn _ _ 69 (mx_iinc 3 1 72) from sn_114 69) rfl rfl rfl (fun y14 hy14 hq14 => ?_)
                      show mx_J _ _ _ _ [some (.ref 1), some (xI x0), some (xI x1), some (xI y14), some (xI w6_4)] _ _ _
                      exact c72 y14 (by omega)
            exact c30 (Int.toNat (385 - 0) + 1) 0 0 (by omega) (by omega) (by omega)
          · skip
            exact c22 
theorem ct_114_1 {l : Launch} {D : va_G} {b0 : Nat} {ad : Nat → Nat} {Hb : Heap} {tau : Nat → Int64} {d n s : Nat} {S : Nat → xS} {Z : xZ} {h : mx_H} (hx : XH n s S Z h) (hG : GI n S Z) {x0 x1 : Int} (p0 : (-2147483648) ≤ x0 ∧ x0 ≤ 2147483647) (p1 : (-2147483648) ≤ x1 ∧ x1 ≤ 2147483647) : ∃ z : Int, mx_Ca (tB l D b0 ad Hb tau) (d + 3) 114 [.ref 1, xI x0, xI x1] h (some (xI z), h) ∧ ((-2147483648) ≤ z ∧ z ≤ 2147483647) := by
  obtain ⟨r, hca, z, e, hp⟩ := Jmt (B := tB l D b0 ad Hb tau) (M := mt_114) (mi := 114) (as := [.ref 1, xI x0, xI x1]) (d := d + 2) (ls := [some (.ref 1), some (xI x0), some (xI x1), none, none]) rfl rfl rfl rfl rfl rfl (cw_114_1 (l := l) (D := D) (b0 := b0) (ad := ad) (Hb := Hb) (tau := tau) (d := d) (Post := fun r => ∃ z : Int, r = (some (xI z), h) ∧ ((-2147483648) ≤ z ∧ z ≤ 2147483647)) hx hG p0 p1 (fun z hz => ⟨z, rfl, hz⟩))
  subst e; exact ⟨z, hca, hp⟩
set_option maxRecDepth 100000 in
theorem cw_115_1 {l : Launch} {D : va_G} {b0 : Nat} {ad : Nat → Nat} {Hb : Heap} {tau : Nat → Int64} {d n s : Nat} {S : Nat → xS} {Z : xZ} {h : mx_H} {Post : mx_R → Prop} (hx : XH n s S Z h) (hG : GI n S Z)  (hP : ∀ (z : Int) (Z' : xZ) (h' : mx_H), XH n s S Z' h' → GI n S Z' → fr' [(42, (-1))] Z Z' → 0 ≤ z ∧ z ≤ 384 → Post (some (xI z), h')) : mx_J (tB l D b0 ad Hb tau) mt_115 (d + 2) 0 [some (.ref 1), none, none, none, none] [] h Post := by
    have a1 : 1 < n := lt83 hG.1 rfl
    have s1 : S 1 = .inl (11, [2, 0, 0, 0, 2, 2, 2, 2, 2, 2, 2, 2, 2, 2, 2, 2, 2]) := hG.2.1 1 rfl
    have a7 : 7 < n := lt83 hG.1 rfl
    have s7 : S 7 = .inl (0, [2, 2, 2, 2, 0, 0]) := hG.2.1 7 rfl
    have a36 : 36 < n := lt83 hG.1 rfl
    have s36 : S 36 = .inl (5, [2, 0, 0, 0, 0, 0]) := hG.2.1 36 rfl
    have a42 : 42 < n := lt83 hG.1 rfl
    have s42 : S 42 = .inr (.int, 19, 0) := hG.2.1 42 rfl
    refine mx_J.step (sn_115 0) (fun _ _ => rfl) ?_
    refine JgetR (g := 15) (b := 42) hx (show mx_Sn _ _ 1 (mx_getf 11 15 4) from sn_115 1) a1 s1 rfl rfl (hG.prr 1 15 rfl) ?_
    refine JcI (z := 0) (show mx_Sn _ _ 4 (mx_const (.int 0) 5) from sn_115 4) rfl ?_
    obtain ⟨Z1, h1, hc1, hx1, hG1, hf1, m1_42⟩ := ct_284_42_i0 (d := d + 1) (l := l) (D := D) (b0 := b0) (ad := ad) (Hb := Hb) (tau := tau) hx hG 
    refine Jcs0 (show mx_Sn _ _ 5 (mx_calls 284 2 8) from sn_115 5) hc1 rfl rfl rfl ?_
    refine mx_J.step (sn_115 8) (fun _ _ => rfl) ?_
    refine JgetR (g := 5) (b := 7) hx1 (show mx_Sn _ _ 9 (mx_getf 11 5 12) from sn_115 9) a1 s1 rfl rfl (hG1.prr 1 5 rfl) ?_
    refine mx_J.step (sn_115 12) (fun _ _ => rfl) ?_
    refine JgetR (g := 12) (b := 36) hx1 (show mx_Sn _ _ 13 (mx_getf 11 12 16) from sn_115 13) a1 s1 rfl rfl (hG1.prr 1 12 rfl) ?_
    have b2 : 0 ≤ Z 36 2 ∧ Z 36 2 ≤ 384 := hG.pr 36 2
    refine JgetI (g := 2) (z := Z 36 2) hx1 (show mx_Sn _ _ 16 (mx_getf 5 2 19) from sn_115 16) a36 s36 rfl rfl (hf1 36 2 rfl) ?_
    obtain ⟨z3, hc3, b3⟩ := ct_5_7 (d := d + 1) (l := l) (D := D) (b0 := b0) (ad := ad) (Hb := Hb) (tau := tau) hx1 hG1 (show (-2147483648) ≤ Z 36 2 ∧ Z 36 2 ≤ 2147483647 by omega)
    have eq4 : Z1 7 5 = Z 7 5 := (hf1 7 5 rfl)
    have eq5 : Z1 10 (Z 36 2) = Z 10 (Z 36 2) := (hf1 10 (Z 36 2) rfl)
    refine Jcv hx1 (show mx_Sn _ _ 19 (mx_callv 5 2 0 22) from sn_115 19) a7 s7 hc3 rfl rfl rfl ?_
    refine mx_J.step (ls2 := [some (.ref 1), some (xI z3), none, none, none]) (sn_115 22) (fun _ _ => rfl) ?_
    refine JcI (z := 1) (show mx_Sn _ _ 23 (mx_const (.int 1) 24) from sn_115 23) rfl ?_
    refine mx_J.step (ls2 := [some (.ref 1), some (xI z3), some (xI 1), none, none]) (sn_115 24) (fun _ _ => rfl) ?_
    have c25 : ∀ (m6 : Nat) (w6_2 : Int) (u6_3 : Option Value) (u6_4 : Option Value) (Z7 : xZ) (h7 : mx_H), 19 - w6_2 < (m6 : Int) → 1 ≤ w6_2 ∧ w6_2 ≤ 19 → AB Z7 42 (19) (0) (w6_2 - 1) → XH n s S Z7 h7 → GI n S Z7 → fr' [(42, (-1))] Z1 Z7 → mx_J (tB l D b0 ad Hb tau) mt_115 (d + 2) 25 [some (.ref 1), some (xI z3), some (xI w6_2), u6_3, u6_4] [] h7 Post := by
      intro m6
      induction m6 with
      | zero => intro w6_2 u6_3 u6_4 Z7 h7 q6 f6_0 f6_1 hx7 hG7 hf7; exact absurd q6 (by omega)
      | succ m6 ih6 =>
        intro w6_2 u6_3 u6_4 Z7 h7 q6 f6_0 f6_1 hx7 hG7 hf7
        refine mx_J.step (sn_115 25) (fun _ _ => rfl) ?_
        refine mx_J.step (sn_115 26) (fun _ _ => rfl) ?_
        refine JgetR (g := 5) (b := 7) hx7 (show mx_Sn _ _ 27 (mx_getf 11 5 30) from sn_115 27) a1 s1 rfl rfl (hG7.prr 1 5 rfl) ?_
        refine mx_J.step (sn_115 30) (fun _ _ => rfl) ?_
        refine JgetR (g := 12) (b := 36) hx7 (show mx_Sn _ _ 31 (mx_getf 11 12 34) from sn_115 31) a1 s1 rfl rfl (hG7.prr 1 12 rfl) ?_
        have b8 : 0 ≤ Z 36 2 ∧ Z 36 2 ≤ 384 := hG.pr 36 2
        refine JgetI (g := 2) (z := Z 36 2) hx7 (show mx_Sn _ _ 34 (mx_getf 5 2 37) from sn_115 34) a36 s36 rfl rfl ((hf7 36 2 rfl).trans (hf1 36 2 rfl)) ?_
        refine JcI (z := 0) (show mx_Sn _ _ 37 (mx_const (.int 0) 38) from sn_115 37) rfl ?_
        obtain ⟨z9, hc9, b9⟩ := ct_6_7 (d := d + 0) (l := l) (D := D) (b0 := b0) (ad := ad) (Hb := Hb) (tau := tau) hx7 hG7 (show (-2147483648) ≤ Z 36 2 ∧ Z 36 2 ≤ 2147483647 by omega) (show (-2147483648) ≤ 0 ∧ 0 ≤ 2147483647 by omega)
        have eq10 : Z7 9 ((Z 36 2) * 18 + 0) = Z 9 ((Z 36 2) * 18 + 0) := ((hf7 9 ((Z 36 2) * 18 + 0) rfl).trans (hf1 9 ((Z 36 2) * 18 + 0) rfl))
        refine Jcv hx7 (show mx_Sn _ _ 38 (mx_callv 6 3 0 41) from sn_115 38) a7 s7 hc9 rfl rfl rfl ?_
        refine Jicmp_gt (show mx_Sn _ _ 41 (mx_icmp_gt 100 44) from sn_115 41) (by omega) (by omega) (fun q11 => ?_) (fun q11 => ?_)
        · skip
          refine mx_J.step (sn_115 100) (fun _ _ => rfl) ?_
          refine JgetR (g := 5) (b := 7) hx7 (show mx_Sn _ _ 101 (mx_getf 11 5 104) from sn_115 101) a1 s1 rfl rfl (hG7.prr 1 5 rfl) ?_
          refine mx_J.step (sn_115 104) (fun _ _ => rfl) ?_
          refine JgetR (g := 15) (b := 42) hx7 (show mx_Sn _ _ 105 (mx_getf 11 15 108) from sn_115 105) a1 s1 rfl rfl (hG7.prr 1 15 rfl) ?_
          obtain ⟨z12, hc12, b12⟩ := ct_9_7_42 (d := d + 0) (l := l) (D := D) (b0 := b0) (ad := ad) (Hb := Hb) (tau := tau) hx7 hG7  (ab_mono f6_1 (by omega) (by omega) (by omega))
          refine Jcv hx7 (show mx_Sn _ _ 108 (mx_callv 9 2 0 111) from sn_115 108) a7 s7 hc12 rfl rfl rfl ?_
          exact mx_J.ret (sn_115 111) (fun _ _ => rfl) (hP z12 Z7 h7 hx7 hG7 (fr_tr (M := [(42, (-1))]) (fr_tr (M := [(42, (-1))]) fr_rf (hf1) (M1 := []) rfl rfl) (hf7) rfl rfl) (by omega))
        · skip
          refine JcI (z := 0) (show mx_Sn _ _ 44 (mx_const (.int 0) 45) from sn_115 44) rfl ?_
          refine mx_J.step (ls2 := [some (.ref 1), some (xI z3), some (xI w6_2), some (xI 0), u6_4]) (sn_115 45) (fun _ _ => rfl) ?_
          refine JcI (z := 0) (show mx_Sn _ _ 46 (mx_const (.int 0) 47) from sn_115 46) rfl ?_
          refine mx_J.step (ls2 := [some (.ref 1), some (xI z3), some (xI w6_2), some (xI 0), some (xI 0)]) (sn_115 47) (fun _ _ => rfl) ?_
          have c49 : ∀ (m13 : Nat) (w13_3 : Int) (w13_4 : Int), 18 - w13_4 < (m13 : Int) → 0 ≤ w13_3 ∧ w13_3 ≤ 18 → 0 ≤ w13_4 ∧ w13_4 ≤ 18 → w13_3 ≤ w13_4 → mx_J (tB l D b0 ad Hb tau) mt_115 (d + 2) 49 [some (.ref 1), some (xI z3), some (xI w6_2), some (xI w13_3), some (xI w13_4)] [] h7 Post := by
            intro m13
            induction m13 with
            | zero => intro w13_3 w13_4 q13 f13_0 f13_1 f13_2; exact absurd q13 (by omega)
            | succ m13 ih13 =>
              intro w13_3 w13_4 q13 f13_0 f13_1 f13_2
              refine mx_J.step (sn_115 49) (fun _ _ => rfl) ?_
              refine mx_J.step (sn_115 51) (fun _ _ => rfl) ?_
              refine Jicmp_ge (show mx_Sn _ _ 52 (mx_icmp_ge 84 55) from sn_115 52) (by omega) (by omega) (fun q14 => ?_) (fun q14 => ?_)
              · skip
                refine mx_J.step (sn_115 84) (fun _ _ => rfl) ?_
                refine JgetR (g := 15) (b := 42) hx7 (show mx_Sn _ _ 85 (mx_getf 11 15 88) from sn_115 85) a1 s1 rfl rfl (hG7.prr 1 15 rfl) ?_
                refine mx_J.step (sn_115 88) (fun _ _ => rfl) ?_
                refine mx_J.step (sn_115 89) (fun _ _ => rfl) ?_
                have b15 : 0 ≤ Z7 42 w13_3 ∧ Z7 42 w13_3 ≤ w6_2 - 1 := f6_1 w13_3 (by omega) (by omega)
                have b16 : (-2147483648) ≤ Z7 42 w13_3 ∧ Z7 42 w13_3 ≤ 2147483647 := hG7.pr 42 w13_3
                refine JialdI (z := Z7 42 w13_3) hx7 (show mx_Sn _ _ 90 (mx_iald 91) from sn_115 90) a42 s42 (by omega) rfl ?_
                refine JcI (z := 1) (show mx_Sn _ _ 91 (mx_const (.int 1) 92) from sn_115 91) rfl ?_
                refine Jiadd (show mx_Sn _ _ 92 (mx_iadd 93) from sn_115 92) ?_
                refine JiastI hx7 (show mx_Sn _ _ 93 (mx_iast 1 94) from sn_115 93) a42 s42 rfl (by omega) (fun Z17 h17 hx17 hE17 => ?_)
                have hG17 := GI_up hG7 hE17 (show (-2147483648) ≤ (Z7 42 w13_3) + 1 ∧ (Z7 42 w13_3) + 1 ≤ 2147483647 by omega) trivial rfl
                have m17 : AB Z17 42 19 0 ((w6_2 - 1) + 1) := ab_up hE17 f6_1 (by omega) (by omega) (by omega)
                refine Jiinc (z := w6_2) (cz := 1) (ls2 := [some (.ref 1), some (xI z3), some (xI (w6_2 + 1)), some (xI w13_3), some (xI w13_4)]) (show mx_Sn _ _ 94 (mx_iinc 2 1 97) from sn_115 94) rfl rfl rfl rfl ?_
                refine mx_J.step (sn_115 97) (fun _ _ => rfl) ?_
                exact ih6 (w6_2 + 1) (some (xI w13_3)) (some (xI w13_4)) Z17 h17 (by omega) (by omega) (ab_mono m17 (by omega) (by omega) (by omega)) hx17 hG17 (fr_tr (M := [(42, (-1))]) (fr_tr (M := [(42, (-1))]) fr_rf (hf7) (M1 := []) rfl rfl) (fr_ua hE17) rfl rfl)
              · skip
                refine mx_J.step (sn_115 55) (fun _ _ => rfl) ?_
                refine JgetR (g := 5) (b := 7) hx7 (show mx_Sn _ _ 56 (mx_getf 11 5 59) from sn_115 56) a1 s1 rfl rfl (hG7.prr 1 5 rfl) ?_
                refine mx_J.step (sn_115 59) (fun _ _ => rfl) ?_
                refine JgetR (g := 12) (b := 36) hx7 (show mx_Sn _ _ 60 (mx_getf 11 12 63) from sn_115 60) a1 s1 rfl rfl (hG7.prr 1 12 rfl) ?_
                have b18 : 0 ≤ Z 36 2 ∧ Z 36 2 ≤ 384 := hG.pr 36 2
                refine JgetI (g := 2) (z := Z 36 2) hx7 (show mx_Sn _ _ 63 (mx_getf 5 2 66) from sn_115 63) a36 s36 rfl rfl ((hf7 36 2 rfl).trans (hf1 36 2 rfl)) ?_
                refine mx_J.step (sn_115 66) (fun _ _ => rfl) ?_
                obtain ⟨z19, hc19, b19⟩ := ct_6_7 (d := d + 0) (l := l) (D := D) (b0 := b0) (ad := ad) (Hb := Hb) (tau := tau) hx7 hG7 (show (-2147483648) ≤ Z 36 2 ∧ Z 36 2 ≤ 2147483647 by omega) (show (-2147483648) ≤ w13_4 ∧ w13_4 ≤ 2147483647 by omega)
                have eq20 : Z7 9 ((Z 36 2) * 18 + w13_4) = Z 9 ((Z 36 2) * 18 + w13_4) := ((hf7 9 ((Z 36 2) * 18 + w13_4) rfl).trans (hf1 9 ((Z 36 2) * 18 + w13_4) rfl))
                refine Jcv hx7 (show mx_Sn _ _ 68 (mx_callv 6 3 0 71) from sn_115 68) a7 s7 hc19 rfl rfl rfl ?_
                refine mx_J.step (sn_115 71) (fun _ _ => rfl) ?_
                have c78 : ∀ (w21_3 : Int), 0 ≤ w21_3 ∧ w21_3 ≤ 18 → w21_3 ≤ w13_4 + 1 → mx_J (tB l D b0 ad Hb tau) mt_115 (d + 2) 78 [some (.ref 1), some (xI z3), some (xI w6_2), some (xI w21_3), some (xI w13_4)] [] h7 Post := by
                  intro w21_3 f21_0 f21_1
                  refine Jiinc (z := w13_4) (cz := 1) (ls2 := [some (.ref 1), some (xI z3), some (xI w6_2), some (xI w21_3), some (xI (w13_4 + 1))]) (show mx_Sn _ _ 78 (mx_iinc 4 1 81) from sn_115 78) rfl rfl rfl rfl ?_
                  refine mx_J.step (sn_115 81) (fun _ _ => rfl) ?_
                  exact ih13 w21_3 (w13_4 + 1) (by omega) (by omega) (by omega) (by omega)
                refine Jicmp_lt (show mx_Sn _ _ 72 (mx_icmp_lt 78 75) from sn_115 72) (by omega) (by omega) (fun q22 => ?_) (fun q22 => ?_)
                · skip
                  exact c78 w13_3 (by omega) (by omega)
                · skip
                  refine Jiinc (z := w13_3) (cz := 1) (ls2 := [some (.ref 1), some (xI z3), some (xI w6_2), some (xI (w13_3 + 1)), some (xI w13_4)]) (show mx_Sn _ _ 75 (mx_iinc 3 1 78) from sn_115 75) rfl rfl rfl rfl ?_
                  exact c78 (w13_3 + 1) (by omega) (by omega)
          exact c49 (Int.toNat (18 - 0) + 1) 0 0 (by omega) (by omega) (by omega) (by omega)
    exact c25 (Int.toNat (19 - 1) + 1) 1 none none Z1 h1 (by omega) (by omega) (ab_mono m1_42 (by omega) (by omega) (by omega)) hx1 hG1 fr_rf
theorem ct_115_1 {l : Launch} {D : va_G} {b0 : Nat} {ad : Nat → Nat} {Hb : Heap} {tau : Nat → Int64} {d n s : Nat} {S : Nat → xS} {Z : xZ} {h : mx_H} (hx : XH n s S Z h) (hG : GI n S Z)  : ∃ (z : Int) (Z' : xZ) (h' : mx_H), mx_Ca (tB l D b0 ad Hb tau) (d + 3) 115 [.ref 1] h (some (xI z), h') ∧ XH n s S Z' h' ∧ GI n S Z' ∧ fr' [(42, (-1))] Z Z' ∧ (0 ≤ z ∧ z ≤ 384) := by
  obtain ⟨r, hca, z, Z', h', e, q⟩ := Jmt (B := tB l D b0 ad Hb tau) (M := mt_115) (mi := 115) (as := [.ref 1]) (d := d + 2) (ls := [some (.ref 1), none, none, none, none]) rfl rfl rfl rfl rfl rfl (cw_115_1 (l := l) (D := D) (b0 := b0) (ad := ad) (Hb := Hb) (tau := tau) (d := d) (Post := fun r => ∃ (z : Int) (Z' : xZ) (h' : mx_H), r = (some (xI z), h') ∧ XH n s S Z' h' ∧ GI n S Z' ∧ fr' [(42, (-1))] Z Z' ∧ (0 ≤ z ∧ z ≤ 384)) hx hG  (fun z Z' h' q1 q2 q3 q4 => ⟨z, Z', h', rfl, q1, q2, q3, q4⟩))
  subst e; exact ⟨z, Z', h', hca, q⟩
set_option maxRecDepth 100000 in
theorem cw_117_1 {l : Launch} {D : va_G} {b0 : Nat} {ad : Nat → Nat} {Hb : Heap} {tau : Nat → Int64} {d n s : Nat} {S : Nat → xS} {Z : xZ} {h : mx_H} {Post : mx_R → Prop} (hx : XH n s S Z h) (hG : GI n S Z)  (hP : ∀ z : Int, (-2147483648) ≤ z ∧ z ≤ 2147483647 → Post (some (xI z), h)) : mx_J (tB l D b0 ad Hb tau) mt_117 (d + 3) 0 [some (.ref 1), none, none] [] h Post := by
    have a1 : 1 < n := lt83 hG.1 rfl
    have s1 : S 1 = .inl (11, [2, 0, 0, 0, 2, 2, 2, 2, 2, 2, 2, 2, 2, 2, 2, 2, 2]) := hG.2.1 1 rfl
    have a7 : 7 < n := lt83 hG.1 rfl
    have s7 : S 7 = .inl (0, [2, 2, 2, 2, 0, 0]) := hG.2.1 7 rfl
    have a36 : 36 < n := lt83 hG.1 rfl
    have s36 : S 36 = .inl (5, [2, 0, 0, 0, 0, 0]) := hG.2.1 36 rfl
    refine JcI (z := 0) (show mx_Sn _ _ 0 (mx_const (.int 0) 1) from sn_117 0) rfl ?_
    refine mx_J.step (ls2 := [some (.ref 1), some (xI 0), none]) (sn_117 1) (fun _ _ => rfl) ?_
    refine JcI (z := 0) (show mx_Sn _ _ 2 (mx_const (.int 0) 3) from sn_117 2) rfl ?_
    refine mx_J.step (ls2 := [some (.ref 1), some (xI 0), some (xI 0)]) (sn_117 3) (fun _ _ => rfl) ?_
    have c4 : ∀ (m1 : Nat) (w1_1 : Int) (w1_2 : Int), 385 - w1_2 < (m1 : Int) → (-2147483648) ≤ w1_1 ∧ w1_1 ≤ 2147483647 → 0 ≤ w1_2 ∧ w1_2 ≤ 385 → mx_J (tB l D b0 ad Hb tau) mt_117 (d + 3) 4 [some (.ref 1), some (xI w1_1), some (xI w1_2)] [] h Post := by
      intro m1
      induction m1 with
      | zero => intro w1_1 w1_2 q1 f1_0 f1_1; exact absurd q1 (by omega)
      | succ m1 ih1 =>
        intro w1_1 w1_2 q1 f1_0 f1_1
        refine mx_J.step (sn_117 4) (fun _ _ => rfl) ?_
        refine mx_J.step (sn_117 5) (fun _ _ => rfl) ?_
        refine JgetR (g := 5) (b := 7) hx (show mx_Sn _ _ 6 (mx_getf 11 5 9) from sn_117 6) a1 s1 rfl rfl (hG.prr 1 5 rfl) ?_
        have b2 : 0 ≤ Z 7 5 ∧ Z 7 5 ≤ 385 := hG.pr 7 5
        refine JgetI (g := 5) (z := Z 7 5) hx (show mx_Sn _ _ 9 (mx_getf 0 5 12) from sn_117 9) a7 s7 rfl rfl rfl ?_
        refine Jicmp_ge (show mx_Sn _ _ 12 (mx_icmp_ge 42 15) from sn_117 12) (by omega) (by omega) (fun q3 => ?_) (fun q3 => ?_)
        · skip
          refine mx_J.step (sn_117 42) (fun _ _ => rfl) ?_
          exact mx_J.ret (sn_117 43) (fun _ _ => rfl) (hP w1_1 (by omega))
        · skip
          refine mx_J.step (sn_117 15) (fun _ _ => rfl) ?_
          refine JgetR (g := 5) (b := 7) hx (show mx_Sn _ _ 16 (mx_getf 11 5 19) from sn_117 16) a1 s1 rfl rfl (hG.prr 1 5 rfl) ?_
          refine mx_J.step (sn_117 19) (fun _ _ => rfl) ?_
          refine mx_J.step (sn_117 20) (fun _ _ => rfl) ?_
          refine JgetR (g := 12) (b := 36) hx (show mx_Sn _ _ 21 (mx_getf 11 12 24) from sn_117 21) a1 s1 rfl rfl (hG.prr 1 12 rfl) ?_
          have b4 : 0 ≤ Z 36 2 ∧ Z 36 2 ≤ 384 := hG.pr 36 2
          refine JgetI (g := 2) (z := Z 36 2) hx (show mx_Sn _ _ 24 (mx_getf 5 2 27) from sn_117 24) a36 s36 rfl rfl rfl ?_
          obtain ⟨z5, hc5, b5⟩ := ct_10_7 (d := d + 0) (l := l) (D := D) (b0 := b0) (ad := ad) (Hb := Hb) (tau := tau) hx hG (show (-2147483648) ≤ w1_2 ∧ w1_2 ≤ 2147483647 by omega) (show (-2147483648) ≤ Z 36 2 ∧ Z 36 2 ≤ 2147483647 by omega)
          refine Jcv hx (show mx_Sn _ _ 27 (mx_callv 10 3 0 30) from sn_117 27) a7 s7 hc5 rfl rfl rfl ?_
          have c36 : ∀ (w6_1 : Int), (-2147483648) ≤ w6_1 ∧ w6_1 ≤ 2147483647 → mx_J (tB l D b0 ad Hb tau) mt_117 (d + 3) 36 [some (.ref 1), some (xI w6_1), some (xI w1_2)] [] h Post := by
            intro w6_1 f6_0
            refine Jiinc (z := w1_2) (cz := 1) (ls2 := [some (.ref 1), some (xI w6_1), some (xI (w1_2 + 1))]) (show mx_Sn _ _ 36 (mx_iinc 2 1 39) from sn_117 36) rfl rfl rfl rfl ?_
            refine mx_J.step (sn_117 39) (fun _ _ => rfl) ?_
            exact ih1 w6_1 (w1_2 + 1) (by omega) (by omega) (by omega)
          refine Jif_eq (show mx_Sn _ _ 30 (mx_if_eq 36 33) from sn_117 30) (by omega) (fun q7 => ?_) (fun q7 => ?_)
          · skip
            exact c36 w1_1 (by omega)
          · skip
            refine JiincN (z := w1_1) (cz := 1) (show mx_Sn _ _ 33 (mx_iinc 1 1 36) from sn_117 33) rfl rfl rfl (fun y8 hy8 hq8 => ?_)
            show mx_J _ _ _ _ [some (.ref 1), some (xI y8), some (xI w1_2)] _ _ _
            exact c36 y8 (by omega)
    exact c4 (Int.toNat (385 - 0) + 1) 0 0 (by omega) (by omega) (by omega)
theorem ct_117_1 {l : Launch} {D : va_G} {b0 : Nat} {ad : Nat → Nat} {Hb : Heap} {tau : Nat → Int64} {d n s : Nat} {S : Nat → xS} {Z : xZ} {h : mx_H} (hx : XH n s S Z h) (hG : GI n S Z)  : ∃ z : Int, mx_Ca (tB l D b0 ad Hb tau) (d + 4) 117 [.ref 1] h (some (xI z), h) ∧ ((-2147483648) ≤ z ∧ z ≤ 2147483647) := by
  obtain ⟨r, hca, z, e, hp⟩ := Jmt (B := tB l D b0 ad Hb tau) (M := mt_117) (mi := 117) (as := [.ref 1]) (d := d + 3) (ls := [some (.ref 1), none, none]) rfl rfl rfl rfl rfl rfl (cw_117_1 (l := l) (D := D) (b0 := b0) (ad := ad) (Hb := Hb) (tau := tau) (d := d) (Post := fun r => ∃ z : Int, r = (some (xI z), h) ∧ ((-2147483648) ≤ z ∧ z ≤ 2147483647)) hx hG  (fun z hz => ⟨z, rfl, hz⟩))
  subst e; exact ⟨z, hca, hp⟩
set_option maxRecDepth 100000 in
theorem cw_123_1 {l : Launch} {D : va_G} {b0 : Nat} {ad : Nat → Nat} {Hb : Heap} {tau : Nat → Int64} {d n s : Nat} {S : Nat → xS} {Z : xZ} {h : mx_H} {Post : mx_R → Prop} (hx : XH n s S Z h) (hG : GI n S Z) {x0 : Int} (p0 : (-2147483648) ≤ x0 ∧ x0 ≤ 2147483647) (hP : ∀ (z : Int) (Z' : xZ) (h' : mx_H), XH n s S Z' h' → GI n S Z' → fr' [(14, (-1)), (16, (-1)), (17, (-1)), (18, (-1)), (19, (-1)), (30, (-1)), (31, (-1))] Z Z' → (-2147483648) ≤ z ∧ z ≤ 2147483647 → Post (some (xI z), h')) : mx_J (tB l D b0 ad Hb tau) mt_123 (d + 10) 0 [some (.ref 1), some (xI x0)] [] h Post := by
    have a1 : 1 < n := lt83 hG.1 rfl
    have s1 : S 1 = .inl (11, [2, 0, 0, 0, 2, 2, 2, 2, 2, 2, 2, 2, 2, 2, 2, 2, 2]) := hG.2.1 1 rfl
    have a25 : 25 < n := lt83 hG.1 rfl
    have s25 : S 25 = .inl (8, [2, 2, 2, 2, 2, 2, 2, 2, 0]) := hG.2.1 25 rfl
    have a36 : 36 < n := lt83 hG.1 rfl
    have s36 : S 36 = .inl (5, [2, 0, 0, 0, 0, 0]) := hG.2.1 36 rfl
    refine mx_J.step (sn_123 0) (fun _ _ => rfl) ?_
    refine JcI (z := 1) (show mx_Sn _ _ 1 (mx_const (.int 1) 2) from sn_123 1) rfl ?_
    have c11 : mx_J (tB l D b0 ad Hb tau) mt_123 (d + 10) 11 [some (.ref 1), some (xI x0)] [] h Post := by
      refine JcI (z := (-3)) (show mx_Sn _ _ 11 (mx_const (.int (-3)) 13) from sn_123 11) rfl ?_
      exact mx_J.ret (sn_123 13) (fun _ _ => rfl) (hP (-3) Z h hx hG fr_rf (by omega))
    refine Jicmp_lt (show mx_Sn _ _ 2 (mx_icmp_lt 11 5) from sn_123 2) (by omega) (by omega) (fun q2 => ?_) (fun q2 => ?_)
    · skip
      exact c11 
    · skip
      refine mx_J.step (sn_123 5) (fun _ _ => rfl) ?_
      refine JcI (z := 18) (show mx_Sn _ _ 6 (mx_const (.int 18) 8) from sn_123 6) rfl ?_
      refine Jicmp_le (show mx_Sn _ _ 8 (mx_icmp_le 14 11) from sn_123 8) (by omega) (by omega) (fun q3 => ?_) (fun q3 => ?_)
      · skip
        refine mx_J.step (sn_123 14) (fun _ _ => rfl) ?_
        refine JgetR (g := 8) (b := 25) hx (show mx_Sn _ _ 15 (mx_getf 11 8 18) from sn_123 15) a1 s1 rfl rfl (hG.prr 1 8 rfl) ?_
        refine mx_J.step (sn_123 18) (fun _ _ => rfl) ?_
        refine JgetR (g := 12) (b := 36) hx (show mx_Sn _ _ 19 (mx_getf 11 12 22) from sn_123 19) a1 s1 rfl rfl (hG.prr 1 12 rfl) ?_
        have b4 : 0 ≤ Z 36 2 ∧ Z 36 2 ≤ 384 := hG.pr 36 2
        refine JgetI (g := 2) (z := Z 36 2) hx (show mx_Sn _ _ 22 (mx_getf 5 2 25) from sn_123 22) a36 s36 rfl rfl rfl ?_
        refine mx_J.step (sn_123 25) (fun _ _ => rfl) ?_
        obtain ⟨z5, Z5, h5, hc5, hx5, hG5, hf5, b5⟩ := ct_67_25 (d := d + 0) (l := l) (D := D) (b0 := b0) (ad := ad) (Hb := Hb) (tau := tau) hx hG (show 0 ≤ Z 36 2 ∧ Z 36 2 ≤ 384 by omega) (show 1 ≤ x0 ∧ x0 ≤ 18 by omega)
        refine Jcv hx (show mx_Sn _ _ 26 (mx_callv 67 3 8 29) from sn_123 26) a25 s25 hc5 rfl rfl rfl ?_
        exact mx_J.ret (sn_123 29) (fun _ _ => rfl) (hP z5 Z5 h5 hx5 hG5 (fr_tr (M := [(14, (-1)), (16, (-1)), (17, (-1)), (18, (-1)), (19, (-1)), (30, (-1)), (31, (-1))]) fr_rf (hf5) (M1 := []) rfl rfl) (by omega))
      · skip
        exact c11 
theorem ct_123_1 {l : Launch} {D : va_G} {b0 : Nat} {ad : Nat → Nat} {Hb : Heap} {tau : Nat → Int64} {d n s : Nat} {S : Nat → xS} {Z : xZ} {h : mx_H} (hx : XH n s S Z h) (hG : GI n S Z) {x0 : Int} (p0 : (-2147483648) ≤ x0 ∧ x0 ≤ 2147483647) : ∃ (z : Int) (Z' : xZ) (h' : mx_H), mx_Ca (tB l D b0 ad Hb tau) (d + 11) 123 [.ref 1, xI x0] h (some (xI z), h') ∧ XH n s S Z' h' ∧ GI n S Z' ∧ fr' [(14, (-1)), (16, (-1)), (17, (-1)), (18, (-1)), (19, (-1)), (30, (-1)), (31, (-1))] Z Z' ∧ ((-2147483648) ≤ z ∧ z ≤ 2147483647) := by
  obtain ⟨r, hca, z, Z', h', e, q⟩ := Jmt (B := tB l D b0 ad Hb tau) (M := mt_123) (mi := 123) (as := [.ref 1, xI x0]) (d := d + 10) (ls := [some (.ref 1), some (xI x0)]) rfl rfl rfl rfl rfl rfl (cw_123_1 (l := l) (D := D) (b0 := b0) (ad := ad) (Hb := Hb) (tau := tau) (d := d) (Post := fun r => ∃ (z : Int) (Z' : xZ) (h' : mx_H), r = (some (xI z), h') ∧ XH n s S Z' h' ∧ GI n S Z' ∧ fr' [(14, (-1)), (16, (-1)), (17, (-1)), (18, (-1)), (19, (-1)), (30, (-1)), (31, (-1))] Z Z' ∧ ((-2147483648) ≤ z ∧ z ≤ 2147483647)) hx hG p0 (fun z Z' h' q1 q2 q3 q4 => ⟨z, Z', h', rfl, q1, q2, q3, q4⟩))
  subst e; exact ⟨z, Z', h', hca, q⟩
set_option maxRecDepth 100000 in
theorem cw_124_1 {l : Launch} {D : va_G} {b0 : Nat} {ad : Nat → Nat} {Hb : Heap} {tau : Nat → Int64} {d n s : Nat} {S : Nat → xS} {Z : xZ} {h : mx_H} {Post : mx_R → Prop} (hx : XH n s S Z h) (hG : GI n S Z) {x0 : Int} (p0 : (-2147483648) ≤ x0 ∧ x0 ≤ 2147483647) (hP : ∀ (z : Int) (Z' : xZ) (h' : mx_H), XH n s S Z' h' → GI n S Z' → fr' [(14, (-1)), (16, (-1)), (17, (-1)), (18, (-1)), (19, (-1)), (30, (-1)), (31, (-1))] Z Z' → (-3) ≤ z ∧ z ≤ 18 → Post (some (xI z), h')) : mx_J (tB l D b0 ad Hb tau) mt_124 (d + 10) 0 [some (.ref 1), some (xI x0), none] [] h Post := by
    have a1 : 1 < n := lt83 hG.1 rfl
    have s1 : S 1 = .inl (11, [2, 0, 0, 0, 2, 2, 2, 2, 2, 2, 2, 2, 2, 2, 2, 2, 2]) := hG.2.1 1 rfl
    have a25 : 25 < n := lt83 hG.1 rfl
    have s25 : S 25 = .inl (8, [2, 2, 2, 2, 2, 2, 2, 2, 0]) := hG.2.1 25 rfl
    have a36 : 36 < n := lt83 hG.1 rfl
    have s36 : S 36 = .inl (5, [2, 0, 0, 0, 0, 0]) := hG.2.1 36 rfl
    refine mx_J.step (sn_124 0) (fun _ _ => rfl) ?_
    refine JcI (z := 1) (show mx_Sn _ _ 1 (mx_const (.int 1) 2) from sn_124 1) rfl ?_
    have c11 : mx_J (tB l D b0 ad Hb tau) mt_124 (d + 10) 11 [some (.ref 1), some (xI x0), none] [] h Post := by
      refine JcI (z := (-3)) (show mx_Sn _ _ 11 (mx_const (.int (-3)) 13) from sn_124 11) rfl ?_
      exact mx_J.ret (sn_124 13) (fun _ _ => rfl) (hP (-3) Z h hx hG fr_rf (by omega))
    refine Jicmp_lt (show mx_Sn _ _ 2 (mx_icmp_lt 11 5) from sn_124 2) (by omega) (by omega) (fun q2 => ?_) (fun q2 => ?_)
    · skip
      exact c11 
    · skip
      refine mx_J.step (sn_124 5) (fun _ _ => rfl) ?_
      refine JcI (z := 18) (show mx_Sn _ _ 6 (mx_const (.int 18) 8) from sn_124 6) rfl ?_
      refine Jicmp_le (show mx_Sn _ _ 8 (mx_icmp_le 14 11) from sn_124 8) (by omega) (by omega) (fun q3 => ?_) (fun q3 => ?_)
      · skip
        refine mx_J.step (sn_124 14) (fun _ _ => rfl) ?_
        refine JgetR (g := 8) (b := 25) hx (show mx_Sn _ _ 15 (mx_getf 11 8 18) from sn_124 15) a1 s1 rfl rfl (hG.prr 1 8 rfl) ?_
        refine mx_J.step (sn_124 18) (fun _ _ => rfl) ?_
        refine JgetR (g := 12) (b := 36) hx (show mx_Sn _ _ 19 (mx_getf 11 12 22) from sn_124 19) a1 s1 rfl rfl (hG.prr 1 12 rfl) ?_
        have b4 : 0 ≤ Z 36 2 ∧ Z 36 2 ≤ 384 := hG.pr 36 2
        refine JgetI (g := 2) (z := Z 36 2) hx (show mx_Sn _ _ 22 (mx_getf 5 2 25) from sn_124 22) a36 s36 rfl rfl rfl ?_
        refine mx_J.step (sn_124 25) (fun _ _ => rfl) ?_
        obtain ⟨z5, Z5, h5, hc5, hx5, hG5, hf5, b5⟩ := ct_67_25 (d := d + 0) (l := l) (D := D) (b0 := b0) (ad := ad) (Hb := Hb) (tau := tau) hx hG (show 0 ≤ Z 36 2 ∧ Z 36 2 ≤ 384 by omega) (show 1 ≤ x0 ∧ x0 ≤ 18 by omega)
        refine Jcv hx (show mx_Sn _ _ 26 (mx_callv 67 3 8 29) from sn_124 26) a25 s25 hc5 rfl rfl rfl ?_
        refine mx_J.step (ls2 := [some (.ref 1), some (xI x0), some (xI z5)]) (sn_124 29) (fun _ _ => rfl) ?_
        refine mx_J.step (sn_124 30) (fun _ _ => rfl) ?_
        refine JcI (z := 1) (show mx_Sn _ _ 31 (mx_const (.int 1) 32) from sn_124 31) rfl ?_
        have c54 : ∀ (k6_0 : Int) (Z7 : xZ) (h7 : mx_H), (-1) ≤ k6_0 ∧ k6_0 ≤ 18 → XH n s S Z7 h7 → GI n S Z7 → fr' [(14, (-1)), (16, (-1)), (17, (-1)), (18, (-1)), (19, (-1))] Z5 Z7 → mx_J (tB l D b0 ad Hb tau) mt_124 (d + 10) 54 [some (.ref 1), some (xI x0), some (xI z5)] [xI k6_0] h7 Post := by
          intro k6_0 Z7 h7 f6_0 hx7 hG7 hf7
          exact mx_J.ret (sn_124 54) (fun _ _ => rfl) (hP k6_0 Z7 h7 hx7 hG7 (fr_tr (M := [(14, (-1)), (16, (-1)), (17, (-1)), (18, (-1)), (19, (-1)), (30, (-1)), (31, (-1))]) (fr_tr (M := [(14, (-1)), (16, (-1)), (17, (-1)), (18, (-1)), (19, (-1)), (30, (-1)), (31, (-1))]) fr_rf (hf5) (M1 := []) rfl rfl) (hf7) rfl rfl) (by omega))
        refine Jicmp_ge (show mx_Sn _ _ 32 (mx_icmp_ge 39 35) from sn_124 32) (by omega) (by omega) (fun q8 => ?_) (fun q8 => ?_)
        · skip
          refine mx_J.step (sn_124 39) (fun _ _ => rfl) ?_
          refine JgetR (g := 8) (b := 25) hx5 (show mx_Sn _ _ 40 (mx_getf 11 8 43) from sn_124 40) a1 s1 rfl rfl (hG5.prr 1 8 rfl) ?_
          refine mx_J.step (sn_124 43) (fun _ _ => rfl) ?_
          refine JgetR (g := 12) (b := 36) hx5 (show mx_Sn _ _ 44 (mx_getf 11 12 47) from sn_124 44) a1 s1 rfl rfl (hG5.prr 1 12 rfl) ?_
          have b9 : 0 ≤ Z 36 2 ∧ Z 36 2 ≤ 384 := hG.pr 36 2
          refine JgetI (g := 2) (z := Z 36 2) hx5 (show mx_Sn _ _ 47 (mx_getf 5 2 50) from sn_124 47) a36 s36 rfl rfl (hf5 36 2 rfl) ?_
          refine mx_J.step (sn_124 50) (fun _ _ => rfl) ?_
          obtain ⟨z10, Z10, h10, hc10, hx10, hG10, hf10, b10⟩ := ct_68_25 (d := d + 1) (l := l) (D := D) (b0 := b0) (ad := ad) (Hb := Hb) (tau := tau) hx5 hG5 (show (-2147483648) ≤ Z 36 2 ∧ Z 36 2 ≤ 2147483647 by omega) (show (-2147483648) ≤ z5 ∧ z5 ≤ 2147483647 by omega)
          refine Jcv hx5 (show mx_Sn _ _ 51 (mx_callv 68 3 8 54) from sn_124 51) a25 s25 hc10 rfl rfl rfl ?_
          exact c54 z10 Z10 h10 (by omega) hx10 hG10 (fr_tr (M := [(14, (-1)), (16, (-1)), (17, (-1)), (18, (-1)), (19, (-1))]) fr_rf (hf10) (M1 := []) rfl rfl)
        · skip
          refine JcI (z := (-1)) (show mx_Sn _ _ 35 (mx_const (.int (-1)) 36) from sn_124 35) rfl ?_
          refine mx_J.step (sn_124 36) (fun _ _ => rfl) ?_
          exact c54 (-1) Z5 h5 (by omega) hx5 hG5 fr_rf
      · skip
        exact c11 
theorem ct_124_1 {l : Launch} {D : va_G} {b0 : Nat} {ad : Nat → Nat} {Hb : Heap} {tau : Nat → Int64} {d n s : Nat} {S : Nat → xS} {Z : xZ} {h : mx_H} (hx : XH n s S Z h) (hG : GI n S Z) {x0 : Int} (p0 : (-2147483648) ≤ x0 ∧ x0 ≤ 2147483647) : ∃ (z : Int) (Z' : xZ) (h' : mx_H), mx_Ca (tB l D b0 ad Hb tau) (d + 11) 124 [.ref 1, xI x0] h (some (xI z), h') ∧ XH n s S Z' h' ∧ GI n S Z' ∧ fr' [(14, (-1)), (16, (-1)), (17, (-1)), (18, (-1)), (19, (-1)), (30, (-1)), (31, (-1))] Z Z' ∧ ((-3) ≤ z ∧ z ≤ 18) := by
  obtain ⟨r, hca, z, Z', h', e, q⟩ := Jmt (B := tB l D b0 ad Hb tau) (M := mt_124) (mi := 124) (as := [.ref 1, xI x0]) (d := d + 10) (ls := [some (.ref 1), some (xI x0), none]) rfl rfl rfl rfl rfl rfl (cw_124_1 (l := l) (D := D) (b0 := b0) (ad := ad) (Hb := Hb) (tau := tau) (d := d) (Post := fun r => ∃ (z : Int) (Z' : xZ) (h' : mx_H), r = (some (xI z), h') ∧ XH n s S Z' h' ∧ GI n S Z' ∧ fr' [(14, (-1)), (16, (-1)), (17, (-1)), (18, (-1)), (19, (-1)), (30, (-1)), (31, (-1))] Z Z' ∧ ((-3) ≤ z ∧ z ≤ 18)) hx hG p0 (fun z Z' h' q1 q2 q3 q4 => ⟨z, Z', h', rfl, q1, q2, q3, q4⟩))
  subst e; exact ⟨z, Z', h', hca, q⟩
set_option maxRecDepth 100000 in
theorem cw_125_1 {l : Launch} {D : va_G} {b0 : Nat} {ad : Nat → Nat} {Hb : Heap} {tau : Nat → Int64} {d n s : Nat} {S : Nat → xS} {Z : xZ} {h : mx_H} {Post : mx_R → Prop} (hx : XH n s S Z h) (hG : GI n S Z) {x0 : Int} (p0 : (-2147483648) ≤ x0 ∧ x0 ≤ 2147483647) (hP : ∀ z : Int, (-2147483648) ≤ z ∧ z ≤ 2147483647 → Post (some (xI z), h)) : mx_J (tB l D b0 ad Hb tau) mt_125 (d + 2) 0 [some (.ref 1), some (xI x0), none, none, none, none] [] h Post := by
    have a1 : 1 < n := lt83 hG.1 rfl
    have s1 : S 1 = .inl (11, [2, 0, 0, 0, 2, 2, 2, 2, 2, 2, 2, 2, 2, 2, 2, 2, 2]) := hG.2.1 1 rfl
    have a7 : 7 < n := lt83 hG.1 rfl
    have s7 : S 7 = .inl (0, [2, 2, 2, 2, 0, 0]) := hG.2.1 7 rfl
    have a36 : 36 < n := lt83 hG.1 rfl
    have s36 : S 36 = .inl (5, [2, 0, 0, 0, 0, 0]) := hG.2.1 36 rfl
    refine mx_J.step (sn_125 0) (fun _ _ => rfl) ?_
    have c9 : mx_J (tB l D b0 ad Hb tau) mt_125 (d + 2) 9 [some (.ref 1), some (xI x0), none, none, none, none] [] h Post := by
      refine JcI (z := (-2)) (show mx_Sn _ _ 9 (mx_const (.int (-2)) 11) from sn_125 9) rfl ?_
      exact mx_J.ret (sn_125 11) (fun _ _ => rfl) (hP (-2) (by omega))
    refine Jif_lt (show mx_Sn _ _ 1 (mx_if_lt 9 4) from sn_125 1) (by omega) (fun q2 => ?_) (fun q2 => ?_)
    · skip
      exact c9 
    · skip
      refine mx_J.step (sn_125 4) (fun _ _ => rfl) ?_
      refine JcI (z := 1) (show mx_Sn _ _ 5 (mx_const (.int 1) 6) from sn_125 5) rfl ?_
      refine Jicmp_le (show mx_Sn _ _ 6 (mx_icmp_le 12 9) from sn_125 6) (by omega) (by omega) (fun q3 => ?_) (fun q3 => ?_)
      · skip
        refine mx_J.step (sn_125 12) (fun _ _ => rfl) ?_
        refine JgetR (g := 5) (b := 7) hx (show mx_Sn _ _ 13 (mx_getf 11 5 16) from sn_125 13) a1 s1 rfl rfl (hG.prr 1 5 rfl) ?_
        refine mx_J.step (sn_125 16) (fun _ _ => rfl) ?_
        refine JgetR (g := 12) (b := 36) hx (show mx_Sn _ _ 17 (mx_getf 11 12 20) from sn_125 17) a1 s1 rfl rfl (hG.prr 1 12 rfl) ?_
        have b4 : 0 ≤ Z 36 2 ∧ Z 36 2 ≤ 384 := hG.pr 36 2
        refine JgetI (g := 2) (z := Z 36 2) hx (show mx_Sn _ _ 20 (mx_getf 5 2 23) from sn_125 20) a36 s36 rfl rfl rfl ?_
        obtain ⟨z5, hc5, b5⟩ := ct_5_7 (d := d + 1) (l := l) (D := D) (b0 := b0) (ad := ad) (Hb := Hb) (tau := tau) hx hG (show (-2147483648) ≤ Z 36 2 ∧ Z 36 2 ≤ 2147483647 by omega)
        refine Jcv hx (show mx_Sn _ _ 23 (mx_callv 5 2 0 26) from sn_125 23) a7 s7 hc5 rfl rfl rfl ?_
        refine mx_J.step (ls2 := [some (.ref 1), some (xI x0), some (xI z5), none, none, none]) (sn_125 26) (fun _ _ => rfl) ?_
        refine JcI (z := 0) (show mx_Sn _ _ 27 (mx_const (.int 0) 28) from sn_125 27) rfl ?_
        refine mx_J.step (ls2 := [some (.ref 1), some (xI x0), some (xI z5), some (xI 0), none, none]) (sn_125 28) (fun _ _ => rfl) ?_
        refine JcI (z := 0) (show mx_Sn _ _ 29 (mx_const (.int 0) 30) from sn_125 29) rfl ?_
        refine mx_J.step (ls2 := [some (.ref 1), some (xI x0), some (xI z5), some (xI 0), some (xI 0), none]) (sn_125 30) (fun _ _ => rfl) ?_
        have c32 : ∀ (m6 : Nat) (w6_3 : Int) (w6_4 : Int), 18 - w6_4 < (m6 : Int) → (-2147483648) ≤ w6_3 ∧ w6_3 ≤ 2147483647 → 0 ≤ w6_4 ∧ w6_4 ≤ 18 → mx_J (tB l D b0 ad Hb tau) mt_125 (d + 2) 32 [some (.ref 1), some (xI x0), some (xI z5), some (xI w6_3), some (xI w6_4), none] [] h Post := by
          intro m6
          induction m6 with
          | zero => intro w6_3 w6_4 q6 f6_0 f6_1; exact absurd q6 (by omega)
          | succ m6 ih6 =>
            intro w6_3 w6_4 q6 f6_0 f6_1
            refine mx_J.step (sn_125 32) (fun _ _ => rfl) ?_
            refine mx_J.step (sn_125 34) (fun _ _ => rfl) ?_
            refine Jicmp_ge (show mx_Sn _ _ 35 (mx_icmp_ge 63 38) from sn_125 35) (by omega) (by omega) (fun q7 => ?_) (fun q7 => ?_)
            · skip
              refine JcI (z := 0) (show mx_Sn _ _ 63 (mx_const (.int 0) 64) from sn_125 63) rfl ?_
              refine mx_J.step (ls2 := [some (.ref 1), some (xI x0), some (xI z5), some (xI w6_3), some (xI 0), none]) (sn_125 64) (fun _ _ => rfl) ?_
              have c66 : ∀ (m8 : Nat) (w8_4 : Int) (u8_5 : Option Value), 18 - w8_4 < (m8 : Int) → 0 ≤ w8_4 ∧ w8_4 ≤ 18 → mx_J (tB l D b0 ad Hb tau) mt_125 (d + 2) 66 [some (.ref 1), some (xI x0), some (xI z5), some (xI w6_3), some (xI w8_4), u8_5] [] h Post := by
                intro m8
                induction m8 with
                | zero => intro w8_4 u8_5 q8 f8_0; exact absurd q8 (by omega)
                | succ m8 ih8 =>
                  intro w8_4 u8_5 q8 f8_0
                  refine mx_J.step (sn_125 66) (fun _ _ => rfl) ?_
                  refine mx_J.step (sn_125 68) (fun _ _ => rfl) ?_
                  refine Jicmp_ge (show mx_Sn _ _ 69 (mx_icmp_ge 122 72) from sn_125 69) (by omega) (by omega) (fun q9 => ?_) (fun q9 => ?_)
                  · skip
                    refine JcI (z := (-1)) (show mx_Sn _ _ 122 (mx_const (.int (-1)) 123) from sn_125 122) rfl ?_
                    exact mx_J.ret (sn_125 123) (fun _ _ => rfl) (hP (-1) (by omega))
                  · skip
                    refine mx_J.step (sn_125 72) (fun _ _ => rfl) ?_
                    refine JgetR (g := 5) (b := 7) hx (show mx_Sn _ _ 73 (mx_getf 11 5 76) from sn_125 73) a1 s1 rfl rfl (hG.prr 1 5 rfl) ?_
                    refine mx_J.step (sn_125 76) (fun _ _ => rfl) ?_
                    refine JgetR (g := 12) (b := 36) hx (show mx_Sn _ _ 77 (mx_getf 11 12 80) from sn_125 77) a1 s1 rfl rfl (hG.prr 1 12 rfl) ?_
                    have b10 : 0 ≤ Z 36 2 ∧ Z 36 2 ≤ 384 := hG.pr 36 2
                    refine JgetI (g := 2) (z := Z 36 2) hx (show mx_Sn _ _ 80 (mx_getf 5 2 83) from sn_125 80) a36 s36 rfl rfl rfl ?_
                    refine mx_J.step (sn_125 83) (fun _ _ => rfl) ?_
                    obtain ⟨z11, hc11, b11⟩ := ct_6_7 (d := d + 0) (l := l) (D := D) (b0 := b0) (ad := ad) (Hb := Hb) (tau := tau) hx hG (show (-2147483648) ≤ Z 36 2 ∧ Z 36 2 ≤ 2147483647 by omega) (show (-2147483648) ≤ w8_4 ∧ w8_4 ≤ 2147483647 by omega)
                    refine Jcv hx (show mx_Sn _ _ 85 (mx_callv 6 3 0 88) from sn_125 85) a7 s7 hc11 rfl rfl rfl ?_
                    refine mx_J.step (ls2 := [some (.ref 1), some (xI x0), some (xI z5), some (xI w6_3), some (xI w8_4), some (xI z11)]) (sn_125 88) (fun _ _ => rfl) ?_
                    refine mx_J.step (sn_125 90) (fun _ _ => rfl) ?_
                    refine mx_J.step (sn_125 92) (fun _ _ => rfl) ?_
                    refine JixorX (show mx_Sn _ _ 93 (mx_ixor 94) from sn_125 93) (fun y12 hy12 => ?_)
                    refine mx_J.step (sn_125 94) (fun _ _ => rfl) ?_
                    refine Jicmp_ge (show mx_Sn _ _ 96 (mx_icmp_ge 116 99) from sn_125 96) (by omega) (by omega) (fun q13 => ?_) (fun q13 => ?_)
                    · skip
                      refine Jiinc (z := w8_4) (cz := 1) (ls2 := [some (.ref 1), some (xI x0), some (xI z5), some (xI w6_3), some (xI (w8_4 + 1)), some (xI z11)]) (show mx_Sn _ _ 116 (mx_iinc 4 1 119) from sn_125 116) rfl rfl rfl rfl ?_
                      refine mx_J.step (sn_125 119) (fun _ _ => rfl) ?_
                      exact ih8 (w8_4 + 1) (some (xI z11)) (by omega) (by omega)
                    · skip
                      refine mx_J.step (sn_125 99) (fun _ _ => rfl) ?_
                      have c115 : ∀ (k14_0 : Int), (-2147483648) ≤ k14_0 ∧ k14_0 ≤ 2147483647 → mx_J (tB l D b0 ad Hb tau) mt_125 (d + 2) 115 [some (.ref 1), some (xI x0), some (xI z5), some (xI w6_3), some (xI w8_4), some (xI z11)] [xI k14_0] h Post := by
                        intro k14_0 f14_0
                        exact mx_J.ret (sn_125 115) (fun _ _ => rfl) (hP k14_0 (by omega))
                      refine Jif_ne (show mx_Sn _ _ 100 (mx_if_ne 108 103) from sn_125 100) (by omega) (fun q15 => ?_) (fun q15 => ?_)
                      · skip
                        refine mx_J.step (sn_125 108) (fun _ _ => rfl) ?_
                        refine mx_J.step (sn_125 110) (fun _ _ => rfl) ?_
                        refine mx_J.step (sn_125 112) (fun _ _ => rfl) ?_
                        refine JixorX (show mx_Sn _ _ 113 (mx_ixor 114) from sn_125 113) (fun y16 hy16 => ?_)
                        refine JisubN (show mx_Sn _ _ 114 (mx_isub 115) from sn_125 114) (fun y17 hy17 hq17 => ?_)
                        exact c115 y17 (by omega)
                      · skip
                        refine mx_J.step (sn_125 103) (fun _ _ => rfl) ?_
                        refine mx_J.step (sn_125 105) (fun _ _ => rfl) ?_
                        exact c115 w8_4 (by omega)
              exact c66 (Int.toNat (18 - 0) + 1) 0 none (by omega) (by omega)
            · skip
              refine mx_J.step (sn_125 38) (fun _ _ => rfl) ?_
              refine mx_J.step (sn_125 39) (fun _ _ => rfl) ?_
              refine JgetR (g := 5) (b := 7) hx (show mx_Sn _ _ 40 (mx_getf 11 5 43) from sn_125 40) a1 s1 rfl rfl (hG.prr 1 5 rfl) ?_
              refine mx_J.step (sn_125 43) (fun _ _ => rfl) ?_
              refine JgetR (g := 12) (b := 36) hx (show mx_Sn _ _ 44 (mx_getf 11 12 47) from sn_125 44) a1 s1 rfl rfl (hG.prr 1 12 rfl) ?_
              have b18 : 0 ≤ Z 36 2 ∧ Z 36 2 ≤ 384 := hG.pr 36 2
              refine JgetI (g := 2) (z := Z 36 2) hx (show mx_Sn _ _ 47 (mx_getf 5 2 50) from sn_125 47) a36 s36 rfl rfl rfl ?_
              refine mx_J.step (sn_125 50) (fun _ _ => rfl) ?_
              obtain ⟨z19, hc19, b19⟩ := ct_6_7 (d := d + 0) (l := l) (D := D) (b0 := b0) (ad := ad) (Hb := Hb) (tau := tau) hx hG (show (-2147483648) ≤ Z 36 2 ∧ Z 36 2 ≤ 2147483647 by omega) (show (-2147483648) ≤ w6_4 ∧ w6_4 ≤ 2147483647 by omega)
              refine Jcv hx (show mx_Sn _ _ 52 (mx_callv 6 3 0 55) from sn_125 52) a7 s7 hc19 rfl rfl rfl ?_
              refine JixorX (show mx_Sn _ _ 55 (mx_ixor 56) from sn_125 55) (fun y20 hy20 => ?_)
              refine mx_J.step (ls2 := [some (.ref 1), some (xI x0), some (xI z5), some (xI y20), some (xI w6_4), none]) (sn_125 56) (fun _ _ => rfl) ?_
              refine Jiinc (z := w6_4) (cz := 1) (ls2 := [some (.ref 1), some (xI x0), some (xI z5), some (xI y20), some (xI (w6_4 + 1)), none]) (show mx_Sn _ _ 57 (mx_iinc 4 1 60) from sn_125 57) rfl rfl rfl rfl ?_
              refine mx_J.step (sn_125 60) (fun _ _ => rfl) ?_
              exact ih6 y20 (w6_4 + 1) (by omega) (by omega) (by omega)
        exact c32 (Int.toNat (18 - 0) + 1) 0 0 (by omega) (by omega) (by omega)
      · skip
        exact c9 
theorem ct_125_1 {l : Launch} {D : va_G} {b0 : Nat} {ad : Nat → Nat} {Hb : Heap} {tau : Nat → Int64} {d n s : Nat} {S : Nat → xS} {Z : xZ} {h : mx_H} (hx : XH n s S Z h) (hG : GI n S Z) {x0 : Int} (p0 : (-2147483648) ≤ x0 ∧ x0 ≤ 2147483647) : ∃ z : Int, mx_Ca (tB l D b0 ad Hb tau) (d + 3) 125 [.ref 1, xI x0] h (some (xI z), h) ∧ ((-2147483648) ≤ z ∧ z ≤ 2147483647) := by
  obtain ⟨r, hca, z, e, hp⟩ := Jmt (B := tB l D b0 ad Hb tau) (M := mt_125) (mi := 125) (as := [.ref 1, xI x0]) (d := d + 2) (ls := [some (.ref 1), some (xI x0), none, none, none, none]) rfl rfl rfl rfl rfl rfl (cw_125_1 (l := l) (D := D) (b0 := b0) (ad := ad) (Hb := Hb) (tau := tau) (d := d) (Post := fun r => ∃ z : Int, r = (some (xI z), h) ∧ ((-2147483648) ≤ z ∧ z ≤ 2147483647)) hx hG p0 (fun z hz => ⟨z, rfl, hz⟩))
  subst e; exact ⟨z, hca, hp⟩
set_option maxRecDepth 100000 in
theorem cw_148_1 {l : Launch} {D : va_G} {b0 : Nat} {ad : Nat → Nat} {Hb : Heap} {tau : Nat → Int64} {d n s : Nat} {S : Nat → xS} {Z : xZ} {h : mx_H} {Post : mx_R → Prop} (hx : XH n s S Z h) (hG : GI n S Z) {x0 : Int} (p0 : 0 ≤ x0 ∧ x0 ≤ 7) (hP : ∀ (Z' : xZ) (h' : mx_H), XH n s S Z' h' → GI n S Z' → fr' [(14, (-1)), (15, (-1)), (16, (-1)), (17, (-1)), (18, (-1)), (19, (-1)), (33, (-1))] Z Z' → Post (none, h')) : mx_J (tB l D b0 ad Hb tau) mt_148 (d + 10) 0 [some (.ref 1), some (xI x0), none] [] h Post := by
    have a1 : 1 < n := lt83 hG.1 rfl
    have s1 : S 1 = .inl (11, [2, 0, 0, 0, 2, 2, 2, 2, 2, 2, 2, 2, 2, 2, 2, 2, 2]) := hG.2.1 1 rfl
    have a32 : 32 < n := lt83 hG.1 rfl
    have s32 : S 32 = .inl (9, [2, 2, 2]) := hG.2.1 32 rfl
    have a36 : 36 < n := lt83 hG.1 rfl
    have s36 : S 36 = .inl (5, [2, 0, 0, 0, 0, 0]) := hG.2.1 36 rfl
    refine mx_J.step (sn_148 0) (fun _ _ => rfl) ?_
    refine JgetR (g := 9) (b := 32) hx (show mx_Sn _ _ 1 (mx_getf 11 9 4) from sn_148 1) a1 s1 rfl rfl (hG.prr 1 9 rfl) ?_
    refine mx_J.step (sn_148 4) (fun _ _ => rfl) ?_
    refine JgetR (g := 12) (b := 36) hx (show mx_Sn _ _ 5 (mx_getf 11 12 8) from sn_148 5) a1 s1 rfl rfl (hG.prr 1 12 rfl) ?_
    have b1 : 0 ≤ Z 36 2 ∧ Z 36 2 ≤ 384 := hG.pr 36 2
    refine JgetI (g := 2) (z := Z 36 2) hx (show mx_Sn _ _ 8 (mx_getf 5 2 11) from sn_148 8) a36 s36 rfl rfl rfl ?_
    obtain ⟨Z2, h2, hc2, hx2, hG2, hf2⟩ := ct_71_32 (d := d + 8) (l := l) (D := D) (b0 := b0) (ad := ad) (Hb := Hb) (tau := tau) hx hG (show (-2147483648) ≤ Z 36 2 ∧ Z 36 2 ≤ 2147483647 by omega)
    refine Jcv0 hx (show mx_Sn _ _ 11 (mx_callv 71 2 9 14) from sn_148 11) a32 s32 hc2 rfl rfl rfl ?_
    refine JcI (z := 0) (show mx_Sn _ _ 14 (mx_const (.int 0) 15) from sn_148 14) rfl ?_
    refine mx_J.step (ls2 := [some (.ref 1), some (xI x0), some (xI 0)]) (sn_148 15) (fun _ _ => rfl) ?_
    have c16 : ∀ (m3 : Nat) (w3_2 : Int) (Z4 : xZ) (h4 : mx_H), 7 - w3_2 < (m3 : Int) → 0 ≤ w3_2 ∧ w3_2 ≤ 7 → XH n s S Z4 h4 → GI n S Z4 → fr' [(14, (-1)), (15, (-1)), (16, (-1)), (17, (-1)), (18, (-1)), (19, (-1)), (33, (-1))] Z2 Z4 → mx_J (tB l D b0 ad Hb tau) mt_148 (d + 10) 16 [some (.ref 1), some (xI x0), some (xI w3_2)] [] h4 Post := by
      intro m3
      induction m3 with
      | zero => intro w3_2 Z4 h4 q3 f3_0 hx4 hG4 hf4; exact absurd q3 (by omega)
      | succ m3 ih3 =>
        intro w3_2 Z4 h4 q3 f3_0 hx4 hG4 hf4
        refine mx_J.step (sn_148 16) (fun _ _ => rfl) ?_
        refine mx_J.step (sn_148 17) (fun _ _ => rfl) ?_
        refine Jicmp_ge (show mx_Sn _ _ 18 (mx_icmp_ge 35 21) from sn_148 18) (by omega) (by omega) (fun q5 => ?_) (fun q5 => ?_)
        · skip
          exact mx_J.ret (sn_148 35) (fun _ _ => rfl) (hP Z4 h4 hx4 hG4 (fr_tr (M := [(14, (-1)), (15, (-1)), (16, (-1)), (17, (-1)), (18, (-1)), (19, (-1)), (33, (-1))]) (fr_tr (M := [(14, (-1)), (15, (-1)), (16, (-1)), (17, (-1)), (18, (-1)), (19, (-1)), (33, (-1))]) fr_rf (hf2) (M1 := []) rfl rfl) (hf4) rfl rfl))
        · skip
          refine mx_J.step (sn_148 21) (fun _ _ => rfl) ?_
          refine JgetR (g := 9) (b := 32) hx4 (show mx_Sn _ _ 22 (mx_getf 11 9 25) from sn_148 22) a1 s1 rfl rfl (hG4.prr 1 9 rfl) ?_
          refine mx_J.step (sn_148 25) (fun _ _ => rfl) ?_
          obtain ⟨Z6, h6, hc6, hx6, hG6, hf6⟩ := ct_74_32 (d := d + 0) (l := l) (D := D) (b0 := b0) (ad := ad) (Hb := Hb) (tau := tau) hx4 hG4 (show 0 ≤ w3_2 ∧ w3_2 ≤ 6 by omega)
          refine Jcv0 hx4 (show mx_Sn _ _ 26 (mx_callv 74 2 9 29) from sn_148 26) a32 s32 hc6 rfl rfl rfl ?_
          refine Jiinc (z := w3_2) (cz := 1) (ls2 := [some (.ref 1), some (xI x0), some (xI (w3_2 + 1))]) (show mx_Sn _ _ 29 (mx_iinc 2 1 32) from sn_148 29) rfl rfl rfl rfl ?_
          refine mx_J.step (sn_148 32) (fun _ _ => rfl) ?_
          exact ih3 (w3_2 + 1) Z6 h6 (by omega) (by omega) hx6 hG6 (fr_tr (M := [(14, (-1)), (15, (-1)), (16, (-1)), (17, (-1)), (18, (-1)), (19, (-1)), (33, (-1))]) (fr_tr (M := [(14, (-1)), (15, (-1)), (16, (-1)), (17, (-1)), (18, (-1)), (19, (-1)), (33, (-1))]) fr_rf (hf4) (M1 := []) rfl rfl) (hf6) rfl rfl)
    exact c16 (Int.toNat (7 - 0) + 1) 0 Z2 h2 (by omega) (by omega) hx2 hG2 fr_rf
theorem ct_148_1 {l : Launch} {D : va_G} {b0 : Nat} {ad : Nat → Nat} {Hb : Heap} {tau : Nat → Int64} {d n s : Nat} {S : Nat → xS} {Z : xZ} {h : mx_H} (hx : XH n s S Z h) (hG : GI n S Z) {x0 : Int} (p0 : 0 ≤ x0 ∧ x0 ≤ 7) : ∃ (Z' : xZ) (h' : mx_H), mx_Ca (tB l D b0 ad Hb tau) (d + 11) 148 [.ref 1, xI x0] h (none, h') ∧ XH n s S Z' h' ∧ GI n S Z' ∧ fr' [(14, (-1)), (15, (-1)), (16, (-1)), (17, (-1)), (18, (-1)), (19, (-1)), (33, (-1))] Z Z' := by
  obtain ⟨r, hca, Z', h', e, q⟩ := Jmt (B := tB l D b0 ad Hb tau) (M := mt_148) (mi := 148) (as := [.ref 1, xI x0]) (d := d + 10) (ls := [some (.ref 1), some (xI x0), none]) rfl rfl rfl rfl rfl rfl (cw_148_1 (l := l) (D := D) (b0 := b0) (ad := ad) (Hb := Hb) (tau := tau) (d := d) (Post := fun r => ∃ (Z' : xZ) (h' : mx_H), r = (none, h') ∧ XH n s S Z' h' ∧ GI n S Z' ∧ fr' [(14, (-1)), (15, (-1)), (16, (-1)), (17, (-1)), (18, (-1)), (19, (-1)), (33, (-1))] Z Z') hx hG p0 (fun Z' h' q1 q2 q3 => ⟨Z', h', rfl, q1, q2, q3⟩))
  subst e; exact ⟨Z', h', hca, q⟩
set_option maxRecDepth 100000 in
theorem cw_126_1 {l : Launch} {D : va_G} {b0 : Nat} {ad : Nat → Nat} {Hb : Heap} {tau : Nat → Int64} {d n s : Nat} {S : Nat → xS} {Z : xZ} {h : mx_H} {Post : mx_R → Prop} (hx : XH n s S Z h) (hG : GI n S Z) {x0 x1 x2 : Int} (p0 : (-2147483648) ≤ x0 ∧ x0 ≤ 2147483647) (p1 : (-2147483648) ≤ x1 ∧ x1 ≤ 2147483647) (p2 : (-2147483648) ≤ x2 ∧ x2 ≤ 2147483647) (hP : ∀ (z : Int) (Z' : xZ) (h' : mx_H), XH n s S Z' h' → GI n S Z' → fr' [(14, (-1)), (15, (-1)), (16, (-1)), (17, (-1)), (18, (-1)), (19, (-1)), (33, (-1))] Z Z' → (-2147483648) ≤ z ∧ z ≤ 2147483647 → Post (some (xI z), h')) : mx_J (tB l D b0 ad Hb tau) mt_126 (d + 11) 0 [some (.ref 1), some (xI x0), some (xI x1), some (xI x2)] [] h Post := by
    have a1 : 1 < n := lt83 hG.1 rfl
    have s1 : S 1 = .inl (11, [2, 0, 0, 0, 2, 2, 2, 2, 2, 2, 2, 2, 2, 2, 2, 2, 2]) := hG.2.1 1 rfl
    have a32 : 32 < n := lt83 hG.1 rfl
    have s32 : S 32 = .inl (9, [2, 2, 2]) := hG.2.1 32 rfl
    refine mx_J.step (sn_126 0) (fun _ _ => rfl) ?_
    have c9 : mx_J (tB l D b0 ad Hb tau) mt_126 (d + 11) 9 [some (.ref 1), some (xI x0), some (xI x1), some (xI x2)] [] h Post := by
      refine JcI (z := (-2)) (show mx_Sn _ _ 9 (mx_const (.int (-2)) 11) from sn_126 9) rfl ?_
      exact mx_J.ret (sn_126 11) (fun _ _ => rfl) (hP (-2) Z h hx hG fr_rf (by omega))
    refine Jif_lt (show mx_Sn _ _ 1 (mx_if_lt 9 4) from sn_126 1) (by omega) (fun q2 => ?_) (fun q2 => ?_)
    · skip
      exact c9 
    · skip
      refine mx_J.step (sn_126 4) (fun _ _ => rfl) ?_
      refine JcI (z := 1) (show mx_Sn _ _ 5 (mx_const (.int 1) 6) from sn_126 5) rfl ?_
      refine Jicmp_le (show mx_Sn _ _ 6 (mx_icmp_le 12 9) from sn_126 6) (by omega) (by omega) (fun q3 => ?_) (fun q3 => ?_)
      · skip
        refine mx_J.step (sn_126 12) (fun _ _ => rfl) ?_
        refine JcI (z := 1) (show mx_Sn _ _ 13 (mx_const (.int 1) 14) from sn_126 13) rfl ?_
        have c33 : mx_J (tB l D b0 ad Hb tau) mt_126 (d + 11) 33 [some (.ref 1), some (xI x0), some (xI x1), some (xI x2)] [] h Post := by
          refine JcI (z := (-3)) (show mx_Sn _ _ 33 (mx_const (.int (-3)) 35) from sn_126 33) rfl ?_
          exact mx_J.ret (sn_126 35) (fun _ _ => rfl) (hP (-3) Z h hx hG fr_rf (by omega))
        refine Jicmp_lt (show mx_Sn _ _ 14 (mx_icmp_lt 33 17) from sn_126 14) (by omega) (by omega) (fun q5 => ?_) (fun q5 => ?_)
        · skip
          exact c33 
        · skip
          refine mx_J.step (sn_126 17) (fun _ _ => rfl) ?_
          refine JcI (z := 18) (show mx_Sn _ _ 18 (mx_const (.int 18) 20) from sn_126 18) rfl ?_
          refine Jicmp_gt (show mx_Sn _ _ 20 (mx_icmp_gt 33 23) from sn_126 20) (by omega) (by omega) (fun q6 => ?_) (fun q6 => ?_)
          · skip
            exact c33 
          · skip
            refine mx_J.step (sn_126 23) (fun _ _ => rfl) ?_
            refine Jif_lt (show mx_Sn _ _ 24 (mx_if_lt 33 27) from sn_126 24) (by omega) (fun q7 => ?_) (fun q7 => ?_)
            · skip
              exact c33 
            · skip
              refine mx_J.step (sn_126 27) (fun _ _ => rfl) ?_
              refine JcI (z := 7) (show mx_Sn _ _ 28 (mx_const (.int 7) 30) from sn_126 28) rfl ?_
              refine Jicmp_le (show mx_Sn _ _ 30 (mx_icmp_le 36 33) from sn_126 30) (by omega) (by omega) (fun q8 => ?_) (fun q8 => ?_)
              · skip
                refine mx_J.step (sn_126 36) (fun _ _ => rfl) ?_
                refine mx_J.step (sn_126 37) (fun _ _ => rfl) ?_
                obtain ⟨Z9, h9, hc9, hx9, hG9, hf9⟩ := ct_148_1 (d := d + 0) (l := l) (D := D) (b0 := b0) (ad := ad) (Hb := Hb) (tau := tau) hx hG (show 0 ≤ x1 ∧ x1 ≤ 7 by omega)
                refine Jcv0 hx (show mx_Sn _ _ 38 (mx_callv 148 2 11 41) from sn_126 38) a1 s1 hc9 rfl rfl rfl ?_
                refine mx_J.step (sn_126 41) (fun _ _ => rfl) ?_
                refine JgetR (g := 9) (b := 32) hx9 (show mx_Sn _ _ 42 (mx_getf 11 9 45) from sn_126 42) a1 s1 rfl rfl (hG9.prr 1 9 rfl) ?_
                refine mx_J.step (sn_126 45) (fun _ _ => rfl) ?_
                refine JcI (z := 1) (show mx_Sn _ _ 46 (mx_const (.int 1) 47) from sn_126 46) rfl ?_
                refine mx_J.step (sn_126 47) (fun _ _ => rfl) ?_
                obtain ⟨z10, hc10, b10⟩ := ct_75_32 (d := d + 9) (l := l) (D := D) (b0 := b0) (ad := ad) (Hb := Hb) (tau := tau) hx9 hG9 (show 0 ≤ x1 ∧ x1 ≤ 9 by omega) (show 1 ≤ 1 ∧ 1 ≤ 18 by omega) (show 1 ≤ x0 ∧ x0 ≤ 18 by omega)
                refine Jcv hx9 (show mx_Sn _ _ 48 (mx_callv 75 4 9 51) from sn_126 48) a32 s32 hc10 rfl rfl rfl ?_
                refine mx_J.step (sn_126 51) (fun _ _ => rfl) ?_
                refine mx_J.step (sn_126 52) (fun _ _ => rfl) ?_
                obtain ⟨z11, hc11, b11⟩ := ct_153_ (d := d + 10) (l := l) (D := D) (b0 := b0) (ad := ad) (Hb := Hb) (tau := tau) hx9 hG9 (show (-9223372036854775808) ≤ z10 ∧ z10 ≤ 9223372036854775807 by omega) (show 0 ≤ x1 ∧ x1 ≤ 7 by omega) (show 0 ≤ x2 ∧ x2 ≤ 1 by omega)
                refine Jcs (show mx_Sn _ _ 53 (mx_calls 153 3 56) from sn_126 53) hc11 rfl rfl rfl ?_
                exact mx_J.ret (sn_126 56) (fun _ _ => rfl) (hP z11 Z9 h9 hx9 hG9 (fr_tr (M := [(14, (-1)), (15, (-1)), (16, (-1)), (17, (-1)), (18, (-1)), (19, (-1)), (33, (-1))]) fr_rf (hf9) (M1 := []) rfl rfl) (by omega))
              · skip
                exact c33 
      · skip
        exact c9 
theorem ct_126_1 {l : Launch} {D : va_G} {b0 : Nat} {ad : Nat → Nat} {Hb : Heap} {tau : Nat → Int64} {d n s : Nat} {S : Nat → xS} {Z : xZ} {h : mx_H} (hx : XH n s S Z h) (hG : GI n S Z) {x0 x1 x2 : Int} (p0 : (-2147483648) ≤ x0 ∧ x0 ≤ 2147483647) (p1 : (-2147483648) ≤ x1 ∧ x1 ≤ 2147483647) (p2 : (-2147483648) ≤ x2 ∧ x2 ≤ 2147483647) : ∃ (z : Int) (Z' : xZ) (h' : mx_H), mx_Ca (tB l D b0 ad Hb tau) (d + 12) 126 [.ref 1, xI x0, xI x1, xI x2] h (some (xI z), h') ∧ XH n s S Z' h' ∧ GI n S Z' ∧ fr' [(14, (-1)), (15, (-1)), (16, (-1)), (17, (-1)), (18, (-1)), (19, (-1)), (33, (-1))] Z Z' ∧ ((-2147483648) ≤ z ∧ z ≤ 2147483647) := by
  obtain ⟨r, hca, z, Z', h', e, q⟩ := Jmt (B := tB l D b0 ad Hb tau) (M := mt_126) (mi := 126) (as := [.ref 1, xI x0, xI x1, xI x2]) (d := d + 11) (ls := [some (.ref 1), some (xI x0), some (xI x1), some (xI x2)]) rfl rfl rfl rfl rfl rfl (cw_126_1 (l := l) (D := D) (b0 := b0) (ad := ad) (Hb := Hb) (tau := tau) (d := d) (Post := fun r => ∃ (z : Int) (Z' : xZ) (h' : mx_H), r = (some (xI z), h') ∧ XH n s S Z' h' ∧ GI n S Z' ∧ fr' [(14, (-1)), (15, (-1)), (16, (-1)), (17, (-1)), (18, (-1)), (19, (-1)), (33, (-1))] Z Z' ∧ ((-2147483648) ≤ z ∧ z ≤ 2147483647)) hx hG p0 p1 p2 (fun z Z' h' q1 q2 q3 q4 => ⟨z, Z', h', rfl, q1, q2, q3, q4⟩))
  subst e; exact ⟨z, Z', h', hca, q⟩
set_option maxRecDepth 100000 in
theorem cw_127_1 {l : Launch} {D : va_G} {b0 : Nat} {ad : Nat → Nat} {Hb : Heap} {tau : Nat → Int64} {d n s : Nat} {S : Nat → xS} {Z : xZ} {h : mx_H} {Post : mx_R → Prop} (hx : XH n s S Z h) (hG : GI n S Z) {x0 x1 : Int} (p0 : (-2147483648) ≤ x0 ∧ x0 ≤ 2147483647) (p1 : (-2147483648) ≤ x1 ∧ x1 ≤ 2147483647) (hP : ∀ (z : Int) (Z' : xZ) (h' : mx_H), XH n s S Z' h' → GI n S Z' → fr' [(14, (-1)), (15, (-1)), (16, (-1)), (17, (-1)), (18, (-1)), (19, (-1)), (33, (-1))] Z Z' → (-2147483648) ≤ z ∧ z ≤ 2147483647 → Post (some (xI z), h')) : mx_J (tB l D b0 ad Hb tau) mt_127 (d + 11) 0 [some (.ref 1), some (xI x0), some (xI x1)] [] h Post := by
    have a1 : 1 < n := lt83 hG.1 rfl
    have s1 : S 1 = .inl (11, [2, 0, 0, 0, 2, 2, 2, 2, 2, 2, 2, 2, 2, 2, 2, 2, 2]) := hG.2.1 1 rfl
    have a32 : 32 < n := lt83 hG.1 rfl
    have s32 : S 32 = .inl (9, [2, 2, 2]) := hG.2.1 32 rfl
    refine mx_J.step (sn_127 0) (fun _ _ => rfl) ?_
    have c9 : mx_J (tB l D b0 ad Hb tau) mt_127 (d + 11) 9 [some (.ref 1), some (xI x0), some (xI x1)] [] h Post := by
      refine JcI (z := (-2)) (show mx_Sn _ _ 9 (mx_const (.int (-2)) 11) from sn_127 9) rfl ?_
      exact mx_J.ret (sn_127 11) (fun _ _ => rfl) (hP (-2) Z h hx hG fr_rf (by omega))
    refine Jif_lt (show mx_Sn _ _ 1 (mx_if_lt 9 4) from sn_127 1) (by omega) (fun q2 => ?_) (fun q2 => ?_)
    · skip
      exact c9 
    · skip
      refine mx_J.step (sn_127 4) (fun _ _ => rfl) ?_
      refine JcI (z := 1) (show mx_Sn _ _ 5 (mx_const (.int 1) 6) from sn_127 5) rfl ?_
      refine Jicmp_le (show mx_Sn _ _ 6 (mx_icmp_le 12 9) from sn_127 6) (by omega) (by omega) (fun q3 => ?_) (fun q3 => ?_)
      · skip
        refine mx_J.step (sn_127 12) (fun _ _ => rfl) ?_
        have c22 : mx_J (tB l D b0 ad Hb tau) mt_127 (d + 11) 22 [some (.ref 1), some (xI x0), some (xI x1)] [] h Post := by
          refine JcI (z := (-3)) (show mx_Sn _ _ 22 (mx_const (.int (-3)) 24) from sn_127 22) rfl ?_
          exact mx_J.ret (sn_127 24) (fun _ _ => rfl) (hP (-3) Z h hx hG fr_rf (by omega))
        refine Jif_lt (show mx_Sn _ _ 13 (mx_if_lt 22 16) from sn_127 13) (by omega) (fun q5 => ?_) (fun q5 => ?_)
        · skip
          exact c22 
        · skip
          refine mx_J.step (sn_127 16) (fun _ _ => rfl) ?_
          refine JcI (z := 7) (show mx_Sn _ _ 17 (mx_const (.int 7) 19) from sn_127 17) rfl ?_
          refine Jicmp_le (show mx_Sn _ _ 19 (mx_icmp_le 25 22) from sn_127 19) (by omega) (by omega) (fun q6 => ?_) (fun q6 => ?_)
          · skip
            refine mx_J.step (sn_127 25) (fun _ _ => rfl) ?_
            refine mx_J.step (sn_127 26) (fun _ _ => rfl) ?_
            obtain ⟨Z7, h7, hc7, hx7, hG7, hf7⟩ := ct_148_1 (d := d + 0) (l := l) (D := D) (b0 := b0) (ad := ad) (Hb := Hb) (tau := tau) hx hG (show 0 ≤ x0 ∧ x0 ≤ 7 by omega)
            refine Jcv0 hx (show mx_Sn _ _ 27 (mx_callv 148 2 11 30) from sn_127 27) a1 s1 hc7 rfl rfl rfl ?_
            refine mx_J.step (sn_127 30) (fun _ _ => rfl) ?_
            refine JgetR (g := 9) (b := 32) hx7 (show mx_Sn _ _ 31 (mx_getf 11 9 34) from sn_127 31) a1 s1 rfl rfl (hG7.prr 1 9 rfl) ?_
            refine mx_J.step (sn_127 34) (fun _ _ => rfl) ?_
            obtain ⟨z8, hc8, b8⟩ := ct_76_32 (d := d + 8) (l := l) (D := D) (b0 := b0) (ad := ad) (Hb := Hb) (tau := tau) hx7 hG7 (show 0 ≤ x0 ∧ x0 ≤ 7 by omega)
            refine Jcv hx7 (show mx_Sn _ _ 35 (mx_callv 76 2 9 38) from sn_127 35) a32 s32 hc8 rfl rfl rfl ?_
            refine mx_J.step (sn_127 38) (fun _ _ => rfl) ?_
            refine mx_J.step (sn_127 39) (fun _ _ => rfl) ?_
            obtain ⟨z9, hc9, b9⟩ := ct_153_ (d := d + 10) (l := l) (D := D) (b0 := b0) (ad := ad) (Hb := Hb) (tau := tau) hx7 hG7 (show (-9223372036854775808) ≤ z8 ∧ z8 ≤ 9223372036854775807 by omega) (show 0 ≤ x0 ∧ x0 ≤ 7 by omega) (show 0 ≤ x1 ∧ x1 ≤ 1 by omega)
            refine Jcs (show mx_Sn _ _ 40 (mx_calls 153 3 43) from sn_127 40) hc9 rfl rfl rfl ?_
            exact mx_J.ret (sn_127 43) (fun _ _ => rfl) (hP z9 Z7 h7 hx7 hG7 (fr_tr (M := [(14, (-1)), (15, (-1)), (16, (-1)), (17, (-1)), (18, (-1)), (19, (-1)), (33, (-1))]) fr_rf (hf7) (M1 := []) rfl rfl) (by omega))
          · skip
            exact c22 
      · skip
        exact c9 
theorem ct_127_1 {l : Launch} {D : va_G} {b0 : Nat} {ad : Nat → Nat} {Hb : Heap} {tau : Nat → Int64} {d n s : Nat} {S : Nat → xS} {Z : xZ} {h : mx_H} (hx : XH n s S Z h) (hG : GI n S Z) {x0 x1 : Int} (p0 : (-2147483648) ≤ x0 ∧ x0 ≤ 2147483647) (p1 : (-2147483648) ≤ x1 ∧ x1 ≤ 2147483647) : ∃ (z : Int) (Z' : xZ) (h' : mx_H), mx_Ca (tB l D b0 ad Hb tau) (d + 12) 127 [.ref 1, xI x0, xI x1] h (some (xI z), h') ∧ XH n s S Z' h' ∧ GI n S Z' ∧ fr' [(14, (-1)), (15, (-1)), (16, (-1)), (17, (-1)), (18, (-1)), (19, (-1)), (33, (-1))] Z Z' ∧ ((-2147483648) ≤ z ∧ z ≤ 2147483647) := by
  obtain ⟨r, hca, z, Z', h', e, q⟩ := Jmt (B := tB l D b0 ad Hb tau) (M := mt_127) (mi := 127) (as := [.ref 1, xI x0, xI x1]) (d := d + 11) (ls := [some (.ref 1), some (xI x0), some (xI x1)]) rfl rfl rfl rfl rfl rfl (cw_127_1 (l := l) (D := D) (b0 := b0) (ad := ad) (Hb := Hb) (tau := tau) (d := d) (Post := fun r => ∃ (z : Int) (Z' : xZ) (h' : mx_H), r = (some (xI z), h') ∧ XH n s S Z' h' ∧ GI n S Z' ∧ fr' [(14, (-1)), (15, (-1)), (16, (-1)), (17, (-1)), (18, (-1)), (19, (-1)), (33, (-1))] Z Z' ∧ ((-2147483648) ≤ z ∧ z ≤ 2147483647)) hx hG p0 p1 (fun z Z' h' q1 q2 q3 q4 => ⟨z, Z', h', rfl, q1, q2, q3, q4⟩))
  subst e; exact ⟨z, Z', h', hca, q⟩
set_option maxRecDepth 100000 in
theorem cw_145_1_i0 {l : Launch} {D : va_G} {b0 : Nat} {ad : Nat → Nat} {Hb : Heap} {tau : Nat → Int64} {d n s : Nat} {S : Nat → xS} {Z : xZ} {h : mx_H} {Post : mx_R → Prop} (hx : XH n s S Z h) (hG : GI n S Z)  (hP : ∀ (z : Int) (Z' : xZ) (h' : mx_H), XH n s S Z' h' → GI n S Z' → fr' [(42, (-1))] Z Z' → (-6) ≤ z ∧ z ≤ 384 → Post (some (xI z), h')) : mx_J (tB l D b0 ad Hb tau) mt_145 (d + 2) 0 [some (.ref 1), some (xI 0), none, none, none, none] [] h Post := by
    have a1 : 1 < n := lt83 hG.1 rfl
    have s1 : S 1 = .inl (11, [2, 0, 0, 0, 2, 2, 2, 2, 2, 2, 2, 2, 2, 2, 2, 2, 2]) := hG.2.1 1 rfl
    have a7 : 7 < n := lt83 hG.1 rfl
    have s7 : S 7 = .inl (0, [2, 2, 2, 2, 0, 0]) := hG.2.1 7 rfl
    have a34 : 34 < n := lt83 hG.1 rfl
    have s34 : S 34 = .inr ((.object "TitheHeap$Tray"), 4, 2) := hG.2.1 34 rfl
    have a36 : 36 < n := lt83 hG.1 rfl
    have s36 : S 36 = .inl (5, [2, 0, 0, 0, 0, 0]) := hG.2.1 36 rfl
    have a42 : 42 < n := lt83 hG.1 rfl
    have s42 : S 42 = .inr (.int, 19, 0) := hG.2.1 42 rfl
    have a44 : 44 < n := lt83 hG.1 rfl
    have s44 : S 44 = .inl (10, [2, 0, 0, 0]) := hG.2.1 44 rfl
    refine mx_J.step (sn_145 0) (fun _ _ => rfl) ?_
    refine mx_J.step (sn_145 1) (fun _ _ => rfl) ?_
    obtain ⟨z1, hc1, b1⟩ := ct_144_1_y (d := d + 1) (l := l) (D := D) (b0 := b0) (ad := ad) (Hb := Hb) (tau := tau) hx hG (show 0 ≤ 0 ∧ 0 ≤ 3 by omega)
    refine Jcv hx (show mx_Sn _ _ 2 (mx_callv 144 2 11 5) from sn_145 2) a1 s1 hc1 rfl rfl rfl ?_
    refine Jif_eq (show mx_Sn _ _ 5 (mx_if_eq 11 8) from sn_145 5) (by omega) (fun q2 => ?_) (fun q2 => ?_)
    · skip
      refine mx_J.step (sn_145 11) (fun _ _ => rfl) ?_
      refine JgetR (g := 10) (b := 34) hx (show mx_Sn _ _ 12 (mx_getf 11 10 15) from sn_145 12) a1 s1 rfl rfl (hG.prr 1 10 rfl) ?_
      refine mx_J.step (sn_145 15) (fun _ _ => rfl) ?_
      refine JaaldR (i := 0) (b := 44) hx (show mx_Sn _ _ 16 (mx_aald 17) from sn_145 16) a34 s34 (by omega) (show Z 34 0 = 44 by have hq := GI_ex hG 34 0; replace hq : ((0 : Int) ≤ 0 → (0 : Int) ≤ 3 → (Z 34 0) = 44 + 2 * 0) := hq; omega) ?_
      refine mx_J.step (ls2 := [some (.ref 1), some (xI 0), some (.ref 44), none, none, none]) (sn_145 17) (fun _ _ => rfl) ?_
      refine mx_J.step (sn_145 18) (fun _ _ => rfl) ?_
      have b3 : 0 ≤ Z 44 3 ∧ Z 44 3 ≤ 1 := hG.pr 44 3
      refine JgetI (g := 3) (z := Z 44 3) hx (show mx_Sn _ _ 19 (mx_getf 10 3 22) from sn_145 19) a44 s44 rfl rfl rfl ?_
      refine Jif_eq (show mx_Sn _ _ 22 (mx_if_eq 28 25) from sn_145 22) (by omega) (fun q4 => ?_) (fun q4 => ?_)
      · skip
        refine mx_J.step (sn_145 28) (fun _ _ => rfl) ?_
        have b5 : 0 ≤ Z 44 2 ∧ Z 44 2 ≤ 40 := hG.pr 44 2
        refine JgetI (g := 2) (z := Z 44 2) hx (show mx_Sn _ _ 29 (mx_getf 10 2 32) from sn_145 29) a44 s44 rfl rfl rfl ?_
        refine JcI (z := 1) (show mx_Sn _ _ 32 (mx_const (.int 1) 33) from sn_145 32) rfl ?_
        have c45 : mx_J (tB l D b0 ad Hb tau) mt_145 (d + 2) 45 [some (.ref 1), some (xI 0), some (.ref 44), none, none, none] [] h Post := by
          refine JcI (z := (-4)) (show mx_Sn _ _ 45 (mx_const (.int (-4)) 47) from sn_145 45) rfl ?_
          exact mx_J.ret (sn_145 47) (fun _ _ => rfl) (hP (-4) Z h hx hG fr_rf (by omega))
        refine Jicmp_lt (show mx_Sn _ _ 33 (mx_icmp_lt 45 36) from sn_145 33) (by omega) (by omega) (fun q7 => ?_) (fun q7 => ?_)
        · skip
          exact c45 
        · skip
          refine mx_J.step (sn_145 36) (fun _ _ => rfl) ?_
          have b8 : 0 ≤ Z 44 2 ∧ Z 44 2 ≤ 40 := hG.pr 44 2
          refine JgetI (g := 2) (z := Z 44 2) hx (show mx_Sn _ _ 37 (mx_getf 10 2 40) from sn_145 37) a44 s44 rfl rfl rfl ?_
          refine JcI (z := 18) (show mx_Sn _ _ 40 (mx_const (.int 18) 42) from sn_145 40) rfl ?_
          refine Jicmp_le (show mx_Sn _ _ 42 (mx_icmp_le 48 45) from sn_145 42) (by omega) (by omega) (fun q9 => ?_) (fun q9 => ?_)
          · skip
            refine mx_J.step (sn_145 48) (fun _ _ => rfl) ?_
            refine JcL (z := 1) (show mx_Sn _ _ 49 (mx_const (.long 1) 50) from sn_145 49) rfl ?_
            refine JcL (z := 18) (show mx_Sn _ _ 50 (mx_const (.long 18) 53) from sn_145 50) rfl ?_
            obtain ⟨z10, hc10, b10⟩ := ct_86_44 (d := d + 1) (l := l) (D := D) (b0 := b0) (ad := ad) (Hb := Hb) (tau := tau) hx hG (show (-9223372036854775808) ≤ 1 ∧ 1 ≤ 9223372036854775807 by omega) (show (-9223372036854775808) ≤ 18 ∧ 18 ≤ 9223372036854775807 by omega)
            refine Jcv hx (show mx_Sn _ _ 53 (mx_callv 86 3 10 56) from sn_145 53) a44 s44 hc10 rfl rfl rfl ?_
            refine Jif_ne (show mx_Sn _ _ 56 (mx_if_ne 62 59) from sn_145 56) (by omega) (fun q11 => ?_) (fun q11 => ?_)
            · skip
              have tz := b10.2.2 (by omega)
              refine JcI (z := 0) (show mx_Sn _ _ 62 (mx_const (.int 0) 63) from sn_145 62) rfl ?_
              refine mx_J.step (ls2 := [some (.ref 1), some (xI 0), some (.ref 44), some (xI 0), none, none]) (sn_145 63) (fun _ _ => rfl) ?_
              refine mx_J.step (sn_145 64) (fun _ _ => rfl) ?_
              refine JgetR (g := 15) (b := 42) hx (show mx_Sn _ _ 65 (mx_getf 11 15 68) from sn_145 65) a1 s1 rfl rfl (hG.prr 1 15 rfl) ?_
              refine JcI (z := 0) (show mx_Sn _ _ 68 (mx_const (.int 0) 69) from sn_145 68) rfl ?_
              obtain ⟨Z12, h12, hc12, hx12, hG12, hf12, m12_42⟩ := ct_284_42_i0 (d := d + 1) (l := l) (D := D) (b0 := b0) (ad := ad) (Hb := Hb) (tau := tau) hx hG 
              refine Jcs0 (show mx_Sn _ _ 69 (mx_calls 284 2 72) from sn_145 69) hc12 rfl rfl rfl ?_
              refine JcI (z := 0) (show mx_Sn _ _ 72 (mx_const (.int 0) 73) from sn_145 72) rfl ?_
              refine mx_J.step (ls2 := [some (.ref 1), some (xI 0), some (.ref 44), some (xI 0), some (xI 0), none]) (sn_145 73) (fun _ _ => rfl) ?_
              have c75 : ∀ (m13 : Nat) (w13_3 : Int) (w13_4 : Int) (u13_5 : Option Value) (Z14 : xZ) (h14 : mx_H), 18 - w13_4 < (m13 : Int) → 0 ≤ w13_3 ∧ w13_3 ≤ 324 → 0 ≤ w13_4 ∧ w13_4 ≤ 18 → w13_3 ≤ 18 * w13_4 → AB Z14 42 (19) (0) (w13_4) → XH n s S Z14 h14 → GI n S Z14 → fr' [(42, (-1))] Z12 Z14 → mx_J (tB l D b0 ad Hb tau) mt_145 (d + 2) 75 [some (.ref 1), some (xI 0), some (.ref 44), some (xI w13_3), some (xI w13_4), u13_5] [] h14 Post := by
                intro m13
                induction m13 with
                | zero => intro w13_3 w13_4 u13_5 Z14 h14 q13 f13_0 f13_1 f13_2 f13_3 hx14 hG14 hf14; exact absurd q13 (by omega)
                | succ m13 ih13 =>
                  intro w13_3 w13_4 u13_5 Z14 h14 q13 f13_0 f13_1 f13_2 f13_3 hx14 hG14 hf14
                  refine mx_J.step (sn_145 75) (fun _ _ => rfl) ?_
                  refine mx_J.step (sn_145 77) (fun _ _ => rfl) ?_
                  have b15 : 0 ≤ Z 44 2 ∧ Z 44 2 ≤ 40 := hG.pr 44 2
                  refine JgetI (g := 2) (z := Z 44 2) hx14 (show mx_Sn _ _ 78 (mx_getf 10 2 81) from sn_145 78) a44 s44 rfl rfl ((hf14 44 2 rfl).trans (hf12 44 2 rfl)) ?_
                  refine Jicmp_ge (show mx_Sn _ _ 81 (mx_icmp_ge 115 84) from sn_145 81) (by omega) (by omega) (fun q16 => ?_) (fun q16 => ?_)
                  · skip
                    refine mx_J.step (sn_145 115) (fun _ _ => rfl) ?_
                    refine mx_J.step (sn_145 116) (fun _ _ => rfl) ?_
                    refine JgetR (g := 12) (b := 36) hx14 (show mx_Sn _ _ 117 (mx_getf 11 12 120) from sn_145 117) a1 s1 rfl rfl (hG14.prr 1 12 rfl) ?_
                    have b17 : 1 ≤ Z 36 1 ∧ Z 36 1 ≤ 18 := hG.pr 36 1
                    refine JgetI (g := 1) (z := Z 36 1) hx14 (show mx_Sn _ _ 120 (mx_getf 5 1 123) from sn_145 120) a36 s36 rfl rfl ((hf14 36 1 rfl).trans (hf12 36 1 rfl)) ?_
                    have c142 : ∀ (k18_0 : Int), (-5) ≤ k18_0 ∧ k18_0 ≤ 384 → mx_J (tB l D b0 ad Hb tau) mt_145 (d + 2) 142 [some (.ref 1), some (xI 0), some (.ref 44), some (xI w13_3), some (xI w13_4), u13_5] [xI k18_0] h14 Post := by
                      intro k18_0 f18_0
                      exact mx_J.ret (sn_145 142) (fun _ _ => rfl) (hP k18_0 Z14 h14 hx14 hG14 (fr_tr (M := [(42, (-1))]) (fr_tr (M := [(42, (-1))]) fr_rf (hf12) (M1 := []) rfl rfl) (hf14) rfl rfl) (by omega))
                    refine Jicmp_ne (show mx_Sn _ _ 123 (mx_icmp_ne 140 126) from sn_145 123) (by omega) (by omega) (fun q19 => ?_) (fun q19 => ?_)
                    · skip
                      refine JcI (z := (-5)) (show mx_Sn _ _ 140 (mx_const (.int (-5)) 142) from sn_145 140) rfl ?_
                      exact c142 (-5) (by omega)
                    · skip
                      refine mx_J.step (sn_145 126) (fun _ _ => rfl) ?_
                      refine JgetR (g := 5) (b := 7) hx14 (show mx_Sn _ _ 127 (mx_getf 11 5 130) from sn_145 127) a1 s1 rfl rfl (hG14.prr 1 5 rfl) ?_
                      refine mx_J.step (sn_145 130) (fun _ _ => rfl) ?_
                      refine JgetR (g := 15) (b := 42) hx14 (show mx_Sn _ _ 131 (mx_getf 11 15 134) from sn_145 131) a1 s1 rfl rfl (hG14.prr 1 15 rfl) ?_
                      obtain ⟨z20, hc20, b20⟩ := ct_9_7_42 (d := d + 0) (l := l) (D := D) (b0 := b0) (ad := ad) (Hb := Hb) (tau := tau) hx14 hG14  (ab_mono f13_3 (by omega) (by omega) (by omega))
                      refine Jcv hx14 (show mx_Sn _ _ 134 (mx_callv 9 2 0 137) from sn_145 134) a7 s7 hc20 rfl rfl rfl ?_
                      refine mx_J.step (sn_145 137) (fun _ _ => rfl) ?_
                      exact c142 z20 (by omega)
                  · skip
                    refine mx_J.step (sn_145 84) (fun _ _ => rfl) ?_
                    refine mx_J.step (sn_145 85) (fun _ _ => rfl) ?_
                    obtain ⟨z21, hc21, b21⟩ := ct_85_44 (d := d + 1) (l := l) (D := D) (b0 := b0) (ad := ad) (Hb := Hb) (tau := tau) hx14 hG14 (show (-2147483648) ≤ w13_4 ∧ w13_4 ≤ 2147483647 by omega)
                    have eq22 : Z14 45 w13_4 = Z 45 w13_4 := ((hf14 45 w13_4 rfl).trans (hf12 45 w13_4 rfl))
                    refine Jcv hx14 (show mx_Sn _ _ 87 (mx_callv 85 2 10 90) from sn_145 87) a44 s44 hc21 rfl rfl rfl ?_
                    have tw := tz w13_4 (by omega) (by omega)
                    refine Jl2i (show mx_Sn _ _ 90 (mx_l2i 91) from sn_145 90) ?_
                    refine mx_J.step (ls2 := [some (.ref 1), some (xI 0), some (.ref 44), some (xI w13_3), some (xI w13_4), some (xI z21)]) (sn_145 91) (fun _ _ => rfl) ?_
                    refine mx_J.step (sn_145 93) (fun _ _ => rfl) ?_
                    refine JgetR (g := 15) (b := 42) hx14 (show mx_Sn _ _ 94 (mx_getf 11 15 97) from sn_145 94) a1 s1 rfl rfl (hG14.prr 1 15 rfl) ?_
                    refine mx_J.step (sn_145 97) (fun _ _ => rfl) ?_
                    refine mx_J.step (sn_145 99) (fun _ _ => rfl) ?_
                    have b23 : 0 ≤ Z14 42 z21 ∧ Z14 42 z21 ≤ w13_4 := f13_3 z21 (by omega) (by omega)
                    have b24 : (-2147483648) ≤ Z14 42 z21 ∧ Z14 42 z21 ≤ 2147483647 := hG14.pr 42 z21
                    refine JialdI (z := Z14 42 z21) hx14 (show mx_Sn _ _ 100 (mx_iald 101) from sn_145 100) a42 s42 (by omega) rfl ?_
                    refine JcI (z := 1) (show mx_Sn _ _ 101 (mx_const (.int 1) 102) from sn_145 101) rfl ?_
                    refine Jiadd (show mx_Sn _ _ 102 (mx_iadd 103) from sn_145 102) ?_
                    refine JiastI hx14 (show mx_Sn _ _ 103 (mx_iast 1 104) from sn_145 103) a42 s42 rfl (by omega) (fun Z25 h25 hx25 hE25 => ?_)
                    have hG25 := GI_up hG14 hE25 (show (-2147483648) ≤ (Z14 42 z21) + 1 ∧ (Z14 42 z21) + 1 ≤ 2147483647 by omega) trivial rfl
                    have m25 : AB Z25 42 19 0 (w13_4 + 1) := ab_up hE25 f13_3 (by omega) (by omega) (by omega)
                    refine mx_J.step (sn_145 104) (fun _ _ => rfl) ?_
                    refine mx_J.step (sn_145 105) (fun _ _ => rfl) ?_
                    refine Jiadd (show mx_Sn _ _ 107 (mx_iadd 108) from sn_145 107) ?_
                    refine mx_J.step (ls2 := [some (.ref 1), some (xI 0), some (.ref 44), some (xI (w13_3 + z21)), some (xI w13_4), some (xI z21)]) (sn_145 108) (fun _ _ => rfl) ?_
                    refine Jiinc (z := w13_4) (cz := 1) (ls2 := [some (.ref 1), some (xI 0), some (.ref 44), some (xI (w13_3 + z21)), some (xI (w13_4 + 1)), some (xI z21)]) (show mx_Sn _ _ 109 (mx_iinc 4 1 112) from sn_145 109) rfl rfl rfl rfl ?_
                    refine mx_J.step (sn_145 112) (fun _ _ => rfl) ?_
                    exact ih13 (w13_3 + z21) (w13_4 + 1) (some (xI z21)) Z25 h25 (by omega) (by omega) (by omega) (by omega) (ab_mono m25 (by omega) (by omega) (by omega)) hx25 hG25 (fr_tr (M := [(42, (-1))]) (fr_tr (M := [(42, (-1))]) fr_rf (hf14) (M1 := []) rfl rfl) (fr_ua hE25) rfl rfl)
              exact c75 (Int.toNat (18 - 0) + 1) 0 0 none Z12 h12 (by omega) (by omega) (by omega) (by omega) (ab_mono m12_42 (by omega) (by omega) (by omega)) hx12 hG12 fr_rf
            · skip
              refine JcI (z := (-3)) (show mx_Sn _ _ 59 (mx_const (.int (-3)) 61) from sn_145 59) rfl ?_
              exact mx_J.ret (sn_145 61) (fun _ _ => rfl) (hP (-3) Z h hx hG fr_rf (by omega))
          · skip
            exact c45 
      · skip
        refine JcI (z := (-6)) (show mx_Sn _ _ 25 (mx_const (.int (-6)) 27) from sn_145 25) rfl ?_
        exact mx_J.ret (sn_145 27) (fun _ _ => rfl) (hP (-6) Z h hx hG fr_rf (by omega))
    · skip
      exfalso; omega
theorem ct_145_1_i0 {l : Launch} {D : va_G} {b0 : Nat} {ad : Nat → Nat} {Hb : Heap} {tau : Nat → Int64} {d n s : Nat} {S : Nat → xS} {Z : xZ} {h : mx_H} (hx : XH n s S Z h) (hG : GI n S Z)  : ∃ (z : Int) (Z' : xZ) (h' : mx_H), mx_Ca (tB l D b0 ad Hb tau) (d + 3) 145 [.ref 1, xI 0] h (some (xI z), h') ∧ XH n s S Z' h' ∧ GI n S Z' ∧ fr' [(42, (-1))] Z Z' ∧ ((-6) ≤ z ∧ z ≤ 384) := by
  obtain ⟨r, hca, z, Z', h', e, q⟩ := Jmt (B := tB l D b0 ad Hb tau) (M := mt_145) (mi := 145) (as := [.ref 1, xI 0]) (d := d + 2) (ls := [some (.ref 1), some (xI 0), none, none, none, none]) rfl rfl rfl rfl rfl rfl (cw_145_1_i0 (l := l) (D := D) (b0 := b0) (ad := ad) (Hb := Hb) (tau := tau) (d := d) (Post := fun r => ∃ (z : Int) (Z' : xZ) (h' : mx_H), r = (some (xI z), h') ∧ XH n s S Z' h' ∧ GI n S Z' ∧ fr' [(42, (-1))] Z Z' ∧ ((-6) ≤ z ∧ z ≤ 384)) hx hG  (fun z Z' h' q1 q2 q3 q4 => ⟨z, Z', h', rfl, q1, q2, q3, q4⟩))
  subst e; exact ⟨z, Z', h', hca, q⟩
set_option maxRecDepth 100000 in
theorem cw_145_1_i1 {l : Launch} {D : va_G} {b0 : Nat} {ad : Nat → Nat} {Hb : Heap} {tau : Nat → Int64} {d n s : Nat} {S : Nat → xS} {Z : xZ} {h : mx_H} {Post : mx_R → Prop} (hx : XH n s S Z h) (hG : GI n S Z)  (hP : ∀ (z : Int) (Z' : xZ) (h' : mx_H), XH n s S Z' h' → GI n S Z' → fr' [(42, (-1))] Z Z' → (-6) ≤ z ∧ z ≤ 384 → Post (some (xI z), h')) : mx_J (tB l D b0 ad Hb tau) mt_145 (d + 2) 0 [some (.ref 1), some (xI 1), none, none, none, none] [] h Post := by
    have a1 : 1 < n := lt83 hG.1 rfl
    have s1 : S 1 = .inl (11, [2, 0, 0, 0, 2, 2, 2, 2, 2, 2, 2, 2, 2, 2, 2, 2, 2]) := hG.2.1 1 rfl
    have a7 : 7 < n := lt83 hG.1 rfl
    have s7 : S 7 = .inl (0, [2, 2, 2, 2, 0, 0]) := hG.2.1 7 rfl
    have a34 : 34 < n := lt83 hG.1 rfl
    have s34 : S 34 = .inr ((.object "TitheHeap$Tray"), 4, 2) := hG.2.1 34 rfl
    have a36 : 36 < n := lt83 hG.1 rfl
    have s36 : S 36 = .inl (5, [2, 0, 0, 0, 0, 0]) := hG.2.1 36 rfl
    have a42 : 42 < n := lt83 hG.1 rfl
    have s42 : S 42 = .inr (.int, 19, 0) := hG.2.1 42 rfl
    have a46 : 46 < n := lt83 hG.1 rfl
    have s46 : S 46 = .inl (10, [2, 0, 0, 0]) := hG.2.1 46 rfl
    refine mx_J.step (sn_145 0) (fun _ _ => rfl) ?_
    refine mx_J.step (sn_145 1) (fun _ _ => rfl) ?_
    obtain ⟨z1, hc1, b1⟩ := ct_144_1_y (d := d + 1) (l := l) (D := D) (b0 := b0) (ad := ad) (Hb := Hb) (tau := tau) hx hG (show 0 ≤ 1 ∧ 1 ≤ 3 by omega)
    refine Jcv hx (show mx_Sn _ _ 2 (mx_callv 144 2 11 5) from sn_145 2) a1 s1 hc1 rfl rfl rfl ?_
    refine Jif_eq (show mx_Sn _ _ 5 (mx_if_eq 11 8) from sn_145 5) (by omega) (fun q2 => ?_) (fun q2 => ?_)
    · skip
      refine mx_J.step (sn_145 11) (fun _ _ => rfl) ?_
      refine JgetR (g := 10) (b := 34) hx (show mx_Sn _ _ 12 (mx_getf 11 10 15) from sn_145 12) a1 s1 rfl rfl (hG.prr 1 10 rfl) ?_
      refine mx_J.step (sn_145 15) (fun _ _ => rfl) ?_
      refine JaaldR (i := 1) (b := 46) hx (show mx_Sn _ _ 16 (mx_aald 17) from sn_145 16) a34 s34 (by omega) (show Z 34 1 = 46 by have hq := GI_ex hG 34 1; replace hq : ((0 : Int) ≤ 1 → (1 : Int) ≤ 3 → (Z 34 1) = 44 + 2 * 1) := hq; omega) ?_
      refine mx_J.step (ls2 := [some (.ref 1), some (xI 1), some (.ref 46), none, none, none]) (sn_145 17) (fun _ _ => rfl) ?_
      refine mx_J.step (sn_145 18) (fun _ _ => rfl) ?_
      have b3 : 0 ≤ Z 46 3 ∧ Z 46 3 ≤ 1 := hG.pr 46 3
      refine JgetI (g := 3) (z := Z 46 3) hx (show mx_Sn _ _ 19 (mx_getf 10 3 22) from sn_145 19) a46 s46 rfl rfl rfl ?_
      refine Jif_eq (show mx_Sn _ _ 22 (mx_if_eq 28 25) from sn_145 22) (by omega) (fun q4 => ?_) (fun q4 => ?_)
      · skip
        refine mx_J.step (sn_145 28) (fun _ _ => rfl) ?_
        have b5 : 0 ≤ Z 46 2 ∧ Z 46 2 ≤ 40 := hG.pr 46 2
        refine JgetI (g := 2) (z := Z 46 2) hx (show mx_Sn _ _ 29 (mx_getf 10 2 32) from sn_145 29) a46 s46 rfl rfl rfl ?_
        refine JcI (z := 1) (show mx_Sn _ _ 32 (mx_const (.int 1) 33) from sn_145 32) rfl ?_
        have c45 : mx_J (tB l D b0 ad Hb tau) mt_145 (d + 2) 45 [some (.ref 1), some (xI 1), some (.ref 46), none, none, none] [] h Post := by
          refine JcI (z := (-4)) (show mx_Sn _ _ 45 (mx_const (.int (-4)) 47) from sn_145 45) rfl ?_
          exact mx_J.ret (sn_145 47) (fun _ _ => rfl) (hP (-4) Z h hx hG fr_rf (by omega))
        refine Jicmp_lt (show mx_Sn _ _ 33 (mx_icmp_lt 45 36) from sn_145 33) (by omega) (by omega) (fun q7 => ?_) (fun q7 => ?_)
        · skip
          exact c45 
        · skip
          refine mx_J.step (sn_145 36) (fun _ _ => rfl) ?_
          have b8 : 0 ≤ Z 46 2 ∧ Z 46 2 ≤ 40 := hG.pr 46 2
          refine JgetI (g := 2) (z := Z 46 2) hx (show mx_Sn _ _ 37 (mx_getf 10 2 40) from sn_145 37) a46 s46 rfl rfl rfl ?_
          refine JcI (z := 18) (show mx_Sn _ _ 40 (mx_const (.int 18) 42) from sn_145 40) rfl ?_
          refine Jicmp_le (show mx_Sn _ _ 42 (mx_icmp_le 48 45) from sn_145 42) (by omega) (by omega) (fun q9 => ?_) (fun q9 => ?_)
          · skip
            refine mx_J.step (sn_145 48) (fun _ _ => rfl) ?_
            refine JcL (z := 1) (show mx_Sn _ _ 49 (mx_const (.long 1) 50) from sn_145 49) rfl ?_
            refine JcL (z := 18) (show mx_Sn _ _ 50 (mx_const (.long 18) 53) from sn_145 50) rfl ?_
            obtain ⟨z10, hc10, b10⟩ := ct_86_46 (d := d + 1) (l := l) (D := D) (b0 := b0) (ad := ad) (Hb := Hb) (tau := tau) hx hG (show (-9223372036854775808) ≤ 1 ∧ 1 ≤ 9223372036854775807 by omega) (show (-9223372036854775808) ≤ 18 ∧ 18 ≤ 9223372036854775807 by omega)
            refine Jcv hx (show mx_Sn _ _ 53 (mx_callv 86 3 10 56) from sn_145 53) a46 s46 hc10 rfl rfl rfl ?_
            refine Jif_ne (show mx_Sn _ _ 56 (mx_if_ne 62 59) from sn_145 56) (by omega) (fun q11 => ?_) (fun q11 => ?_)
            · skip
              have tz := b10.2.2 (by omega)
              refine JcI (z := 0) (show mx_Sn _ _ 62 (mx_const (.int 0) 63) from sn_145 62) rfl ?_
              refine mx_J.step (ls2 := [some (.ref 1), some (xI 1), some (.ref 46), some (xI 0), none, none]) (sn_145 63) (fun _ _ => rfl) ?_
              refine mx_J.step (sn_145 64) (fun _ _ => rfl) ?_
              refine JgetR (g := 15) (b := 42) hx (show mx_Sn _ _ 65 (mx_getf 11 15 68) from sn_145 65) a1 s1 rfl rfl (hG.prr 1 15 rfl) ?_
              refine JcI (z := 0) (show mx_Sn _ _ 68 (mx_const (.int 0) 69) from sn_145 68) rfl ?_
              obtain ⟨Z12, h12, hc12, hx12, hG12, hf12, m12_42⟩ := ct_284_42_i0 (d := d + 1) (l := l) (D := D) (b0 := b0) (ad := ad) (Hb := Hb) (tau := tau) hx hG 
              refine Jcs0 (show mx_Sn _ _ 69 (mx_calls 284 2 72) from sn_145 69) hc12 rfl rfl rfl ?_
              refine JcI (z := 0) (show mx_Sn _ _ 72 (mx_const (.int 0) 73) from sn_145 72) rfl ?_
              refine mx_J.step (ls2 := [some (.ref 1), some (xI 1), some (.ref 46), some (xI 0), some (xI 0), none]) (sn_145 73) (fun _ _ => rfl) ?_
              have c75 : ∀ (m13 : Nat) (w13_3 : Int) (w13_4 : Int) (u13_5 : Option Value) (Z14 : xZ) (h14 : mx_H), 18 - w13_4 < (m13 : Int) → 0 ≤ w13_3 ∧ w13_3 ≤ 324 → 0 ≤ w13_4 ∧ w13_4 ≤ 18 → w13_3 ≤ 18 * w13_4 → AB Z14 42 (19) (0) (w13_4) → XH n s S Z14 h14 → GI n S Z14 → fr' [(42, (-1))] Z12 Z14 → mx_J (tB l D b0 ad Hb tau) mt_145 (d + 2) 75 [some (.ref 1), some (xI 1), some (.ref 46), some (xI w13_3), some (xI w13_4), u13_5] [] h14 Post := by
                intro m13
                induction m13 with
                | zero => intro w13_3 w13_4 u13_5 Z14 h14 q13 f13_0 f13_1 f13_2 f13_3 hx14 hG14 hf14; exact absurd q13 (by omega)
                | succ m13 ih13 =>
                  intro w13_3 w13_4 u13_5 Z14 h14 q13 f13_0 f13_1 f13_2 f13_3 hx14 hG14 hf14
                  refine mx_J.step (sn_145 75) (fun _ _ => rfl) ?_
                  refine mx_J.step (sn_145 77) (fun _ _ => rfl) ?_
                  have b15 : 0 ≤ Z 46 2 ∧ Z 46 2 ≤ 40 := hG.pr 46 2
                  refine JgetI (g := 2) (z := Z 46 2) hx14 (show mx_Sn _ _ 78 (mx_getf 10 2 81) from sn_145 78) a46 s46 rfl rfl ((hf14 46 2 rfl).trans (hf12 46 2 rfl)) ?_
                  refine Jicmp_ge (show mx_Sn _ _ 81 (mx_icmp_ge 115 84) from sn_145 81) (by omega) (by omega) (fun q16 => ?_) (fun q16 => ?_)
                  · skip
                    refine mx_J.step (sn_145 115) (fun _ _ => rfl) ?_
                    refine mx_J.step (sn_145 116) (fun _ _ => rfl) ?_
                    refine JgetR (g := 12) (b := 36) hx14 (show mx_Sn _ _ 117 (mx_getf 11 12 120) from sn_145 117) a1 s1 rfl rfl (hG14.prr 1 12 rfl) ?_
                    have b17 : 1 ≤ Z 36 1 ∧ Z 36 1 ≤ 18 := hG.pr 36 1
                    refine JgetI (g := 1) (z := Z 36 1) hx14 (show mx_Sn _ _ 120 (mx_getf 5 1 123) from sn_145 120) a36 s36 rfl rfl ((hf14 36 1 rfl).trans (hf12 36 1 rfl)) ?_
                    have c142 : ∀ (k18_0 : Int), (-5) ≤ k18_0 ∧ k18_0 ≤ 384 → mx_J (tB l D b0 ad Hb tau) mt_145 (d + 2) 142 [some (.ref 1), some (xI 1), some (.ref 46), some (xI w13_3), some (xI w13_4), u13_5] [xI k18_0] h14 Post := by
                      intro k18_0 f18_0
                      exact mx_J.ret (sn_145 142) (fun _ _ => rfl) (hP k18_0 Z14 h14 hx14 hG14 (fr_tr (M := [(42, (-1))]) (fr_tr (M := [(42, (-1))]) fr_rf (hf12) (M1 := []) rfl rfl) (hf14) rfl rfl) (by omega))
                    refine Jicmp_ne (show mx_Sn _ _ 123 (mx_icmp_ne 140 126) from sn_145 123) (by omega) (by omega) (fun q19 => ?_) (fun q19 => ?_)
                    · skip
                      refine JcI (z := (-5)) (show mx_Sn _ _ 140 (mx_const (.int (-5)) 142) from sn_145 140) rfl ?_
                      exact c142 (-5) (by omega)
                    · skip
                      refine mx_J.step (sn_145 126) (fun _ _ => rfl) ?_
                      refine JgetR (g := 5) (b := 7) hx14 (show mx_Sn _ _ 127 (mx_getf 11 5 130) from sn_145 127) a1 s1 rfl rfl (hG14.prr 1 5 rfl) ?_
                      refine mx_J.step (sn_145 130) (fun _ _ => rfl) ?_
                      refine JgetR (g := 15) (b := 42) hx14 (show mx_Sn _ _ 131 (mx_getf 11 15 134) from sn_145 131) a1 s1 rfl rfl (hG14.prr 1 15 rfl) ?_
                      obtain ⟨z20, hc20, b20⟩ := ct_9_7_42 (d := d + 0) (l := l) (D := D) (b0 := b0) (ad := ad) (Hb := Hb) (tau := tau) hx14 hG14  (ab_mono f13_3 (by omega) (by omega) (by omega))
                      refine Jcv hx14 (show mx_Sn _ _ 134 (mx_callv 9 2 0 137) from sn_145 134) a7 s7 hc20 rfl rfl rfl ?_
                      refine mx_J.step (sn_145 137) (fun _ _ => rfl) ?_
                      exact c142 z20 (by omega)
                  · skip
                    refine mx_J.step (sn_145 84) (fun _ _ => rfl) ?_
                    refine mx_J.step (sn_145 85) (fun _ _ => rfl) ?_
                    obtain ⟨z21, hc21, b21⟩ := ct_85_46 (d := d + 1) (l := l) (D := D) (b0 := b0) (ad := ad) (Hb := Hb) (tau := tau) hx14 hG14 (show (-2147483648) ≤ w13_4 ∧ w13_4 ≤ 2147483647 by omega)
                    have eq22 : Z14 47 w13_4 = Z 47 w13_4 := ((hf14 47 w13_4 rfl).trans (hf12 47 w13_4 rfl))
                    refine Jcv hx14 (show mx_Sn _ _ 87 (mx_callv 85 2 10 90) from sn_145 87) a46 s46 hc21 rfl rfl rfl ?_
                    have tw := tz w13_4 (by omega) (by omega)
                    refine Jl2i (show mx_Sn _ _ 90 (mx_l2i 91) from sn_145 90) ?_
                    refine mx_J.step (ls2 := [some (.ref 1), some (xI 1), some (.ref 46), some (xI w13_3), some (xI w13_4), some (xI z21)]) (sn_145 91) (fun _ _ => rfl) ?_
                    refine mx_J.step (sn_145 93) (fun _ _ => rfl) ?_
                    refine JgetR (g := 15) (b := 42) hx14 (show mx_Sn _ _ 94 (mx_getf 11 15 97) from sn_145 94) a1 s1 rfl rfl (hG14.prr 1 15 rfl) ?_
                    refine mx_J.step (sn_145 97) (fun _ _ => rfl) ?_
                    refine mx_J.step (sn_145 99) (fun _ _ => rfl) ?_
                    have b23 : 0 ≤ Z14 42 z21 ∧ Z14 42 z21 ≤ w13_4 := f13_3 z21 (by omega) (by omega)
                    have b24 : (-2147483648) ≤ Z14 42 z21 ∧ Z14 42 z21 ≤ 2147483647 := hG14.pr 42 z21
                    refine JialdI (z := Z14 42 z21) hx14 (show mx_Sn _ _ 100 (mx_iald 101) from sn_145 100) a42 s42 (by omega) rfl ?_
                    refine JcI (z := 1) (show mx_Sn _ _ 101 (mx_const (.int 1) 102) from sn_145 101) rfl ?_
                    refine Jiadd (show mx_Sn _ _ 102 (mx_iadd 103) from sn_145 102) ?_
                    refine JiastI hx14 (show mx_Sn _ _ 103 (mx_iast 1 104) from sn_145 103) a42 s42 rfl (by omega) (fun Z25 h25 hx25 hE25 => ?_)
                    have hG25 := GI_up hG14 hE25 (show (-2147483648) ≤ (Z14 42 z21) + 1 ∧ (Z14 42 z21) + 1 ≤ 2147483647 by omega) trivial rfl
                    have m25 : AB Z25 42 19 0 (w13_4 + 1) := ab_up hE25 f13_3 (by omega) (by omega) (by omega)
                    refine mx_J.step (sn_145 104) (fun _ _ => rfl) ?_
                    refine mx_J.step (sn_145 105) (fun _ _ => rfl) ?_
                    refine Jiadd (show mx_Sn _ _ 107 (mx_iadd 108) from sn_145 107) ?_
                    refine mx_J.step (ls2 := [some (.ref 1), some (xI 1), some (.ref 46), some (xI (w13_3 + z21)), some (xI w13_4), some (xI z21)]) (sn_145 108) (fun _ _ => rfl) ?_
                    refine Jiinc (z := w13_4) (cz := 1) (ls2 := [some (.ref 1), some (xI 1), some (.ref 46), some (xI (w13_3 + z21)), some (xI (w13_4 + 1)), some (xI z21)]) (show mx_Sn _ _ 109 (mx_iinc 4 1 112) from sn_145 109) rfl rfl rfl rfl ?_
                    refine mx_J.step (sn_145 112) (fun _ _ => rfl) ?_
                    exact ih13 (w13_3 + z21) (w13_4 + 1) (some (xI z21)) Z25 h25 (by omega) (by omega) (by omega) (by omega) (ab_mono m25 (by omega) (by omega) (by omega)) hx25 hG25 (fr_tr (M := [(42, (-1))]) (fr_tr (M := [(42, (-1))]) fr_rf (hf14) (M1 := []) rfl rfl) (fr_ua hE25) rfl rfl)
              exact c75 (Int.toNat (18 - 0) + 1) 0 0 none Z12 h12 (by omega) (by omega) (by omega) (by omega) (ab_mono m12_42 (by omega) (by omega) (by omega)) hx12 hG12 fr_rf
            · skip
              refine JcI (z := (-3)) (show mx_Sn _ _ 59 (mx_const (.int (-3)) 61) from sn_145 59) rfl ?_
              exact mx_J.ret (sn_145 61) (fun _ _ => rfl) (hP (-3) Z h hx hG fr_rf (by omega))
          · skip
            exact c45 
      · skip
        refine JcI (z := (-6)) (show mx_Sn _ _ 25 (mx_const (.int (-6)) 27) from sn_145 25) rfl ?_
        exact mx_J.ret (sn_145 27) (fun _ _ => rfl) (hP (-6) Z h hx hG fr_rf (by omega))
    · skip
      exfalso; omega
theorem ct_145_1_i1 {l : Launch} {D : va_G} {b0 : Nat} {ad : Nat → Nat} {Hb : Heap} {tau : Nat → Int64} {d n s : Nat} {S : Nat → xS} {Z : xZ} {h : mx_H} (hx : XH n s S Z h) (hG : GI n S Z)  : ∃ (z : Int) (Z' : xZ) (h' : mx_H), mx_Ca (tB l D b0 ad Hb tau) (d + 3) 145 [.ref 1, xI 1] h (some (xI z), h') ∧ XH n s S Z' h' ∧ GI n S Z' ∧ fr' [(42, (-1))] Z Z' ∧ ((-6) ≤ z ∧ z ≤ 384) := by
  obtain ⟨r, hca, z, Z', h', e, q⟩ := Jmt (B := tB l D b0 ad Hb tau) (M := mt_145) (mi := 145) (as := [.ref 1, xI 1]) (d := d + 2) (ls := [some (.ref 1), some (xI 1), none, none, none, none]) rfl rfl rfl rfl rfl rfl (cw_145_1_i1 (l := l) (D := D) (b0 := b0) (ad := ad) (Hb := Hb) (tau := tau) (d := d) (Post := fun r => ∃ (z : Int) (Z' : xZ) (h' : mx_H), r = (some (xI z), h') ∧ XH n s S Z' h' ∧ GI n S Z' ∧ fr' [(42, (-1))] Z Z' ∧ ((-6) ≤ z ∧ z ≤ 384)) hx hG  (fun z Z' h' q1 q2 q3 q4 => ⟨z, Z', h', rfl, q1, q2, q3, q4⟩))
  subst e; exact ⟨z, Z', h', hca, q⟩
set_option maxRecDepth 100000 in
theorem cw_145_1_i2 {l : Launch} {D : va_G} {b0 : Nat} {ad : Nat → Nat} {Hb : Heap} {tau : Nat → Int64} {d n s : Nat} {S : Nat → xS} {Z : xZ} {h : mx_H} {Post : mx_R → Prop} (hx : XH n s S Z h) (hG : GI n S Z)  (hP : ∀ (z : Int) (Z' : xZ) (h' : mx_H), XH n s S Z' h' → GI n S Z' → fr' [(42, (-1))] Z Z' → (-6) ≤ z ∧ z ≤ 384 → Post (some (xI z), h')) : mx_J (tB l D b0 ad Hb tau) mt_145 (d + 2) 0 [some (.ref 1), some (xI 2), none, none, none, none] [] h Post := by
    have a1 : 1 < n := lt83 hG.1 rfl
    have s1 : S 1 = .inl (11, [2, 0, 0, 0, 2, 2, 2, 2, 2, 2, 2, 2, 2, 2, 2, 2, 2]) := hG.2.1 1 rfl
    have a7 : 7 < n := lt83 hG.1 rfl
    have s7 : S 7 = .inl (0, [2, 2, 2, 2, 0, 0]) := hG.2.1 7 rfl
    have a34 : 34 < n := lt83 hG.1 rfl
    have s34 : S 34 = .inr ((.object "TitheHeap$Tray"), 4, 2) := hG.2.1 34 rfl
    have a36 : 36 < n := lt83 hG.1 rfl
    have s36 : S 36 = .inl (5, [2, 0, 0, 0, 0, 0]) := hG.2.1 36 rfl
    have a42 : 42 < n := lt83 hG.1 rfl
    have s42 : S 42 = .inr (.int, 19, 0) := hG.2.1 42 rfl
    have a48 : 48 < n := lt83 hG.1 rfl
    have s48 : S 48 = .inl (10, [2, 0, 0, 0]) := hG.2.1 48 rfl
    refine mx_J.step (sn_145 0) (fun _ _ => rfl) ?_
    refine mx_J.step (sn_145 1) (fun _ _ => rfl) ?_
    obtain ⟨z1, hc1, b1⟩ := ct_144_1_y (d := d + 1) (l := l) (D := D) (b0 := b0) (ad := ad) (Hb := Hb) (tau := tau) hx hG (show 0 ≤ 2 ∧ 2 ≤ 3 by omega)
    refine Jcv hx (show mx_Sn _ _ 2 (mx_callv 144 2 11 5) from sn_145 2) a1 s1 hc1 rfl rfl rfl ?_
    refine Jif_eq (show mx_Sn _ _ 5 (mx_if_eq 11 8) from sn_145 5) (by omega) (fun q2 => ?_) (fun q2 => ?_)
    · skip
      refine mx_J.step (sn_145 11) (fun _ _ => rfl) ?_
      refine JgetR (g := 10) (b := 34) hx (show mx_Sn _ _ 12 (mx_getf 11 10 15) from sn_145 12) a1 s1 rfl rfl (hG.prr 1 10 rfl) ?_
      refine mx_J.step (sn_145 15) (fun _ _ => rfl) ?_
      refine JaaldR (i := 2) (b := 48) hx (show mx_Sn _ _ 16 (mx_aald 17) from sn_145 16) a34 s34 (by omega) (show Z 34 2 = 48 by have hq := GI_ex hG 34 2; replace hq : ((0 : Int) ≤ 2 → (2 : Int) ≤ 3 → (Z 34 2) = 44 + 2 * 2) := hq; omega) ?_
      refine mx_J.step (ls2 := [some (.ref 1), some (xI 2), some (.ref 48), none, none, none]) (sn_145 17) (fun _ _ => rfl) ?_
      refine mx_J.step (sn_145 18) (fun _ _ => rfl) ?_
      have b3 : 0 ≤ Z 48 3 ∧ Z 48 3 ≤ 1 := hG.pr 48 3
      refine JgetI (g := 3) (z := Z 48 3) hx (show mx_Sn _ _ 19 (mx_getf 10 3 22) from sn_145 19) a48 s48 rfl rfl rfl ?_
      refine Jif_eq (show mx_Sn _ _ 22 (mx_if_eq 28 25) from sn_145 22) (by omega) (fun q4 => ?_) (fun q4 => ?_)
      · skip
        refine mx_J.step (sn_145 28) (fun _ _ => rfl) ?_
        have b5 : 0 ≤ Z 48 2 ∧ Z 48 2 ≤ 40 := hG.pr 48 2
        refine JgetI (g := 2) (z := Z 48 2) hx (show mx_Sn _ _ 29 (mx_getf 10 2 32) from sn_145 29) a48 s48 rfl rfl rfl ?_
        refine JcI (z := 1) (show mx_Sn _ _ 32 (mx_const (.int 1) 33) from sn_145 32) rfl ?_
        have c45 : mx_J (tB l D b0 ad Hb tau) mt_145 (d + 2) 45 [some (.ref 1), some (xI 2), some (.ref 48), none, none, none] [] h Post := by
          refine JcI (z := (-4)) (show mx_Sn _ _ 45 (mx_const (.int (-4)) 47) from sn_145 45) rfl ?_
          exact mx_J.ret (sn_145 47) (fun _ _ => rfl) (hP (-4) Z h hx hG fr_rf (by omega))
        refine Jicmp_lt (show mx_Sn _ _ 33 (mx_icmp_lt 45 36) from sn_145 33) (by omega) (by omega) (fun q7 => ?_) (fun q7 => ?_)
        · skip
          exact c45 
        · skip
          refine mx_J.step (sn_145 36) (fun _ _ => rfl) ?_
          have b8 : 0 ≤ Z 48 2 ∧ Z 48 2 ≤ 40 := hG.pr 48 2
          refine JgetI (g := 2) (z := Z 48 2) hx (show mx_Sn _ _ 37 (mx_getf 10 2 40) from sn_145 37) a48 s48 rfl rfl rfl ?_
          refine JcI (z := 18) (show mx_Sn _ _ 40 (mx_const (.int 18) 42) from sn_145 40) rfl ?_
          refine Jicmp_le (show mx_Sn _ _ 42 (mx_icmp_le 48 45) from sn_145 42) (by omega) (by omega) (fun q9 => ?_) (fun q9 => ?_)
          · skip
            refine mx_J.step (sn_145 48) (fun _ _ => rfl) ?_
            refine JcL (z := 1) (show mx_Sn _ _ 49 (mx_const (.long 1) 50) from sn_145 49) rfl ?_
            refine JcL (z := 18) (show mx_Sn _ _ 50 (mx_const (.long 18) 53) from sn_145 50) rfl ?_
            obtain ⟨z10, hc10, b10⟩ := ct_86_48 (d := d + 1) (l := l) (D := D) (b0 := b0) (ad := ad) (Hb := Hb) (tau := tau) hx hG (show (-9223372036854775808) ≤ 1 ∧ 1 ≤ 9223372036854775807 by omega) (show (-9223372036854775808) ≤ 18 ∧ 18 ≤ 9223372036854775807 by omega)
            refine Jcv hx (show mx_Sn _ _ 53 (mx_callv 86 3 10 56) from sn_145 53) a48 s48 hc10 rfl rfl rfl ?_
            refine Jif_ne (show mx_Sn _ _ 56 (mx_if_ne 62 59) from sn_145 56) (by omega) (fun q11 => ?_) (fun q11 => ?_)
            · skip
              have tz := b10.2.2 (by omega)
              refine JcI (z := 0) (show mx_Sn _ _ 62 (mx_const (.int 0) 63) from sn_145 62) rfl ?_
              refine mx_J.step (ls2 := [some (.ref 1), some (xI 2), some (.ref 48), some (xI 0), none, none]) (sn_145 63) (fun _ _ => rfl) ?_
              refine mx_J.step (sn_145 64) (fun _ _ => rfl) ?_
              refine JgetR (g := 15) (b := 42) hx (show mx_Sn _ _ 65 (mx_getf 11 15 68) from sn_145 65) a1 s1 rfl rfl (hG.prr 1 15 rfl) ?_
              refine JcI (z := 0) (show mx_Sn _ _ 68 (mx_const (.int 0) 69) from sn_145 68) rfl ?_
              obtain ⟨Z12, h12, hc12, hx12, hG12, hf12, m12_42⟩ := ct_284_42_i0 (d := d + 1) (l := l) (D := D) (b0 := b0) (ad := ad) (Hb := Hb) (tau := tau) hx hG 
              refine Jcs0 (show mx_Sn _ _ 69 (mx_calls 284 2 72) from sn_145 69) hc12 rfl rfl rfl ?_
              refine JcI (z := 0) (show mx_Sn _ _ 72 (mx_const (.int 0) 73) from sn_145 72) rfl ?_
              refine mx_J.step (ls2 := [some (.ref 1), some (xI 2), some (.ref 48), some (xI 0), some (xI 0), none]) (sn_145 73) (fun _ _ => rfl) ?_
              have c75 : ∀ (m13 : Nat) (w13_3 : Int) (w13_4 : Int) (u13_5 : Option Value) (Z14 : xZ) (h14 : mx_H), 18 - w13_4 < (m13 : Int) → 0 ≤ w13_3 ∧ w13_3 ≤ 324 → 0 ≤ w13_4 ∧ w13_4 ≤ 18 → w13_3 ≤ 18 * w13_4 → AB Z14 42 (19) (0) (w13_4) → XH n s S Z14 h14 → GI n S Z14 → fr' [(42, (-1))] Z12 Z14 → mx_J (tB l D b0 ad Hb tau) mt_145 (d + 2) 75 [some (.ref 1), some (xI 2), some (.ref 48), some (xI w13_3), some (xI w13_4), u13_5] [] h14 Post := by
                intro m13
                induction m13 with
                | zero => intro w13_3 w13_4 u13_5 Z14 h14 q13 f13_0 f13_1 f13_2 f13_3 hx14 hG14 hf14; exact absurd q13 (by omega)
                | succ m13 ih13 =>
                  intro w13_3 w13_4 u13_5 Z14 h14 q13 f13_0 f13_1 f13_2 f13_3 hx14 hG14 hf14
                  refine mx_J.step (sn_145 75) (fun _ _ => rfl) ?_
                  refine mx_J.step (sn_145 77) (fun _ _ => rfl) ?_
                  have b15 : 0 ≤ Z 48 2 ∧ Z 48 2 ≤ 40 := hG.pr 48 2
                  refine JgetI (g := 2) (z := Z 48 2) hx14 (show mx_Sn _ _ 78 (mx_getf 10 2 81) from sn_145 78) a48 s48 rfl rfl ((hf14 48 2 rfl).trans (hf12 48 2 rfl)) ?_
                  refine Jicmp_ge (show mx_Sn _ _ 81 (mx_icmp_ge 115 84) from sn_145 81) (by omega) (by omega) (fun q16 => ?_) (fun q16 => ?_)
                  · skip
                    refine mx_J.step (sn_145 115) (fun _ _ => rfl) ?_
                    refine mx_J.step (sn_145 116) (fun _ _ => rfl) ?_
                    refine JgetR (g := 12) (b := 36) hx14 (show mx_Sn _ _ 117 (mx_getf 11 12 120) from sn_145 117) a1 s1 rfl rfl (hG14.prr 1 12 rfl) ?_
                    have b17 : 1 ≤ Z 36 1 ∧ Z 36 1 ≤ 18 := hG.pr 36 1
                    refine JgetI (g := 1) (z := Z 36 1) hx14 (show mx_Sn _ _ 120 (mx_getf 5 1 123) from sn_145 120) a36 s36 rfl rfl ((hf14 36 1 rfl).trans (hf12 36 1 rfl)) ?_
                    have c142 : ∀ (k18_0 : Int), (-5) ≤ k18_0 ∧ k18_0 ≤ 384 → mx_J (tB l D b0 ad Hb tau) mt_145 (d + 2) 142 [some (.ref 1), some (xI 2), some (.ref 48), some (xI w13_3), some (xI w13_4), u13_5] [xI k18_0] h14 Post := by
                      intro k18_0 f18_0
                      exact mx_J.ret (sn_145 142) (fun _ _ => rfl) (hP k18_0 Z14 h14 hx14 hG14 (fr_tr (M := [(42, (-1))]) (fr_tr (M := [(42, (-1))]) fr_rf (hf12) (M1 := []) rfl rfl) (hf14) rfl rfl) (by omega))
                    refine Jicmp_ne (show mx_Sn _ _ 123 (mx_icmp_ne 140 126) from sn_145 123) (by omega) (by omega) (fun q19 => ?_) (fun q19 => ?_)
                    · skip
                      refine JcI (z := (-5)) (show mx_Sn _ _ 140 (mx_const (.int (-5)) 142) from sn_145 140) rfl ?_
                      exact c142 (-5) (by omega)
                    · skip
                      refine mx_J.step (sn_145 126) (fun _ _ => rfl) ?_
                      refine JgetR (g := 5) (b := 7) hx14 (show mx_Sn _ _ 127 (mx_getf 11 5 130) from sn_145 127) a1 s1 rfl rfl (hG14.prr 1 5 rfl) ?_
                      refine mx_J.step (sn_145 130) (fun _ _ => rfl) ?_
                      refine JgetR (g := 15) (b := 42) hx14 (show mx_Sn _ _ 131 (mx_getf 11 15 134) from sn_145 131) a1 s1 rfl rfl (hG14.prr 1 15 rfl) ?_
                      obtain ⟨z20, hc20, b20⟩ := ct_9_7_42 (d := d + 0) (l := l) (D := D) (b0 := b0) (ad := ad) (Hb := Hb) (tau := tau) hx14 hG14  (ab_mono f13_3 (by omega) (by omega) (by omega))
                      refine Jcv hx14 (show mx_Sn _ _ 134 (mx_callv 9 2 0 137) from sn_145 134) a7 s7 hc20 rfl rfl rfl ?_
                      refine mx_J.step (sn_145 137) (fun _ _ => rfl) ?_
                      exact c142 z20 (by omega)
                  · skip
                    refine mx_J.step (sn_145 84) (fun _ _ => rfl) ?_
                    refine mx_J.step (sn_145 85) (fun _ _ => rfl) ?_
                    obtain ⟨z21, hc21, b21⟩ := ct_85_48 (d := d + 1) (l := l) (D := D) (b0 := b0) (ad := ad) (Hb := Hb) (tau := tau) hx14 hG14 (show (-2147483648) ≤ w13_4 ∧ w13_4 ≤ 2147483647 by omega)
                    have eq22 : Z14 49 w13_4 = Z 49 w13_4 := ((hf14 49 w13_4 rfl).trans (hf12 49 w13_4 rfl))
                    refine Jcv hx14 (show mx_Sn _ _ 87 (mx_callv 85 2 10 90) from sn_145 87) a48 s48 hc21 rfl rfl rfl ?_
                    have tw := tz w13_4 (by omega) (by omega)
                    refine Jl2i (show mx_Sn _ _ 90 (mx_l2i 91) from sn_145 90) ?_
                    refine mx_J.step (ls2 := [some (.ref 1), some (xI 2), some (.ref 48), some (xI w13_3), some (xI w13_4), some (xI z21)]) (sn_145 91) (fun _ _ => rfl) ?_
                    refine mx_J.step (sn_145 93) (fun _ _ => rfl) ?_
                    refine JgetR (g := 15) (b := 42) hx14 (show mx_Sn _ _ 94 (mx_getf 11 15 97) from sn_145 94) a1 s1 rfl rfl (hG14.prr 1 15 rfl) ?_
                    refine mx_J.step (sn_145 97) (fun _ _ => rfl) ?_
                    refine mx_J.step (sn_145 99) (fun _ _ => rfl) ?_
                    have b23 : 0 ≤ Z14 42 z21 ∧ Z14 42 z21 ≤ w13_4 := f13_3 z21 (by omega) (by omega)
                    have b24 : (-2147483648) ≤ Z14 42 z21 ∧ Z14 42 z21 ≤ 2147483647 := hG14.pr 42 z21
                    refine JialdI (z := Z14 42 z21) hx14 (show mx_Sn _ _ 100 (mx_iald 101) from sn_145 100) a42 s42 (by omega) rfl ?_
                    refine JcI (z := 1) (show mx_Sn _ _ 101 (mx_const (.int 1) 102) from sn_145 101) rfl ?_
                    refine Jiadd (show mx_Sn _ _ 102 (mx_iadd 103) from sn_145 102) ?_
                    refine JiastI hx14 (show mx_Sn _ _ 103 (mx_iast 1 104) from sn_145 103) a42 s42 rfl (by omega) (fun Z25 h25 hx25 hE25 => ?_)
                    have hG25 := GI_up hG14 hE25 (show (-2147483648) ≤ (Z14 42 z21) + 1 ∧ (Z14 42 z21) + 1 ≤ 2147483647 by omega) trivial rfl
                    have m25 : AB Z25 42 19 0 (w13_4 + 1) := ab_up hE25 f13_3 (by omega) (by omega) (by omega)
                    refine mx_J.step (sn_145 104) (fun _ _ => rfl) ?_
                    refine mx_J.step (sn_145 105) (fun _ _ => rfl) ?_
                    refine Jiadd (show mx_Sn _ _ 107 (mx_iadd 108) from sn_145 107) ?_
                    refine mx_J.step (ls2 := [some (.ref 1), some (xI 2), some (.ref 48), some (xI (w13_3 + z21)), some (xI w13_4), some (xI z21)]) (sn_145 108) (fun _ _ => rfl) ?_
                    refine Jiinc (z := w13_4) (cz := 1) (ls2 := [some (.ref 1), some (xI 2), some (.ref 48), some (xI (w13_3 + z21)), some (xI (w13_4 + 1)), some (xI z21)]) (show mx_Sn _ _ 109 (mx_iinc 4 1 112) from sn_145 109) rfl rfl rfl rfl ?_
                    refine mx_J.step (sn_145 112) (fun _ _ => rfl) ?_
                    exact ih13 (w13_3 + z21) (w13_4 + 1) (some (xI z21)) Z25 h25 (by omega) (by omega) (by omega) (by omega) (ab_mono m25 (by omega) (by omega) (by omega)) hx25 hG25 (fr_tr (M := [(42, (-1))]) (fr_tr (M := [(42, (-1))]) fr_rf (hf14) (M1 := []) rfl rfl) (fr_ua hE25) rfl rfl)
              exact c75 (Int.toNat (18 - 0) + 1) 0 0 none Z12 h12 (by omega) (by omega) (by omega) (by omega) (ab_mono m12_42 (by omega) (by omega) (by omega)) hx12 hG12 fr_rf
            · skip
              refine JcI (z := (-3)) (show mx_Sn _ _ 59 (mx_const (.int (-3)) 61) from sn_145 59) rfl ?_
              exact mx_J.ret (sn_145 61) (fun _ _ => rfl) (hP (-3) Z h hx hG fr_rf (by omega))
          · skip
            exact c45 
      · skip
        refine JcI (z := (-6)) (show mx_Sn _ _ 25 (mx_const (.int (-6)) 27) from sn_145 25) rfl ?_
        exact mx_J.ret (sn_145 27) (fun _ _ => rfl) (hP (-6) Z h hx hG fr_rf (by omega))
    · skip
      exfalso; omega
theorem ct_145_1_i2 {l : Launch} {D : va_G} {b0 : Nat} {ad : Nat → Nat} {Hb : Heap} {tau : Nat → Int64} {d n s : Nat} {S : Nat → xS} {Z : xZ} {h : mx_H} (hx : XH n s S Z h) (hG : GI n S Z)  : ∃ (z : Int) (Z' : xZ) (h' : mx_H), mx_Ca (tB l D b0 ad Hb tau) (d + 3) 145 [.ref 1, xI 2] h (some (xI z), h') ∧ XH n s S Z' h' ∧ GI n S Z' ∧ fr' [(42, (-1))] Z Z' ∧ ((-6) ≤ z ∧ z ≤ 384) := by
  obtain ⟨r, hca, z, Z', h', e, q⟩ := Jmt (B := tB l D b0 ad Hb tau) (M := mt_145) (mi := 145) (as := [.ref 1, xI 2]) (d := d + 2) (ls := [some (.ref 1), some (xI 2), none, none, none, none]) rfl rfl rfl rfl rfl rfl (cw_145_1_i2 (l := l) (D := D) (b0 := b0) (ad := ad) (Hb := Hb) (tau := tau) (d := d) (Post := fun r => ∃ (z : Int) (Z' : xZ) (h' : mx_H), r = (some (xI z), h') ∧ XH n s S Z' h' ∧ GI n S Z' ∧ fr' [(42, (-1))] Z Z' ∧ ((-6) ≤ z ∧ z ≤ 384)) hx hG  (fun z Z' h' q1 q2 q3 q4 => ⟨z, Z', h', rfl, q1, q2, q3, q4⟩))
  subst e; exact ⟨z, Z', h', hca, q⟩
set_option maxRecDepth 100000 in
theorem cw_145_1_i3 {l : Launch} {D : va_G} {b0 : Nat} {ad : Nat → Nat} {Hb : Heap} {tau : Nat → Int64} {d n s : Nat} {S : Nat → xS} {Z : xZ} {h : mx_H} {Post : mx_R → Prop} (hx : XH n s S Z h) (hG : GI n S Z)  (hP : ∀ (z : Int) (Z' : xZ) (h' : mx_H), XH n s S Z' h' → GI n S Z' → fr' [(42, (-1))] Z Z' → (-6) ≤ z ∧ z ≤ 384 → Post (some (xI z), h')) : mx_J (tB l D b0 ad Hb tau) mt_145 (d + 2) 0 [some (.ref 1), some (xI 3), none, none, none, none] [] h Post := by
    have a1 : 1 < n := lt83 hG.1 rfl
    have s1 : S 1 = .inl (11, [2, 0, 0, 0, 2, 2, 2, 2, 2, 2, 2, 2, 2, 2, 2, 2, 2]) := hG.2.1 1 rfl
    have a7 : 7 < n := lt83 hG.1 rfl
    have s7 : S 7 = .inl (0, [2, 2, 2, 2, 0, 0]) := hG.2.1 7 rfl
    have a34 : 34 < n := lt83 hG.1 rfl
    have s34 : S 34 = .inr ((.object "TitheHeap$Tray"), 4, 2) := hG.2.1 34 rfl
    have a36 : 36 < n := lt83 hG.1 rfl
    have s36 : S 36 = .inl (5, [2, 0, 0, 0, 0, 0]) := hG.2.1 36 rfl
    have a42 : 42 < n := lt83 hG.1 rfl
    have s42 : S 42 = .inr (.int, 19, 0) := hG.2.1 42 rfl
    have a50 : 50 < n := lt83 hG.1 rfl
    have s50 : S 50 = .inl (10, [2, 0, 0, 0]) := hG.2.1 50 rfl
    refine mx_J.step (sn_145 0) (fun _ _ => rfl) ?_
    refine mx_J.step (sn_145 1) (fun _ _ => rfl) ?_
    obtain ⟨z1, hc1, b1⟩ := ct_144_1_y (d := d + 1) (l := l) (D := D) (b0 := b0) (ad := ad) (Hb := Hb) (tau := tau) hx hG (show 0 ≤ 3 ∧ 3 ≤ 3 by omega)
    refine Jcv hx (show mx_Sn _ _ 2 (mx_callv 144 2 11 5) from sn_145 2) a1 s1 hc1 rfl rfl rfl ?_
    refine Jif_eq (show mx_Sn _ _ 5 (mx_if_eq 11 8) from sn_145 5) (by omega) (fun q2 => ?_) (fun q2 => ?_)
    · skip
      refine mx_J.step (sn_145 11) (fun _ _ => rfl) ?_
      refine JgetR (g := 10) (b := 34) hx (show mx_Sn _ _ 12 (mx_getf 11 10 15) from sn_145 12) a1 s1 rfl rfl (hG.prr 1 10 rfl) ?_
      refine mx_J.step (sn_145 15) (fun _ _ => rfl) ?_
      refine JaaldR (i := 3) (b := 50) hx (show mx_Sn _ _ 16 (mx_aald 17) from sn_145 16) a34 s34 (by omega) (show Z 34 3 = 50 by have hq := GI_ex hG 34 3; replace hq : ((0 : Int) ≤ 3 → (3 : Int) ≤ 3 → (Z 34 3) = 44 + 2 * 3) := hq; omega) ?_
      refine mx_J.step (ls2 := [some (.ref 1), some (xI 3), some (.ref 50), none, none, none]) (sn_145 17) (fun _ _ => rfl) ?_
      refine mx_J.step (sn_145 18) (fun _ _ => rfl) ?_
      have b3 : 0 ≤ Z 50 3 ∧ Z 50 3 ≤ 1 := hG.pr 50 3
      refine JgetI (g := 3) (z := Z 50 3) hx (show mx_Sn _ _ 19 (mx_getf 10 3 22) from sn_145 19) a50 s50 rfl rfl rfl ?_
      refine Jif_eq (show mx_Sn _ _ 22 (mx_if_eq 28 25) from sn_145 22) (by omega) (fun q4 => ?_) (fun q4 => ?_)
      · skip
        refine mx_J.step (sn_145 28) (fun _ _ => rfl) ?_
        have b5 : 0 ≤ Z 50 2 ∧ Z 50 2 ≤ 40 := hG.pr 50 2
        refine JgetI (g := 2) (z := Z 50 2) hx (show mx_Sn _ _ 29 (mx_getf 10 2 32) from sn_145 29) a50 s50 rfl rfl rfl ?_
        refine JcI (z := 1) (show mx_Sn _ _ 32 (mx_const (.int 1) 33) from sn_145 32) rfl ?_
        have c45 : mx_J (tB l D b0 ad Hb tau) mt_145 (d + 2) 45 [some (.ref 1), some (xI 3), some (.ref 50), none, none, none] [] h Post := by
          refine JcI (z := (-4)) (show mx_Sn _ _ 45 (mx_const (.int (-4)) 47) from sn_145 45) rfl ?_
          exact mx_J.ret (sn_145 47) (fun _ _ => rfl) (hP (-4) Z h hx hG fr_rf (by omega))
        refine Jicmp_lt (show mx_Sn _ _ 33 (mx_icmp_lt 45 36) from sn_145 33) (by omega) (by omega) (fun q7 => ?_) (fun q7 => ?_)
        · skip
          exact c45 
        · skip
          refine mx_J.step (sn_145 36) (fun _ _ => rfl) ?_
          have b8 : 0 ≤ Z 50 2 ∧ Z 50 2 ≤ 40 := hG.pr 50 2
          refine JgetI (g := 2) (z := Z 50 2) hx (show mx_Sn _ _ 37 (mx_getf 10 2 40) from sn_145 37) a50 s50 rfl rfl rfl ?_
          refine JcI (z := 18) (show mx_Sn _ _ 40 (mx_const (.int 18) 42) from sn_145 40) rfl ?_
          refine Jicmp_le (show mx_Sn _ _ 42 (mx_icmp_le 48 45) from sn_145 42) (by omega) (by omega) (fun q9 => ?_) (fun q9 => ?_)
          · skip
            refine mx_J.step (sn_145 48) (fun _ _ => rfl) ?_
            refine JcL (z := 1) (show mx_Sn _ _ 49 (mx_const (.long 1) 50) from sn_145 49) rfl ?_
            refine JcL (z := 18) (show mx_Sn _ _ 50 (mx_const (.long 18) 53) from sn_145 50) rfl ?_
            obtain ⟨z10, hc10, b10⟩ := ct_86_50 (d := d + 1) (l := l) (D := D) (b0 := b0) (ad := ad) (Hb := Hb) (tau := tau) hx hG (show (-9223372036854775808) ≤ 1 ∧ 1 ≤ 9223372036854775807 by omega) (show (-9223372036854775808) ≤ 18 ∧ 18 ≤ 9223372036854775807 by omega)
            refine Jcv hx (show mx_Sn _ _ 53 (mx_callv 86 3 10 56) from sn_145 53) a50 s50 hc10 rfl rfl rfl ?_
            refine Jif_ne (show mx_Sn _ _ 56 (mx_if_ne 62 59) from sn_145 56) (by omega) (fun q11 => ?_) (fun q11 => ?_)
            · skip
              have tz := b10.2.2 (by omega)
              refine JcI (z := 0) (show mx_Sn _ _ 62 (mx_const (.int 0) 63) from sn_145 62) rfl ?_
              refine mx_J.step (ls2 := [some (.ref 1), some (xI 3), some (.ref 50), some (xI 0), none, none]) (sn_145 63) (fun _ _ => rfl) ?_
              refine mx_J.step (sn_145 64) (fun _ _ => rfl) ?_
              refine JgetR (g := 15) (b := 42) hx (show mx_Sn _ _ 65 (mx_getf 11 15 68) from sn_145 65) a1 s1 rfl rfl (hG.prr 1 15 rfl) ?_
              refine JcI (z := 0) (show mx_Sn _ _ 68 (mx_const (.int 0) 69) from sn_145 68) rfl ?_
              obtain ⟨Z12, h12, hc12, hx12, hG12, hf12, m12_42⟩ := ct_284_42_i0 (d := d + 1) (l := l) (D := D) (b0 := b0) (ad := ad) (Hb := Hb) (tau := tau) hx hG 
              refine Jcs0 (show mx_Sn _ _ 69 (mx_calls 284 2 72) from sn_145 69) hc12 rfl rfl rfl ?_
              refine JcI (z := 0) (show mx_Sn _ _ 72 (mx_const (.int 0) 73) from sn_145 72) rfl ?_
              refine mx_J.step (ls2 := [some (.ref 1), some (xI 3), some (.ref 50), some (xI 0), some (xI 0), none]) (sn_145 73) (fun _ _ => rfl) ?_
              have c75 : ∀ (m13 : Nat) (w13_3 : Int) (w13_4 : Int) (u13_5 : Option Value) (Z14 : xZ) (h14 : mx_H), 18 - w13_4 < (m13 : Int) → 0 ≤ w13_3 ∧ w13_3 ≤ 324 → 0 ≤ w13_4 ∧ w13_4 ≤ 18 → w13_3 ≤ 18 * w13_4 → AB Z14 42 (19) (0) (w13_4) → XH n s S Z14 h14 → GI n S Z14 → fr' [(42, (-1))] Z12 Z14 → mx_J (tB l D b0 ad Hb tau) mt_145 (d + 2) 75 [some (.ref 1), some (xI 3), some (.ref 50), some (xI w13_3), some (xI w13_4), u13_5] [] h14 Post := by
                intro m13
                induction m13 with
                | zero => intro w13_3 w13_4 u13_5 Z14 h14 q13 f13_0 f13_1 f13_2 f13_3 hx14 hG14 hf14; exact absurd q13 (by omega)
                | succ m13 ih13 =>
                  intro w13_3 w13_4 u13_5 Z14 h14 q13 f13_0 f13_1 f13_2 f13_3 hx14 hG14 hf14
                  refine mx_J.step (sn_145 75) (fun _ _ => rfl) ?_
                  refine mx_J.step (sn_145 77) (fun _ _ => rfl) ?_
                  have b15 : 0 ≤ Z 50 2 ∧ Z 50 2 ≤ 40 := hG.pr 50 2
                  refine JgetI (g := 2) (z := Z 50 2) hx14 (show mx_Sn _ _ 78 (mx_getf 10 2 81) from sn_145 78) a50 s50 rfl rfl ((hf14 50 2 rfl).trans (hf12 50 2 rfl)) ?_
                  refine Jicmp_ge (show mx_Sn _ _ 81 (mx_icmp_ge 115 84) from sn_145 81) (by omega) (by omega) (fun q16 => ?_) (fun q16 => ?_)
                  · skip
                    refine mx_J.step (sn_145 115) (fun _ _ => rfl) ?_
                    refine mx_J.step (sn_145 116) (fun _ _ => rfl) ?_
                    refine JgetR (g := 12) (b := 36) hx14 (show mx_Sn _ _ 117 (mx_getf 11 12 120) from sn_145 117) a1 s1 rfl rfl (hG14.prr 1 12 rfl) ?_
                    have b17 : 1 ≤ Z 36 1 ∧ Z 36 1 ≤ 18 := hG.pr 36 1
                    refine JgetI (g := 1) (z := Z 36 1) hx14 (show mx_Sn _ _ 120 (mx_getf 5 1 123) from sn_145 120) a36 s36 rfl rfl ((hf14 36 1 rfl).trans (hf12 36 1 rfl)) ?_
                    have c142 : ∀ (k18_0 : Int), (-5) ≤ k18_0 ∧ k18_0 ≤ 384 → mx_J (tB l D b0 ad Hb tau) mt_145 (d + 2) 142 [some (.ref 1), some (xI 3), some (.ref 50), some (xI w13_3), some (xI w13_4), u13_5] [xI k18_0] h14 Post := by
                      intro k18_0 f18_0
                      exact mx_J.ret (sn_145 142) (fun _ _ => rfl) (hP k18_0 Z14 h14 hx14 hG14 (fr_tr (M := [(42, (-1))]) (fr_tr (M := [(42, (-1))]) fr_rf (hf12) (M1 := []) rfl rfl) (hf14) rfl rfl) (by omega))
                    refine Jicmp_ne (show mx_Sn _ _ 123 (mx_icmp_ne 140 126) from sn_145 123) (by omega) (by omega) (fun q19 => ?_) (fun q19 => ?_)
                    · skip
                      refine JcI (z := (-5)) (show mx_Sn _ _ 140 (mx_const (.int (-5)) 142) from sn_145 140) rfl ?_
                      exact c142 (-5) (by omega)
                    · skip
                      refine mx_J.step (sn_145 126) (fun _ _ => rfl) ?_
                      refine JgetR (g := 5) (b := 7) hx14 (show mx_Sn _ _ 127 (mx_getf 11 5 130) from sn_145 127) a1 s1 rfl rfl (hG14.prr 1 5 rfl) ?_
                      refine mx_J.step (sn_145 130) (fun _ _ => rfl) ?_
                      refine JgetR (g := 15) (b := 42) hx14 (show mx_Sn _ _ 131 (mx_getf 11 15 134) from sn_145 131) a1 s1 rfl rfl (hG14.prr 1 15 rfl) ?_
                      obtain ⟨z20, hc20, b20⟩ := ct_9_7_42 (d := d + 0) (l := l) (D := D) (b0 := b0) (ad := ad) (Hb := Hb) (tau := tau) hx14 hG14  (ab_mono f13_3 (by omega) (by omega) (by omega))
                      refine Jcv hx14 (show mx_Sn _ _ 134 (mx_callv 9 2 0 137) from sn_145 134) a7 s7 hc20 rfl rfl rfl ?_
                      refine mx_J.step (sn_145 137) (fun _ _ => rfl) ?_
                      exact c142 z20 (by omega)
                  · skip
                    refine mx_J.step (sn_145 84) (fun _ _ => rfl) ?_
                    refine mx_J.step (sn_145 85) (fun _ _ => rfl) ?_
                    obtain ⟨z21, hc21, b21⟩ := ct_85_50 (d := d + 1) (l := l) (D := D) (b0 := b0) (ad := ad) (Hb := Hb) (tau := tau) hx14 hG14 (show (-2147483648) ≤ w13_4 ∧ w13_4 ≤ 2147483647 by omega)
                    have eq22 : Z14 51 w13_4 = Z 51 w13_4 := ((hf14 51 w13_4 rfl).trans (hf12 51 w13_4 rfl))
                    refine Jcv hx14 (show mx_Sn _ _ 87 (mx_callv 85 2 10 90) from sn_145 87) a50 s50 hc21 rfl rfl rfl ?_
                    have tw := tz w13_4 (by omega) (by omega)
                    refine Jl2i (show mx_Sn _ _ 90 (mx_l2i 91) from sn_145 90) ?_
                    refine mx_J.step (ls2 := [some (.ref 1), some (xI 3), some (.ref 50), some (xI w13_3), some (xI w13_4), some (xI z21)]) (sn_145 91) (fun _ _ => rfl) ?_
                    refine mx_J.step (sn_145 93) (fun _ _ => rfl) ?_
                    refine JgetR (g := 15) (b := 42) hx14 (show mx_Sn _ _ 94 (mx_getf 11 15 97) from sn_145 94) a1 s1 rfl rfl (hG14.prr 1 15 rfl) ?_
                    refine mx_J.step (sn_145 97) (fun _ _ => rfl) ?_
                    refine mx_J.step (sn_145 99) (fun _ _ => rfl) ?_
                    have b23 : 0 ≤ Z14 42 z21 ∧ Z14 42 z21 ≤ w13_4 := f13_3 z21 (by omega) (by omega)
                    have b24 : (-2147483648) ≤ Z14 42 z21 ∧ Z14 42 z21 ≤ 2147483647 := hG14.pr 42 z21
                    refine JialdI (z := Z14 42 z21) hx14 (show mx_Sn _ _ 100 (mx_iald 101) from sn_145 100) a42 s42 (by omega) rfl ?_
                    refine JcI (z := 1) (show mx_Sn _ _ 101 (mx_const (.int 1) 102) from sn_145 101) rfl ?_
                    refine Jiadd (show mx_Sn _ _ 102 (mx_iadd 103) from sn_145 102) ?_
                    refine JiastI hx14 (show mx_Sn _ _ 103 (mx_iast 1 104) from sn_145 103) a42 s42 rfl (by omega) (fun Z25 h25 hx25 hE25 => ?_)
                    have hG25 := GI_up hG14 hE25 (show (-2147483648) ≤ (Z14 42 z21) + 1 ∧ (Z14 42 z21) + 1 ≤ 2147483647 by omega) trivial rfl
                    have m25 : AB Z25 42 19 0 (w13_4 + 1) := ab_up hE25 f13_3 (by omega) (by omega) (by omega)
                    refine mx_J.step (sn_145 104) (fun _ _ => rfl) ?_
                    refine mx_J.step (sn_145 105) (fun _ _ => rfl) ?_
                    refine Jiadd (show mx_Sn _ _ 107 (mx_iadd 108) from sn_145 107) ?_
                    refine mx_J.step (ls2 := [some (.ref 1), some (xI 3), some (.ref 50), some (xI (w13_3 + z21)), some (xI w13_4), some (xI z21)]) (sn_145 108) (fun _ _ => rfl) ?_
                    refine Jiinc (z := w13_4) (cz := 1) (ls2 := [some (.ref 1), some (xI 3), some (.ref 50), some (xI (w13_3 + z21)), some (xI (w13_4 + 1)), some (xI z21)]) (show mx_Sn _ _ 109 (mx_iinc 4 1 112) from sn_145 109) rfl rfl rfl rfl ?_
                    refine mx_J.step (sn_145 112) (fun _ _ => rfl) ?_
                    exact ih13 (w13_3 + z21) (w13_4 + 1) (some (xI z21)) Z25 h25 (by omega) (by omega) (by omega) (by omega) (ab_mono m25 (by omega) (by omega) (by omega)) hx25 hG25 (fr_tr (M := [(42, (-1))]) (fr_tr (M := [(42, (-1))]) fr_rf (hf14) (M1 := []) rfl rfl) (fr_ua hE25) rfl rfl)
              exact c75 (Int.toNat (18 - 0) + 1) 0 0 none Z12 h12 (by omega) (by omega) (by omega) (by omega) (ab_mono m12_42 (by omega) (by omega) (by omega)) hx12 hG12 fr_rf
            · skip
              refine JcI (z := (-3)) (show mx_Sn _ _ 59 (mx_const (.int (-3)) 61) from sn_145 59) rfl ?_
              exact mx_J.ret (sn_145 61) (fun _ _ => rfl) (hP (-3) Z h hx hG fr_rf (by omega))
          · skip
            exact c45 
      · skip
        refine JcI (z := (-6)) (show mx_Sn _ _ 25 (mx_const (.int (-6)) 27) from sn_145 25) rfl ?_
        exact mx_J.ret (sn_145 27) (fun _ _ => rfl) (hP (-6) Z h hx hG fr_rf (by omega))
    · skip
      exfalso; omega
theorem ct_145_1_i3 {l : Launch} {D : va_G} {b0 : Nat} {ad : Nat → Nat} {Hb : Heap} {tau : Nat → Int64} {d n s : Nat} {S : Nat → xS} {Z : xZ} {h : mx_H} (hx : XH n s S Z h) (hG : GI n S Z)  : ∃ (z : Int) (Z' : xZ) (h' : mx_H), mx_Ca (tB l D b0 ad Hb tau) (d + 3) 145 [.ref 1, xI 3] h (some (xI z), h') ∧ XH n s S Z' h' ∧ GI n S Z' ∧ fr' [(42, (-1))] Z Z' ∧ ((-6) ≤ z ∧ z ≤ 384) := by
  obtain ⟨r, hca, z, Z', h', e, q⟩ := Jmt (B := tB l D b0 ad Hb tau) (M := mt_145) (mi := 145) (as := [.ref 1, xI 3]) (d := d + 2) (ls := [some (.ref 1), some (xI 3), none, none, none, none]) rfl rfl rfl rfl rfl rfl (cw_145_1_i3 (l := l) (D := D) (b0 := b0) (ad := ad) (Hb := Hb) (tau := tau) (d := d) (Post := fun r => ∃ (z : Int) (Z' : xZ) (h' : mx_H), r = (some (xI z), h') ∧ XH n s S Z' h' ∧ GI n S Z' ∧ fr' [(42, (-1))] Z Z' ∧ ((-6) ≤ z ∧ z ≤ 384)) hx hG  (fun z Z' h' q1 q2 q3 q4 => ⟨z, Z', h', rfl, q1, q2, q3, q4⟩))
  subst e; exact ⟨z, Z', h', hca, q⟩
set_option maxRecDepth 100000 in
theorem cw_145_1_n {l : Launch} {D : va_G} {b0 : Nat} {ad : Nat → Nat} {Hb : Heap} {tau : Nat → Int64} {d n s : Nat} {S : Nat → xS} {Z : xZ} {h : mx_H} {Post : mx_R → Prop} (hx : XH n s S Z h) (hG : GI n S Z) {x0 : Int} (p0 : (-2147483648) ≤ x0 ∧ x0 ≤ (-1)) (hP : ∀ z : Int, (-2) ≤ z ∧ z ≤ (-2) → Post (some (xI z), h)) : mx_J (tB l D b0 ad Hb tau) mt_145 (d + 1) 0 [some (.ref 1), some (xI x0), none, none, none, none] [] h Post := by
    have a1 : 1 < n := lt83 hG.1 rfl
    have s1 : S 1 = .inl (11, [2, 0, 0, 0, 2, 2, 2, 2, 2, 2, 2, 2, 2, 2, 2, 2, 2]) := hG.2.1 1 rfl
    refine mx_J.step (sn_145 0) (fun _ _ => rfl) ?_
    refine mx_J.step (sn_145 1) (fun _ _ => rfl) ?_
    obtain ⟨z1, hc1, b1⟩ := ct_144_1_n (d := d + 0) (l := l) (D := D) (b0 := b0) (ad := ad) (Hb := Hb) (tau := tau) hx hG (show (-2147483648) ≤ x0 ∧ x0 ≤ (-1) by omega)
    refine Jcv hx (show mx_Sn _ _ 2 (mx_callv 144 2 11 5) from sn_145 2) a1 s1 hc1 rfl rfl rfl ?_
    refine Jif_eq (show mx_Sn _ _ 5 (mx_if_eq 11 8) from sn_145 5) (by omega) (fun q2 => ?_) (fun q2 => ?_)
    · skip
      exfalso; omega
    · skip
      refine JcI (z := (-2)) (show mx_Sn _ _ 8 (mx_const (.int (-2)) 10) from sn_145 8) rfl ?_
      exact mx_J.ret (sn_145 10) (fun _ _ => rfl) (hP (-2) (by omega))
theorem ct_145_1_n {l : Launch} {D : va_G} {b0 : Nat} {ad : Nat → Nat} {Hb : Heap} {tau : Nat → Int64} {d n s : Nat} {S : Nat → xS} {Z : xZ} {h : mx_H} (hx : XH n s S Z h) (hG : GI n S Z) {x0 : Int} (p0 : (-2147483648) ≤ x0 ∧ x0 ≤ (-1)) : ∃ z : Int, mx_Ca (tB l D b0 ad Hb tau) (d + 2) 145 [.ref 1, xI x0] h (some (xI z), h) ∧ ((-2) ≤ z ∧ z ≤ (-2)) := by
  obtain ⟨r, hca, z, e, hp⟩ := Jmt (B := tB l D b0 ad Hb tau) (M := mt_145) (mi := 145) (as := [.ref 1, xI x0]) (d := d + 1) (ls := [some (.ref 1), some (xI x0), none, none, none, none]) rfl rfl rfl rfl rfl rfl (cw_145_1_n (l := l) (D := D) (b0 := b0) (ad := ad) (Hb := Hb) (tau := tau) (d := d) (Post := fun r => ∃ z : Int, r = (some (xI z), h) ∧ ((-2) ≤ z ∧ z ≤ (-2))) hx hG p0 (fun z hz => ⟨z, rfl, hz⟩))
  subst e; exact ⟨z, hca, hp⟩
set_option maxRecDepth 100000 in
theorem cw_145_1_p {l : Launch} {D : va_G} {b0 : Nat} {ad : Nat → Nat} {Hb : Heap} {tau : Nat → Int64} {d n s : Nat} {S : Nat → xS} {Z : xZ} {h : mx_H} {Post : mx_R → Prop} (hx : XH n s S Z h) (hG : GI n S Z) {x0 : Int} (p0 : 4 ≤ x0 ∧ x0 ≤ 2147483647) (hP : ∀ z : Int, (-2) ≤ z ∧ z ≤ (-2) → Post (some (xI z), h)) : mx_J (tB l D b0 ad Hb tau) mt_145 (d + 1) 0 [some (.ref 1), some (xI x0), none, none, none, none] [] h Post := by
    have a1 : 1 < n := lt83 hG.1 rfl
    have s1 : S 1 = .inl (11, [2, 0, 0, 0, 2, 2, 2, 2, 2, 2, 2, 2, 2, 2, 2, 2, 2]) := hG.2.1 1 rfl
    refine mx_J.step (sn_145 0) (fun _ _ => rfl) ?_
    refine mx_J.step (sn_145 1) (fun _ _ => rfl) ?_
    obtain ⟨z1, hc1, b1⟩ := ct_144_1_p (d := d + 0) (l := l) (D := D) (b0 := b0) (ad := ad) (Hb := Hb) (tau := tau) hx hG (show 4 ≤ x0 ∧ x0 ≤ 2147483647 by omega)
    refine Jcv hx (show mx_Sn _ _ 2 (mx_callv 144 2 11 5) from sn_145 2) a1 s1 hc1 rfl rfl rfl ?_
    refine Jif_eq (show mx_Sn _ _ 5 (mx_if_eq 11 8) from sn_145 5) (by omega) (fun q2 => ?_) (fun q2 => ?_)
    · skip
      exfalso; omega
    · skip
      refine JcI (z := (-2)) (show mx_Sn _ _ 8 (mx_const (.int (-2)) 10) from sn_145 8) rfl ?_
      exact mx_J.ret (sn_145 10) (fun _ _ => rfl) (hP (-2) (by omega))
theorem ct_145_1_p {l : Launch} {D : va_G} {b0 : Nat} {ad : Nat → Nat} {Hb : Heap} {tau : Nat → Int64} {d n s : Nat} {S : Nat → xS} {Z : xZ} {h : mx_H} (hx : XH n s S Z h) (hG : GI n S Z) {x0 : Int} (p0 : 4 ≤ x0 ∧ x0 ≤ 2147483647) : ∃ z : Int, mx_Ca (tB l D b0 ad Hb tau) (d + 2) 145 [.ref 1, xI x0] h (some (xI z), h) ∧ ((-2) ≤ z ∧ z ≤ (-2)) := by
  obtain ⟨r, hca, z, e, hp⟩ := Jmt (B := tB l D b0 ad Hb tau) (M := mt_145) (mi := 145) (as := [.ref 1, xI x0]) (d := d + 1) (ls := [some (.ref 1), some (xI x0), none, none, none, none]) rfl rfl rfl rfl rfl rfl (cw_145_1_p (l := l) (D := D) (b0 := b0) (ad := ad) (Hb := Hb) (tau := tau) (d := d) (Post := fun r => ∃ z : Int, r = (some (xI z), h) ∧ ((-2) ≤ z ∧ z ≤ (-2))) hx hG p0 (fun z hz => ⟨z, rfl, hz⟩))
  subst e; exact ⟨z, hca, hp⟩
theorem ct_145_1 {l : Launch} {D : va_G} {b0 : Nat} {ad : Nat → Nat} {Hb : Heap} {tau : Nat → Int64} {d n s : Nat} {S : Nat → xS} {Z : xZ} {h : mx_H} (hx : XH n s S Z h) (hG : GI n S Z) {x0 : Int} (p0 : (-2147483648) ≤ x0 ∧ x0 ≤ 2147483647) : ∃ (z : Int) (Z' : xZ) (h' : mx_H), mx_Ca (tB l D b0 ad Hb tau) (d + 3) 145 [.ref 1, xI x0] h (some (xI z), h') ∧ XH n s S Z' h' ∧ GI n S Z' ∧ fr' [(42, (-1))] Z Z' ∧ ((-6) ≤ z ∧ z ≤ 384) := by
  have hc : x0 = 0 ∨ x0 = 1 ∨ x0 = 2 ∨ x0 = 3 ∨ ((-2147483648) ≤ x0 ∧ x0 ≤ (-1)) ∨ (4 ≤ x0 ∧ x0 ≤ 2147483647) := by omega
  rcases hc with hc | hc | hc | hc | hc | hc
  · subst hc
    obtain ⟨z, Z', h', hca, q1, q2, q3, b⟩ := ct_145_1_i0 (d := d + 0) (l := l) (D := D) (b0 := b0) (ad := ad) (Hb := Hb) (tau := tau) hx hG 
    exact ⟨z, Z', h', hca, q1, q2, fr_tr (M1 := []) fr_rf q3 rfl rfl, by omega⟩
  · subst hc
    obtain ⟨z, Z', h', hca, q1, q2, q3, b⟩ := ct_145_1_i1 (d := d + 0) (l := l) (D := D) (b0 := b0) (ad := ad) (Hb := Hb) (tau := tau) hx hG 
    exact ⟨z, Z', h', hca, q1, q2, fr_tr (M1 := []) fr_rf q3 rfl rfl, by omega⟩
  · subst hc
    obtain ⟨z, Z', h', hca, q1, q2, q3, b⟩ := ct_145_1_i2 (d := d + 0) (l := l) (D := D) (b0 := b0) (ad := ad) (Hb := Hb) (tau := tau) hx hG 
    exact ⟨z, Z', h', hca, q1, q2, fr_tr (M1 := []) fr_rf q3 rfl rfl, by omega⟩
  · subst hc
    obtain ⟨z, Z', h', hca, q1, q2, q3, b⟩ := ct_145_1_i3 (d := d + 0) (l := l) (D := D) (b0 := b0) (ad := ad) (Hb := Hb) (tau := tau) hx hG 
    exact ⟨z, Z', h', hca, q1, q2, fr_tr (M1 := []) fr_rf q3 rfl rfl, by omega⟩
  · skip
    obtain ⟨z, hca, b⟩ := ct_145_1_n (d := d + 1) (l := l) (D := D) (b0 := b0) (ad := ad) (Hb := Hb) (tau := tau) hx hG hc
    exact ⟨z, Z, h, hca, hx, hG, fr_rf, by omega⟩
  · skip
    obtain ⟨z, hca, b⟩ := ct_145_1_p (d := d + 1) (l := l) (D := D) (b0 := b0) (ad := ad) (Hb := Hb) (tau := tau) hx hG hc
    exact ⟨z, Z, h, hca, hx, hG, fr_rf, by omega⟩
set_option maxRecDepth 100000 in
theorem cw_108_1_i0 {l : Launch} {D : va_G} {b0 : Nat} {ad : Nat → Nat} {Hb : Heap} {tau : Nat → Int64} {d n s : Nat} {S : Nat → xS} {Z : xZ} {h : mx_H} {Post : mx_R → Prop} (hx : XH n s S Z h) (hG : GI n S Z)  (hP : ∀ (z : Int) (Z' : xZ) (h' : mx_H), XH n s S Z' h' → GI n S Z' → fr' [(14, (-1)), (16, (-1)), (17, (-1)), (18, (-1)), (19, (-1)), (25, 8), (26, (-1)), (27, (-1)), (28, (-1)), (29, (-1)), (42, (-1))] Z Z' → (-2147483648) ≤ z ∧ z ≤ 2147483647 → Post (some (xI z), h')) : mx_J (tB l D b0 ad Hb tau) mt_108 (d + 10) 0 [some (.ref 1), some (xI 0), none] [] h Post := by
    have a1 : 1 < n := lt83 hG.1 rfl
    have s1 : S 1 = .inl (11, [2, 0, 0, 0, 2, 2, 2, 2, 2, 2, 2, 2, 2, 2, 2, 2, 2]) := hG.2.1 1 rfl
    have a25 : 25 < n := lt83 hG.1 rfl
    have s25 : S 25 = .inl (8, [2, 2, 2, 2, 2, 2, 2, 2, 0]) := hG.2.1 25 rfl
    have a36 : 36 < n := lt83 hG.1 rfl
    have s36 : S 36 = .inl (5, [2, 0, 0, 0, 0, 0]) := hG.2.1 36 rfl
    refine mx_J.step (sn_108 0) (fun _ _ => rfl) ?_
    refine mx_J.step (sn_108 1) (fun _ _ => rfl) ?_
    obtain ⟨z1, Z1, h1, hc1, hx1, hG1, hf1, b1⟩ := ct_145_1_i0 (d := d + 7) (l := l) (D := D) (b0 := b0) (ad := ad) (Hb := Hb) (tau := tau) hx hG 
    refine Jcv hx (show mx_Sn _ _ 2 (mx_callv 145 2 11 5) from sn_108 2) a1 s1 hc1 rfl rfl rfl ?_
    refine mx_J.step (ls2 := [some (.ref 1), some (xI 0), some (xI z1)]) (sn_108 5) (fun _ _ => rfl) ?_
    refine mx_J.step (sn_108 6) (fun _ _ => rfl) ?_
    have c29 : ∀ (k2_0 : Int) (Z3 : xZ) (h3 : mx_H), (-2147483648) ≤ k2_0 ∧ k2_0 ≤ 2147483647 → XH n s S Z3 h3 → GI n S Z3 → fr' [(14, (-1)), (16, (-1)), (17, (-1)), (18, (-1)), (19, (-1)), (25, 8), (26, (-1)), (27, (-1)), (28, (-1)), (29, (-1))] Z1 Z3 → mx_J (tB l D b0 ad Hb tau) mt_108 (d + 10) 29 [some (.ref 1), some (xI 0), some (xI z1)] [xI k2_0] h3 Post := by
      intro k2_0 Z3 h3 f2_0 hx3 hG3 hf3
      exact mx_J.ret (sn_108 29) (fun _ _ => rfl) (hP k2_0 Z3 h3 hx3 hG3 (fr_tr (M := [(14, (-1)), (16, (-1)), (17, (-1)), (18, (-1)), (19, (-1)), (25, 8), (26, (-1)), (27, (-1)), (28, (-1)), (29, (-1)), (42, (-1))]) (fr_tr (M := [(14, (-1)), (16, (-1)), (17, (-1)), (18, (-1)), (19, (-1)), (25, 8), (26, (-1)), (27, (-1)), (28, (-1)), (29, (-1)), (42, (-1))]) fr_rf (hf1) (M1 := []) rfl rfl) (hf3) rfl rfl) (by omega))
    refine Jif_ge (show mx_Sn _ _ 7 (mx_if_ge 14 10) from sn_108 7) (by omega) (fun q4 => ?_) (fun q4 => ?_)
    · skip
      refine mx_J.step (sn_108 14) (fun _ _ => rfl) ?_
      refine JgetR (g := 8) (b := 25) hx1 (show mx_Sn _ _ 15 (mx_getf 11 8 18) from sn_108 15) a1 s1 rfl rfl (hG1.prr 1 8 rfl) ?_
      refine mx_J.step (sn_108 18) (fun _ _ => rfl) ?_
      refine JgetR (g := 12) (b := 36) hx1 (show mx_Sn _ _ 19 (mx_getf 11 12 22) from sn_108 19) a1 s1 rfl rfl (hG1.prr 1 12 rfl) ?_
      have b5 : 0 ≤ Z 36 2 ∧ Z 36 2 ≤ 384 := hG.pr 36 2
      refine JgetI (g := 2) (z := Z 36 2) hx1 (show mx_Sn _ _ 22 (mx_getf 5 2 25) from sn_108 22) a36 s36 rfl rfl (hf1 36 2 rfl) ?_
      refine mx_J.step (sn_108 25) (fun _ _ => rfl) ?_
      obtain ⟨z6, Z6, h6, hc6, hx6, hG6, hf6, b6⟩ := ct_61_25 (d := d + 0) (l := l) (D := D) (b0 := b0) (ad := ad) (Hb := Hb) (tau := tau) hx1 hG1 (show 0 ≤ Z 36 2 ∧ Z 36 2 ≤ 384 by omega) (show (-1) ≤ z1 ∧ z1 ≤ 384 by omega)
      refine Jcv hx1 (show mx_Sn _ _ 26 (mx_callv 61 3 8 29) from sn_108 26) a25 s25 hc6 rfl rfl rfl ?_
      exact c29 z6 Z6 h6 (by omega) hx6 hG6 (fr_tr (M := [(14, (-1)), (16, (-1)), (17, (-1)), (18, (-1)), (19, (-1)), (25, 8), (26, (-1)), (27, (-1)), (28, (-1)), (29, (-1))]) fr_rf (hf6) (M1 := []) rfl rfl)
    · skip
      refine mx_J.step (sn_108 10) (fun _ _ => rfl) ?_
      refine mx_J.step (sn_108 11) (fun _ _ => rfl) ?_
      exact c29 z1 Z1 h1 (by omega) hx1 hG1 fr_rf
theorem ct_108_1_i0 {l : Launch} {D : va_G} {b0 : Nat} {ad : Nat → Nat} {Hb : Heap} {tau : Nat → Int64} {d n s : Nat} {S : Nat → xS} {Z : xZ} {h : mx_H} (hx : XH n s S Z h) (hG : GI n S Z)  : ∃ (z : Int) (Z' : xZ) (h' : mx_H), mx_Ca (tB l D b0 ad Hb tau) (d + 11) 108 [.ref 1, xI 0] h (some (xI z), h') ∧ XH n s S Z' h' ∧ GI n S Z' ∧ fr' [(14, (-1)), (16, (-1)), (17, (-1)), (18, (-1)), (19, (-1)), (25, 8), (26, (-1)), (27, (-1)), (28, (-1)), (29, (-1)), (42, (-1))] Z Z' ∧ ((-2147483648) ≤ z ∧ z ≤ 2147483647) := by
  obtain ⟨r, hca, z, Z', h', e, q⟩ := Jmt (B := tB l D b0 ad Hb tau) (M := mt_108) (mi := 108) (as := [.ref 1, xI 0]) (d := d + 10) (ls := [some (.ref 1), some (xI 0), none]) rfl rfl rfl rfl rfl rfl (cw_108_1_i0 (l := l) (D := D) (b0 := b0) (ad := ad) (Hb := Hb) (tau := tau) (d := d) (Post := fun r => ∃ (z : Int) (Z' : xZ) (h' : mx_H), r = (some (xI z), h') ∧ XH n s S Z' h' ∧ GI n S Z' ∧ fr' [(14, (-1)), (16, (-1)), (17, (-1)), (18, (-1)), (19, (-1)), (25, 8), (26, (-1)), (27, (-1)), (28, (-1)), (29, (-1)), (42, (-1))] Z Z' ∧ ((-2147483648) ≤ z ∧ z ≤ 2147483647)) hx hG  (fun z Z' h' q1 q2 q3 q4 => ⟨z, Z', h', rfl, q1, q2, q3, q4⟩))
  subst e; exact ⟨z, Z', h', hca, q⟩
set_option maxRecDepth 100000 in
theorem cw_108_1_i1 {l : Launch} {D : va_G} {b0 : Nat} {ad : Nat → Nat} {Hb : Heap} {tau : Nat → Int64} {d n s : Nat} {S : Nat → xS} {Z : xZ} {h : mx_H} {Post : mx_R → Prop} (hx : XH n s S Z h) (hG : GI n S Z)  (hP : ∀ (z : Int) (Z' : xZ) (h' : mx_H), XH n s S Z' h' → GI n S Z' → fr' [(14, (-1)), (16, (-1)), (17, (-1)), (18, (-1)), (19, (-1)), (25, 8), (26, (-1)), (27, (-1)), (28, (-1)), (29, (-1)), (42, (-1))] Z Z' → (-2147483648) ≤ z ∧ z ≤ 2147483647 → Post (some (xI z), h')) : mx_J (tB l D b0 ad Hb tau) mt_108 (d + 10) 0 [some (.ref 1), some (xI 1), none] [] h Post := by
    have a1 : 1 < n := lt83 hG.1 rfl
    have s1 : S 1 = .inl (11, [2, 0, 0, 0, 2, 2, 2, 2, 2, 2, 2, 2, 2, 2, 2, 2, 2]) := hG.2.1 1 rfl
    have a25 : 25 < n := lt83 hG.1 rfl
    have s25 : S 25 = .inl (8, [2, 2, 2, 2, 2, 2, 2, 2, 0]) := hG.2.1 25 rfl
    have a36 : 36 < n := lt83 hG.1 rfl
    have s36 : S 36 = .inl (5, [2, 0, 0, 0, 0, 0]) := hG.2.1 36 rfl
    refine mx_J.step (sn_108 0) (fun _ _ => rfl) ?_
    refine mx_J.step (sn_108 1) (fun _ _ => rfl) ?_
    obtain ⟨z1, Z1, h1, hc1, hx1, hG1, hf1, b1⟩ := ct_145_1_i1 (d := d + 7) (l := l) (D := D) (b0 := b0) (ad := ad) (Hb := Hb) (tau := tau) hx hG 
    refine Jcv hx (show mx_Sn _ _ 2 (mx_callv 145 2 11 5) from sn_108 2) a1 s1 hc1 rfl rfl rfl ?_
    refine mx_J.step (ls2 := [some (.ref 1), some (xI 1), some (xI z1)]) (sn_108 5) (fun _ _ => rfl) ?_
    refine mx_J.step (sn_108 6) (fun _ _ => rfl) ?_
    have c29 : ∀ (k2_0 : Int) (Z3 : xZ) (h3 : mx_H), (-2147483648) ≤ k2_0 ∧ k2_0 ≤ 2147483647 → XH n s S Z3 h3 → GI n S Z3 → fr' [(14, (-1)), (16, (-1)), (17, (-1)), (18, (-1)), (19, (-1)), (25, 8), (26, (-1)), (27, (-1)), (28, (-1)), (29, (-1))] Z1 Z3 → mx_J (tB l D b0 ad Hb tau) mt_108 (d + 10) 29 [some (.ref 1), some (xI 1), some (xI z1)] [xI k2_0] h3 Post := by
      intro k2_0 Z3 h3 f2_0 hx3 hG3 hf3
      exact mx_J.ret (sn_108 29) (fun _ _ => rfl) (hP k2_0 Z3 h3 hx3 hG3 (fr_tr (M := [(14, (-1)), (16, (-1)), (17, (-1)), (18, (-1)), (19, (-1)), (25, 8), (26, (-1)), (27, (-1)), (28, (-1)), (29, (-1)), (42, (-1))]) (fr_tr (M := [(14, (-1)), (16, (-1)), (17, (-1)), (18, (-1)), (19, (-1)), (25, 8), (26, (-1)), (27, (-1)), (28, (-1)), (29, (-1)), (42, (-1))]) fr_rf (hf1) (M1 := []) rfl rfl) (hf3) rfl rfl) (by omega))
    refine Jif_ge (show mx_Sn _ _ 7 (mx_if_ge 14 10) from sn_108 7) (by omega) (fun q4 => ?_) (fun q4 => ?_)
    · skip
      refine mx_J.step (sn_108 14) (fun _ _ => rfl) ?_
      refine JgetR (g := 8) (b := 25) hx1 (show mx_Sn _ _ 15 (mx_getf 11 8 18) from sn_108 15) a1 s1 rfl rfl (hG1.prr 1 8 rfl) ?_
      refine mx_J.step (sn_108 18) (fun _ _ => rfl) ?_
      refine JgetR (g := 12) (b := 36) hx1 (show mx_Sn _ _ 19 (mx_getf 11 12 22) from sn_108 19) a1 s1 rfl rfl (hG1.prr 1 12 rfl) ?_
      have b5 : 0 ≤ Z 36 2 ∧ Z 36 2 ≤ 384 := hG.pr 36 2
      refine JgetI (g := 2) (z := Z 36 2) hx1 (show mx_Sn _ _ 22 (mx_getf 5 2 25) from sn_108 22) a36 s36 rfl rfl (hf1 36 2 rfl) ?_
      refine mx_J.step (sn_108 25) (fun _ _ => rfl) ?_
      obtain ⟨z6, Z6, h6, hc6, hx6, hG6, hf6, b6⟩ := ct_61_25 (d := d + 0) (l := l) (D := D) (b0 := b0) (ad := ad) (Hb := Hb) (tau := tau) hx1 hG1 (show 0 ≤ Z 36 2 ∧ Z 36 2 ≤ 384 by omega) (show (-1) ≤ z1 ∧ z1 ≤ 384 by omega)
      refine Jcv hx1 (show mx_Sn _ _ 26 (mx_callv 61 3 8 29) from sn_108 26) a25 s25 hc6 rfl rfl rfl ?_
      exact c29 z6 Z6 h6 (by omega) hx6 hG6 (fr_tr (M := [(14, (-1)), (16, (-1)), (17, (-1)), (18, (-1)), (19, (-1)), (25, 8), (26, (-1)), (27, (-1)), (28, (-1)), (29, (-1))]) fr_rf (hf6) (M1 := []) rfl rfl)
    · skip
      refine mx_J.step (sn_108 10) (fun _ _ => rfl) ?_
      refine mx_J.step (sn_108 11) (fun _ _ => rfl) ?_
      exact c29 z1 Z1 h1 (by omega) hx1 hG1 fr_rf
theorem ct_108_1_i1 {l : Launch} {D : va_G} {b0 : Nat} {ad : Nat → Nat} {Hb : Heap} {tau : Nat → Int64} {d n s : Nat} {S : Nat → xS} {Z : xZ} {h : mx_H} (hx : XH n s S Z h) (hG : GI n S Z)  : ∃ (z : Int) (Z' : xZ) (h' : mx_H), mx_Ca (tB l D b0 ad Hb tau) (d + 11) 108 [.ref 1, xI 1] h (some (xI z), h') ∧ XH n s S Z' h' ∧ GI n S Z' ∧ fr' [(14, (-1)), (16, (-1)), (17, (-1)), (18, (-1)), (19, (-1)), (25, 8), (26, (-1)), (27, (-1)), (28, (-1)), (29, (-1)), (42, (-1))] Z Z' ∧ ((-2147483648) ≤ z ∧ z ≤ 2147483647) := by
  obtain ⟨r, hca, z, Z', h', e, q⟩ := Jmt (B := tB l D b0 ad Hb tau) (M := mt_108) (mi := 108) (as := [.ref 1, xI 1]) (d := d + 10) (ls := [some (.ref 1), some (xI 1), none]) rfl rfl rfl rfl rfl rfl (cw_108_1_i1 (l := l) (D := D) (b0 := b0) (ad := ad) (Hb := Hb) (tau := tau) (d := d) (Post := fun r => ∃ (z : Int) (Z' : xZ) (h' : mx_H), r = (some (xI z), h') ∧ XH n s S Z' h' ∧ GI n S Z' ∧ fr' [(14, (-1)), (16, (-1)), (17, (-1)), (18, (-1)), (19, (-1)), (25, 8), (26, (-1)), (27, (-1)), (28, (-1)), (29, (-1)), (42, (-1))] Z Z' ∧ ((-2147483648) ≤ z ∧ z ≤ 2147483647)) hx hG  (fun z Z' h' q1 q2 q3 q4 => ⟨z, Z', h', rfl, q1, q2, q3, q4⟩))
  subst e; exact ⟨z, Z', h', hca, q⟩
set_option maxRecDepth 100000 in
theorem cw_108_1_i2 {l : Launch} {D : va_G} {b0 : Nat} {ad : Nat → Nat} {Hb : Heap} {tau : Nat → Int64} {d n s : Nat} {S : Nat → xS} {Z : xZ} {h : mx_H} {Post : mx_R → Prop} (hx : XH n s S Z h) (hG : GI n S Z)  (hP : ∀ (z : Int) (Z' : xZ) (h' : mx_H), XH n s S Z' h' → GI n S Z' → fr' [(14, (-1)), (16, (-1)), (17, (-1)), (18, (-1)), (19, (-1)), (25, 8), (26, (-1)), (27, (-1)), (28, (-1)), (29, (-1)), (42, (-1))] Z Z' → (-2147483648) ≤ z ∧ z ≤ 2147483647 → Post (some (xI z), h')) : mx_J (tB l D b0 ad Hb tau) mt_108 (d + 10) 0 [some (.ref 1), some (xI 2), none] [] h Post := by
    have a1 : 1 < n := lt83 hG.1 rfl
    have s1 : S 1 = .inl (11, [2, 0, 0, 0, 2, 2, 2, 2, 2, 2, 2, 2, 2, 2, 2, 2, 2]) := hG.2.1 1 rfl
    have a25 : 25 < n := lt83 hG.1 rfl
    have s25 : S 25 = .inl (8, [2, 2, 2, 2, 2, 2, 2, 2, 0]) := hG.2.1 25 rfl
    have a36 : 36 < n := lt83 hG.1 rfl
    have s36 : S 36 = .inl (5, [2, 0, 0, 0, 0, 0]) := hG.2.1 36 rfl
    refine mx_J.step (sn_108 0) (fun _ _ => rfl) ?_
    refine mx_J.step (sn_108 1) (fun _ _ => rfl) ?_
    obtain ⟨z1, Z1, h1, hc1, hx1, hG1, hf1, b1⟩ := ct_145_1_i2 (d := d + 7) (l := l) (D := D) (b0 := b0) (ad := ad) (Hb := Hb) (tau := tau) hx hG 
    refine Jcv hx (show mx_Sn _ _ 2 (mx_callv 145 2 11 5) from sn_108 2) a1 s1 hc1 rfl rfl rfl ?_
    refine mx_J.step (ls2 := [some (.ref 1), some (xI 2), some (xI z1)]) (sn_108 5) (fun _ _ => rfl) ?_
    refine mx_J.step (sn_108 6) (fun _ _ => rfl) ?_
    have c29 : ∀ (k2_0 : Int) (Z3 : xZ) (h3 : mx_H), (-2147483648) ≤ k2_0 ∧ k2_0 ≤ 2147483647 → XH n s S Z3 h3 → GI n S Z3 → fr' [(14, (-1)), (16, (-1)), (17, (-1)), (18, (-1)), (19, (-1)), (25, 8), (26, (-1)), (27, (-1)), (28, (-1)), (29, (-1))] Z1 Z3 → mx_J (tB l D b0 ad Hb tau) mt_108 (d + 10) 29 [some (.ref 1), some (xI 2), some (xI z1)] [xI k2_0] h3 Post := by
      intro k2_0 Z3 h3 f2_0 hx3 hG3 hf3
      exact mx_J.ret (sn_108 29) (fun _ _ => rfl) (hP k2_0 Z3 h3 hx3 hG3 (fr_tr (M := [(14, (-1)), (16, (-1)), (17, (-1)), (18, (-1)), (19, (-1)), (25, 8), (26, (-1)), (27, (-1)), (28, (-1)), (29, (-1)), (42, (-1))]) (fr_tr (M := [(14, (-1)), (16, (-1)), (17, (-1)), (18, (-1)), (19, (-1)), (25, 8), (26, (-1)), (27, (-1)), (28, (-1)), (29, (-1)), (42, (-1))]) fr_rf (hf1) (M1 := []) rfl rfl) (hf3) rfl rfl) (by omega))
    refine Jif_ge (show mx_Sn _ _ 7 (mx_if_ge 14 10) from sn_108 7) (by omega) (fun q4 => ?_) (fun q4 => ?_)
    · skip
      refine mx_J.step (sn_108 14) (fun _ _ => rfl) ?_
      refine JgetR (g := 8) (b := 25) hx1 (show mx_Sn _ _ 15 (mx_getf 11 8 18) from sn_108 15) a1 s1 rfl rfl (hG1.prr 1 8 rfl) ?_
      refine mx_J.step (sn_108 18) (fun _ _ => rfl) ?_
      refine JgetR (g := 12) (b := 36) hx1 (show mx_Sn _ _ 19 (mx_getf 11 12 22) from sn_108 19) a1 s1 rfl rfl (hG1.prr 1 12 rfl) ?_
      have b5 : 0 ≤ Z 36 2 ∧ Z 36 2 ≤ 384 := hG.pr 36 2
      refine JgetI (g := 2) (z := Z 36 2) hx1 (show mx_Sn _ _ 22 (mx_getf 5 2 25) from sn_108 22) a36 s36 rfl rfl (hf1 36 2 rfl) ?_
      refine mx_J.step (sn_108 25) (fun _ _ => rfl) ?_
      obtain ⟨z6, Z6, h6, hc6, hx6, hG6, hf6, b6⟩ := ct_61_25 (d := d + 0) (l := l) (D := D) (b0 := b0) (ad := ad) (Hb := Hb) (tau := tau) hx1 hG1 (show 0 ≤ Z 36 2 ∧ Z 36 2 ≤ 384 by omega) (show (-1) ≤ z1 ∧ z1 ≤ 384 by omega)
      refine Jcv hx1 (show mx_Sn _ _ 26 (mx_callv 61 3 8 29) from sn_108 26) a25 s25 hc6 rfl rfl rfl ?_
      exact c29 z6 Z6 h6 (by omega) hx6 hG6 (fr_tr (M := [(14, (-1)), (16, (-1)), (17, (-1)), (18, (-1)), (19, (-1)), (25, 8), (26, (-1)), (27, (-1)), (28, (-1)), (29, (-1))]) fr_rf (hf6) (M1 := []) rfl rfl)
    · skip
      refine mx_J.step (sn_108 10) (fun _ _ => rfl) ?_
      refine mx_J.step (sn_108 11) (fun _ _ => rfl) ?_
      exact c29 z1 Z1 h1 (by omega) hx1 hG1 fr_rf
theorem ct_108_1_i2 {l : Launch} {D : va_G} {b0 : Nat} {ad : Nat → Nat} {Hb : Heap} {tau : Nat → Int64} {d n s : Nat} {S : Nat → xS} {Z : xZ} {h : mx_H} (hx : XH n s S Z h) (hG : GI n S Z)  : ∃ (z : Int) (Z' : xZ) (h' : mx_H), mx_Ca (tB l D b0 ad Hb tau) (d + 11) 108 [.ref 1, xI 2] h (some (xI z), h') ∧ XH n s S Z' h' ∧ GI n S Z' ∧ fr' [(14, (-1)), (16, (-1)), (17, (-1)), (18, (-1)), (19, (-1)), (25, 8), (26, (-1)), (27, (-1)), (28, (-1)), (29, (-1)), (42, (-1))] Z Z' ∧ ((-2147483648) ≤ z ∧ z ≤ 2147483647) := by
  obtain ⟨r, hca, z, Z', h', e, q⟩ := Jmt (B := tB l D b0 ad Hb tau) (M := mt_108) (mi := 108) (as := [.ref 1, xI 2]) (d := d + 10) (ls := [some (.ref 1), some (xI 2), none]) rfl rfl rfl rfl rfl rfl (cw_108_1_i2 (l := l) (D := D) (b0 := b0) (ad := ad) (Hb := Hb) (tau := tau) (d := d) (Post := fun r => ∃ (z : Int) (Z' : xZ) (h' : mx_H), r = (some (xI z), h') ∧ XH n s S Z' h' ∧ GI n S Z' ∧ fr' [(14, (-1)), (16, (-1)), (17, (-1)), (18, (-1)), (19, (-1)), (25, 8), (26, (-1)), (27, (-1)), (28, (-1)), (29, (-1)), (42, (-1))] Z Z' ∧ ((-2147483648) ≤ z ∧ z ≤ 2147483647)) hx hG  (fun z Z' h' q1 q2 q3 q4 => ⟨z, Z', h', rfl, q1, q2, q3, q4⟩))
  subst e; exact ⟨z, Z', h', hca, q⟩
set_option maxRecDepth 100000 in
theorem cw_108_1_i3 {l : Launch} {D : va_G} {b0 : Nat} {ad : Nat → Nat} {Hb : Heap} {tau : Nat → Int64} {d n s : Nat} {S : Nat → xS} {Z : xZ} {h : mx_H} {Post : mx_R → Prop} (hx : XH n s S Z h) (hG : GI n S Z)  (hP : ∀ (z : Int) (Z' : xZ) (h' : mx_H), XH n s S Z' h' → GI n S Z' → fr' [(14, (-1)), (16, (-1)), (17, (-1)), (18, (-1)), (19, (-1)), (25, 8), (26, (-1)), (27, (-1)), (28, (-1)), (29, (-1)), (42, (-1))] Z Z' → (-2147483648) ≤ z ∧ z ≤ 2147483647 → Post (some (xI z), h')) : mx_J (tB l D b0 ad Hb tau) mt_108 (d + 10) 0 [some (.ref 1), some (xI 3), none] [] h Post := by
    have a1 : 1 < n := lt83 hG.1 rfl
    have s1 : S 1 = .inl (11, [2, 0, 0, 0, 2, 2, 2, 2, 2, 2, 2, 2, 2, 2, 2, 2, 2]) := hG.2.1 1 rfl
    have a25 : 25 < n := lt83 hG.1 rfl
    have s25 : S 25 = .inl (8, [2, 2, 2, 2, 2, 2, 2, 2, 0]) := hG.2.1 25 rfl
    have a36 : 36 < n := lt83 hG.1 rfl
    have s36 : S 36 = .inl (5, [2, 0, 0, 0, 0, 0]) := hG.2.1 36 rfl
    refine mx_J.step (sn_108 0) (fun _ _ => rfl) ?_
    refine mx_J.step (sn_108 1) (fun _ _ => rfl) ?_
    obtain ⟨z1, Z1, h1, hc1, hx1, hG1, hf1, b1⟩ := ct_145_1_i3 (d := d + 7) (l := l) (D := D) (b0 := b0) (ad := ad) (Hb := Hb) (tau := tau) hx hG 
    refine Jcv hx (show mx_Sn _ _ 2 (mx_callv 145 2 11 5) from sn_108 2) a1 s1 hc1 rfl rfl rfl ?_
    refine mx_J.step (ls2 := [some (.ref 1), some (xI 3), some (xI z1)]) (sn_108 5) (fun _ _ => rfl) ?_
    refine mx_J.step (sn_108 6) (fun _ _ => rfl) ?_
    have c29 : ∀ (k2_0 : Int) (Z3 : xZ) (h3 : mx_H), (-2147483648) ≤ k2_0 ∧ k2_0 ≤ 2147483647 → XH n s S Z3 h3 → GI n S Z3 → fr' [(14, (-1)), (16, (-1)), (17, (-1)), (18, (-1)), (19, (-1)), (25, 8), (26, (-1)), (27, (-1)), (28, (-1)), (29, (-1))] Z1 Z3 → mx_J (tB l D b0 ad Hb tau) mt_108 (d + 10) 29 [some (.ref 1), some (xI 3), some (xI z1)] [xI k2_0] h3 Post := by
      intro k2_0 Z3 h3 f2_0 hx3 hG3 hf3
      exact mx_J.ret (sn_108 29) (fun _ _ => rfl) (hP k2_0 Z3 h3 hx3 hG3 (fr_tr (M := [(14, (-1)), (16, (-1)), (17, (-1)), (18, (-1)), (19, (-1)), (25, 8), (26, (-1)), (27, (-1)), (28, (-1)), (29, (-1)), (42, (-1))]) (fr_tr (M := [(14, (-1)), (16, (-1)), (17, (-1)), (18, (-1)), (19, (-1)), (25, 8), (26, (-1)), (27, (-1)), (28, (-1)), (29, (-1)), (42, (-1))]) fr_rf (hf1) (M1 := []) rfl rfl) (hf3) rfl rfl) (by omega))
    refine Jif_ge (show mx_Sn _ _ 7 (mx_if_ge 14 10) from sn_108 7) (by omega) (fun q4 => ?_) (fun q4 => ?_)
    · skip
      refine mx_J.step (sn_108 14) (fun _ _ => rfl) ?_
      refine JgetR (g := 8) (b := 25) hx1 (show mx_Sn _ _ 15 (mx_getf 11 8 18) from sn_108 15) a1 s1 rfl rfl (hG1.prr 1 8 rfl) ?_
      refine mx_J.step (sn_108 18) (fun _ _ => rfl) ?_
      refine JgetR (g := 12) (b := 36) hx1 (show mx_Sn _ _ 19 (mx_getf 11 12 22) from sn_108 19) a1 s1 rfl rfl (hG1.prr 1 12 rfl) ?_
      have b5 : 0 ≤ Z 36 2 ∧ Z 36 2 ≤ 384 := hG.pr 36 2
      refine JgetI (g := 2) (z := Z 36 2) hx1 (show mx_Sn _ _ 22 (mx_getf 5 2 25) from sn_108 22) a36 s36 rfl rfl (hf1 36 2 rfl) ?_
      refine mx_J.step (sn_108 25) (fun _ _ => rfl) ?_
      obtain ⟨z6, Z6, h6, hc6, hx6, hG6, hf6, b6⟩ := ct_61_25 (d := d + 0) (l := l) (D := D) (b0 := b0) (ad := ad) (Hb := Hb) (tau := tau) hx1 hG1 (show 0 ≤ Z 36 2 ∧ Z 36 2 ≤ 384 by omega) (show (-1) ≤ z1 ∧ z1 ≤ 384 by omega)
      refine Jcv hx1 (show mx_Sn _ _ 26 (mx_callv 61 3 8 29) from sn_108 26) a25 s25 hc6 rfl rfl rfl ?_
      exact c29 z6 Z6 h6 (by omega) hx6 hG6 (fr_tr (M := [(14, (-1)), (16, (-1)), (17, (-1)), (18, (-1)), (19, (-1)), (25, 8), (26, (-1)), (27, (-1)), (28, (-1)), (29, (-1))]) fr_rf (hf6) (M1 := []) rfl rfl)
    · skip
      refine mx_J.step (sn_108 10) (fun _ _ => rfl) ?_
      refine mx_J.step (sn_108 11) (fun _ _ => rfl) ?_
      exact c29 z1 Z1 h1 (by omega) hx1 hG1 fr_rf
theorem ct_108_1_i3 {l : Launch} {D : va_G} {b0 : Nat} {ad : Nat → Nat} {Hb : Heap} {tau : Nat → Int64} {d n s : Nat} {S : Nat → xS} {Z : xZ} {h : mx_H} (hx : XH n s S Z h) (hG : GI n S Z)  : ∃ (z : Int) (Z' : xZ) (h' : mx_H), mx_Ca (tB l D b0 ad Hb tau) (d + 11) 108 [.ref 1, xI 3] h (some (xI z), h') ∧ XH n s S Z' h' ∧ GI n S Z' ∧ fr' [(14, (-1)), (16, (-1)), (17, (-1)), (18, (-1)), (19, (-1)), (25, 8), (26, (-1)), (27, (-1)), (28, (-1)), (29, (-1)), (42, (-1))] Z Z' ∧ ((-2147483648) ≤ z ∧ z ≤ 2147483647) := by
  obtain ⟨r, hca, z, Z', h', e, q⟩ := Jmt (B := tB l D b0 ad Hb tau) (M := mt_108) (mi := 108) (as := [.ref 1, xI 3]) (d := d + 10) (ls := [some (.ref 1), some (xI 3), none]) rfl rfl rfl rfl rfl rfl (cw_108_1_i3 (l := l) (D := D) (b0 := b0) (ad := ad) (Hb := Hb) (tau := tau) (d := d) (Post := fun r => ∃ (z : Int) (Z' : xZ) (h' : mx_H), r = (some (xI z), h') ∧ XH n s S Z' h' ∧ GI n S Z' ∧ fr' [(14, (-1)), (16, (-1)), (17, (-1)), (18, (-1)), (19, (-1)), (25, 8), (26, (-1)), (27, (-1)), (28, (-1)), (29, (-1)), (42, (-1))] Z Z' ∧ ((-2147483648) ≤ z ∧ z ≤ 2147483647)) hx hG  (fun z Z' h' q1 q2 q3 q4 => ⟨z, Z', h', rfl, q1, q2, q3, q4⟩))
  subst e; exact ⟨z, Z', h', hca, q⟩
set_option maxRecDepth 100000 in
theorem cw_108_1_n {l : Launch} {D : va_G} {b0 : Nat} {ad : Nat → Nat} {Hb : Heap} {tau : Nat → Int64} {d n s : Nat} {S : Nat → xS} {Z : xZ} {h : mx_H} {Post : mx_R → Prop} (hx : XH n s S Z h) (hG : GI n S Z) {x0 : Int} (p0 : (-2147483648) ≤ x0 ∧ x0 ≤ (-1)) (hP : ∀ z : Int, (-2) ≤ z ∧ z ≤ (-2) → Post (some (xI z), h)) : mx_J (tB l D b0 ad Hb tau) mt_108 (d + 2) 0 [some (.ref 1), some (xI x0), none] [] h Post := by
    have a1 : 1 < n := lt83 hG.1 rfl
    have s1 : S 1 = .inl (11, [2, 0, 0, 0, 2, 2, 2, 2, 2, 2, 2, 2, 2, 2, 2, 2, 2]) := hG.2.1 1 rfl
    refine mx_J.step (sn_108 0) (fun _ _ => rfl) ?_
    refine mx_J.step (sn_108 1) (fun _ _ => rfl) ?_
    obtain ⟨z1, hc1, b1⟩ := ct_145_1_n (d := d + 0) (l := l) (D := D) (b0 := b0) (ad := ad) (Hb := Hb) (tau := tau) hx hG (show (-2147483648) ≤ x0 ∧ x0 ≤ (-1) by omega)
    refine Jcv hx (show mx_Sn _ _ 2 (mx_callv 145 2 11 5) from sn_108 2) a1 s1 hc1 rfl rfl rfl ?_
    refine mx_J.step (ls2 := [some (.ref 1), some (xI x0), some (xI z1)]) (sn_108 5) (fun _ _ => rfl) ?_
    refine mx_J.step (sn_108 6) (fun _ _ => rfl) ?_
    refine Jif_ge (show mx_Sn _ _ 7 (mx_if_ge 14 10) from sn_108 7) (by omega) (fun q2 => ?_) (fun q2 => ?_)
    · skip
      exfalso; omega
    · skip
      refine mx_J.step (sn_108 10) (fun _ _ => rfl) ?_
      refine mx_J.step (sn_108 11) (fun _ _ => rfl) ?_
      exact mx_J.ret (sn_108 29) (fun _ _ => rfl) (hP z1 (by omega))
theorem ct_108_1_n {l : Launch} {D : va_G} {b0 : Nat} {ad : Nat → Nat} {Hb : Heap} {tau : Nat → Int64} {d n s : Nat} {S : Nat → xS} {Z : xZ} {h : mx_H} (hx : XH n s S Z h) (hG : GI n S Z) {x0 : Int} (p0 : (-2147483648) ≤ x0 ∧ x0 ≤ (-1)) : ∃ z : Int, mx_Ca (tB l D b0 ad Hb tau) (d + 3) 108 [.ref 1, xI x0] h (some (xI z), h) ∧ ((-2) ≤ z ∧ z ≤ (-2)) := by
  obtain ⟨r, hca, z, e, hp⟩ := Jmt (B := tB l D b0 ad Hb tau) (M := mt_108) (mi := 108) (as := [.ref 1, xI x0]) (d := d + 2) (ls := [some (.ref 1), some (xI x0), none]) rfl rfl rfl rfl rfl rfl (cw_108_1_n (l := l) (D := D) (b0 := b0) (ad := ad) (Hb := Hb) (tau := tau) (d := d) (Post := fun r => ∃ z : Int, r = (some (xI z), h) ∧ ((-2) ≤ z ∧ z ≤ (-2))) hx hG p0 (fun z hz => ⟨z, rfl, hz⟩))
  subst e; exact ⟨z, hca, hp⟩
set_option maxRecDepth 100000 in
theorem cw_108_1_p {l : Launch} {D : va_G} {b0 : Nat} {ad : Nat → Nat} {Hb : Heap} {tau : Nat → Int64} {d n s : Nat} {S : Nat → xS} {Z : xZ} {h : mx_H} {Post : mx_R → Prop} (hx : XH n s S Z h) (hG : GI n S Z) {x0 : Int} (p0 : 4 ≤ x0 ∧ x0 ≤ 2147483647) (hP : ∀ z : Int, (-2) ≤ z ∧ z ≤ (-2) → Post (some (xI z), h)) : mx_J (tB l D b0 ad Hb tau) mt_108 (d + 2) 0 [some (.ref 1), some (xI x0), none] [] h Post := by
    have a1 : 1 < n := lt83 hG.1 rfl
    have s1 : S 1 = .inl (11, [2, 0, 0, 0, 2, 2, 2, 2, 2, 2, 2, 2, 2, 2, 2, 2, 2]) := hG.2.1 1 rfl
    refine mx_J.step (sn_108 0) (fun _ _ => rfl) ?_
    refine mx_J.step (sn_108 1) (fun _ _ => rfl) ?_
    obtain ⟨z1, hc1, b1⟩ := ct_145_1_p (d := d + 0) (l := l) (D := D) (b0 := b0) (ad := ad) (Hb := Hb) (tau := tau) hx hG (show 4 ≤ x0 ∧ x0 ≤ 2147483647 by omega)
    refine Jcv hx (show mx_Sn _ _ 2 (mx_callv 145 2 11 5) from sn_108 2) a1 s1 hc1 rfl rfl rfl ?_
    refine mx_J.step (ls2 := [some (.ref 1), some (xI x0), some (xI z1)]) (sn_108 5) (fun _ _ => rfl) ?_
    refine mx_J.step (sn_108 6) (fun _ _ => rfl) ?_
    refine Jif_ge (show mx_Sn _ _ 7 (mx_if_ge 14 10) from sn_108 7) (by omega) (fun q2 => ?_) (fun q2 => ?_)
    · skip
      exfalso; omega
    · skip
      refine mx_J.step (sn_108 10) (fun _ _ => rfl) ?_
      refine mx_J.step (sn_108 11) (fun _ _ => rfl) ?_
      exact mx_J.ret (sn_108 29) (fun _ _ => rfl) (hP z1 (by omega))
theorem ct_108_1_p {l : Launch} {D : va_G} {b0 : Nat} {ad : Nat → Nat} {Hb : Heap} {tau : Nat → Int64} {d n s : Nat} {S : Nat → xS} {Z : xZ} {h : mx_H} (hx : XH n s S Z h) (hG : GI n S Z) {x0 : Int} (p0 : 4 ≤ x0 ∧ x0 ≤ 2147483647) : ∃ z : Int, mx_Ca (tB l D b0 ad Hb tau) (d + 3) 108 [.ref 1, xI x0] h (some (xI z), h) ∧ ((-2) ≤ z ∧ z ≤ (-2)) := by
  obtain ⟨r, hca, z, e, hp⟩ := Jmt (B := tB l D b0 ad Hb tau) (M := mt_108) (mi := 108) (as := [.ref 1, xI x0]) (d := d + 2) (ls := [some (.ref 1), some (xI x0), none]) rfl rfl rfl rfl rfl rfl (cw_108_1_p (l := l) (D := D) (b0 := b0) (ad := ad) (Hb := Hb) (tau := tau) (d := d) (Post := fun r => ∃ z : Int, r = (some (xI z), h) ∧ ((-2) ≤ z ∧ z ≤ (-2))) hx hG p0 (fun z hz => ⟨z, rfl, hz⟩))
  subst e; exact ⟨z, hca, hp⟩
theorem ct_108_1 {l : Launch} {D : va_G} {b0 : Nat} {ad : Nat → Nat} {Hb : Heap} {tau : Nat → Int64} {d n s : Nat} {S : Nat → xS} {Z : xZ} {h : mx_H} (hx : XH n s S Z h) (hG : GI n S Z) {x0 : Int} (p0 : (-2147483648) ≤ x0 ∧ x0 ≤ 2147483647) : ∃ (z : Int) (Z' : xZ) (h' : mx_H), mx_Ca (tB l D b0 ad Hb tau) (d + 11) 108 [.ref 1, xI x0] h (some (xI z), h') ∧ XH n s S Z' h' ∧ GI n S Z' ∧ fr' [(14, (-1)), (16, (-1)), (17, (-1)), (18, (-1)), (19, (-1)), (25, 8), (26, (-1)), (27, (-1)), (28, (-1)), (29, (-1)), (42, (-1))] Z Z' ∧ ((-2147483648) ≤ z ∧ z ≤ 2147483647) := by
  have hc : x0 = 0 ∨ x0 = 1 ∨ x0 = 2 ∨ x0 = 3 ∨ ((-2147483648) ≤ x0 ∧ x0 ≤ (-1)) ∨ (4 ≤ x0 ∧ x0 ≤ 2147483647) := by omega
  rcases hc with hc | hc | hc | hc | hc | hc
  · subst hc
    obtain ⟨z, Z', h', hca, q1, q2, q3, b⟩ := ct_108_1_i0 (d := d + 0) (l := l) (D := D) (b0 := b0) (ad := ad) (Hb := Hb) (tau := tau) hx hG 
    exact ⟨z, Z', h', hca, q1, q2, fr_tr (M1 := []) fr_rf q3 rfl rfl, by omega⟩
  · subst hc
    obtain ⟨z, Z', h', hca, q1, q2, q3, b⟩ := ct_108_1_i1 (d := d + 0) (l := l) (D := D) (b0 := b0) (ad := ad) (Hb := Hb) (tau := tau) hx hG 
    exact ⟨z, Z', h', hca, q1, q2, fr_tr (M1 := []) fr_rf q3 rfl rfl, by omega⟩
  · subst hc
    obtain ⟨z, Z', h', hca, q1, q2, q3, b⟩ := ct_108_1_i2 (d := d + 0) (l := l) (D := D) (b0 := b0) (ad := ad) (Hb := Hb) (tau := tau) hx hG 
    exact ⟨z, Z', h', hca, q1, q2, fr_tr (M1 := []) fr_rf q3 rfl rfl, by omega⟩
  · subst hc
    obtain ⟨z, Z', h', hca, q1, q2, q3, b⟩ := ct_108_1_i3 (d := d + 0) (l := l) (D := D) (b0 := b0) (ad := ad) (Hb := Hb) (tau := tau) hx hG 
    exact ⟨z, Z', h', hca, q1, q2, fr_tr (M1 := []) fr_rf q3 rfl rfl, by omega⟩
  · skip
    obtain ⟨z, hca, b⟩ := ct_108_1_n (d := d + 8) (l := l) (D := D) (b0 := b0) (ad := ad) (Hb := Hb) (tau := tau) hx hG hc
    exact ⟨z, Z, h, hca, hx, hG, fr_rf, by omega⟩
  · skip
    obtain ⟨z, hca, b⟩ := ct_108_1_p (d := d + 8) (l := l) (D := D) (b0 := b0) (ad := ad) (Hb := Hb) (tau := tau) hx hG hc
    exact ⟨z, Z, h, hca, hx, hG, fr_rf, by omega⟩
set_option maxRecDepth 100000 in
theorem cw_113_1_i0 {l : Launch} {D : va_G} {b0 : Nat} {ad : Nat → Nat} {Hb : Heap} {tau : Nat → Int64} {d n s : Nat} {S : Nat → xS} {Z : xZ} {h : mx_H} {Post : mx_R → Prop} (hx : XH n s S Z h) (hG : GI n S Z)  (hP : ∀ (z : Int) (Z' : xZ) (h' : mx_H), XH n s S Z' h' → GI n S Z' → fr' [(42, (-1))] Z Z' → (-6) ≤ z ∧ z ≤ 384 → Post (some (xI z), h')) : mx_J (tB l D b0 ad Hb tau) mt_113 (d + 3) 0 [some (.ref 1), some (xI 0)] [] h Post := by
    have a1 : 1 < n := lt83 hG.1 rfl
    have s1 : S 1 = .inl (11, [2, 0, 0, 0, 2, 2, 2, 2, 2, 2, 2, 2, 2, 2, 2, 2, 2]) := hG.2.1 1 rfl
    refine mx_J.step (sn_113 0) (fun _ _ => rfl) ?_
    refine mx_J.step (sn_113 1) (fun _ _ => rfl) ?_
    obtain ⟨z1, Z1, h1, hc1, hx1, hG1, hf1, b1⟩ := ct_145_1_i0 (d := d + 0) (l := l) (D := D) (b0 := b0) (ad := ad) (Hb := Hb) (tau := tau) hx hG 
    refine Jcv hx (show mx_Sn _ _ 2 (mx_callv 145 2 11 5) from sn_113 2) a1 s1 hc1 rfl rfl rfl ?_
    exact mx_J.ret (sn_113 5) (fun _ _ => rfl) (hP z1 Z1 h1 hx1 hG1 (fr_tr (M := [(42, (-1))]) fr_rf (hf1) (M1 := []) rfl rfl) (by omega))
theorem ct_113_1_i0 {l : Launch} {D : va_G} {b0 : Nat} {ad : Nat → Nat} {Hb : Heap} {tau : Nat → Int64} {d n s : Nat} {S : Nat → xS} {Z : xZ} {h : mx_H} (hx : XH n s S Z h) (hG : GI n S Z)  : ∃ (z : Int) (Z' : xZ) (h' : mx_H), mx_Ca (tB l D b0 ad Hb tau) (d + 4) 113 [.ref 1, xI 0] h (some (xI z), h') ∧ XH n s S Z' h' ∧ GI n S Z' ∧ fr' [(42, (-1))] Z Z' ∧ ((-6) ≤ z ∧ z ≤ 384) := by
  obtain ⟨r, hca, z, Z', h', e, q⟩ := Jmt (B := tB l D b0 ad Hb tau) (M := mt_113) (mi := 113) (as := [.ref 1, xI 0]) (d := d + 3) (ls := [some (.ref 1), some (xI 0)]) rfl rfl rfl rfl rfl rfl (cw_113_1_i0 (l := l) (D := D) (b0 := b0) (ad := ad) (Hb := Hb) (tau := tau) (d := d) (Post := fun r => ∃ (z : Int) (Z' : xZ) (h' : mx_H), r = (some (xI z), h') ∧ XH n s S Z' h' ∧ GI n S Z' ∧ fr' [(42, (-1))] Z Z' ∧ ((-6) ≤ z ∧ z ≤ 384)) hx hG  (fun z Z' h' q1 q2 q3 q4 => ⟨z, Z', h', rfl, q1, q2, q3, q4⟩))
  subst e; exact ⟨z, Z', h', hca, q⟩
set_option maxRecDepth 100000 in
theorem cw_113_1_i1 {l : Launch} {D : va_G} {b0 : Nat} {ad : Nat → Nat} {Hb : Heap} {tau : Nat → Int64} {d n s : Nat} {S : Nat → xS} {Z : xZ} {h : mx_H} {Post : mx_R → Prop} (hx : XH n s S Z h) (hG : GI n S Z)  (hP : ∀ (z : Int) (Z' : xZ) (h' : mx_H), XH n s S Z' h' → GI n S Z' → fr' [(42, (-1))] Z Z' → (-6) ≤ z ∧ z ≤ 384 → Post (some (xI z), h')) : mx_J (tB l D b0 ad Hb tau) mt_113 (d + 3) 0 [some (.ref 1), some (xI 1)] [] h Post := by
    have a1 : 1 < n := lt83 hG.1 rfl
    have s1 : S 1 = .inl (11, [2, 0, 0, 0, 2, 2, 2, 2, 2, 2, 2, 2, 2, 2, 2, 2, 2]) := hG.2.1 1 rfl
    refine mx_J.step (sn_113 0) (fun _ _ => rfl) ?_
    refine mx_J.step (sn_113 1) (fun _ _ => rfl) ?_
    obtain ⟨z1, Z1, h1, hc1, hx1, hG1, hf1, b1⟩ := ct_145_1_i1 (d := d + 0) (l := l) (D := D) (b0 := b0) (ad := ad) (Hb := Hb) (tau := tau) hx hG 
    refine Jcv hx (show mx_Sn _ _ 2 (mx_callv 145 2 11 5) from sn_113 2) a1 s1 hc1 rfl rfl rfl ?_
    exact mx_J.ret (sn_113 5) (fun _ _ => rfl) (hP z1 Z1 h1 hx1 hG1 (fr_tr (M := [(42, (-1))]) fr_rf (hf1) (M1 := []) rfl rfl) (by omega))
theorem ct_113_1_i1 {l : Launch} {D : va_G} {b0 : Nat} {ad : Nat → Nat} {Hb : Heap} {tau : Nat → Int64} {d n s : Nat} {S : Nat → xS} {Z : xZ} {h : mx_H} (hx : XH n s S Z h) (hG : GI n S Z)  : ∃ (z : Int) (Z' : xZ) (h' : mx_H), mx_Ca (tB l D b0 ad Hb tau) (d + 4) 113 [.ref 1, xI 1] h (some (xI z), h') ∧ XH n s S Z' h' ∧ GI n S Z' ∧ fr' [(42, (-1))] Z Z' ∧ ((-6) ≤ z ∧ z ≤ 384) := by
  obtain ⟨r, hca, z, Z', h', e, q⟩ := Jmt (B := tB l D b0 ad Hb tau) (M := mt_113) (mi := 113) (as := [.ref 1, xI 1]) (d := d + 3) (ls := [some (.ref 1), some (xI 1)]) rfl rfl rfl rfl rfl rfl (cw_113_1_i1 (l := l) (D := D) (b0 := b0) (ad := ad) (Hb := Hb) (tau := tau) (d := d) (Post := fun r => ∃ (z : Int) (Z' : xZ) (h' : mx_H), r = (some (xI z), h') ∧ XH n s S Z' h' ∧ GI n S Z' ∧ fr' [(42, (-1))] Z Z' ∧ ((-6) ≤ z ∧ z ≤ 384)) hx hG  (fun z Z' h' q1 q2 q3 q4 => ⟨z, Z', h', rfl, q1, q2, q3, q4⟩))
  subst e; exact ⟨z, Z', h', hca, q⟩
set_option maxRecDepth 100000 in
theorem cw_113_1_i2 {l : Launch} {D : va_G} {b0 : Nat} {ad : Nat → Nat} {Hb : Heap} {tau : Nat → Int64} {d n s : Nat} {S : Nat → xS} {Z : xZ} {h : mx_H} {Post : mx_R → Prop} (hx : XH n s S Z h) (hG : GI n S Z)  (hP : ∀ (z : Int) (Z' : xZ) (h' : mx_H), XH n s S Z' h' → GI n S Z' → fr' [(42, (-1))] Z Z' → (-6) ≤ z ∧ z ≤ 384 → Post (some (xI z), h')) : mx_J (tB l D b0 ad Hb tau) mt_113 (d + 3) 0 [some (.ref 1), some (xI 2)] [] h Post := by
    have a1 : 1 < n := lt83 hG.1 rfl
    have s1 : S 1 = .inl (11, [2, 0, 0, 0, 2, 2, 2, 2, 2, 2, 2, 2, 2, 2, 2, 2, 2]) := hG.2.1 1 rfl
    refine mx_J.step (sn_113 0) (fun _ _ => rfl) ?_
    refine mx_J.step (sn_113 1) (fun _ _ => rfl) ?_
    obtain ⟨z1, Z1, h1, hc1, hx1, hG1, hf1, b1⟩ := ct_145_1_i2 (d := d + 0) (l := l) (D := D) (b0 := b0) (ad := ad) (Hb := Hb) (tau := tau) hx hG 
    refine Jcv hx (show mx_Sn _ _ 2 (mx_callv 145 2 11 5) from sn_113 2) a1 s1 hc1 rfl rfl rfl ?_
    exact mx_J.ret (sn_113 5) (fun _ _ => rfl) (hP z1 Z1 h1 hx1 hG1 (fr_tr (M := [(42, (-1))]) fr_rf (hf1) (M1 := []) rfl rfl) (by omega))
theorem ct_113_1_i2 {l : Launch} {D : va_G} {b0 : Nat} {ad : Nat → Nat} {Hb : Heap} {tau : Nat → Int64} {d n s : Nat} {S : Nat → xS} {Z : xZ} {h : mx_H} (hx : XH n s S Z h) (hG : GI n S Z)  : ∃ (z : Int) (Z' : xZ) (h' : mx_H), mx_Ca (tB l D b0 ad Hb tau) (d + 4) 113 [.ref 1, xI 2] h (some (xI z), h') ∧ XH n s S Z' h' ∧ GI n S Z' ∧ fr' [(42, (-1))] Z Z' ∧ ((-6) ≤ z ∧ z ≤ 384) := by
  obtain ⟨r, hca, z, Z', h', e, q⟩ := Jmt (B := tB l D b0 ad Hb tau) (M := mt_113) (mi := 113) (as := [.ref 1, xI 2]) (d := d + 3) (ls := [some (.ref 1), some (xI 2)]) rfl rfl rfl rfl rfl rfl (cw_113_1_i2 (l := l) (D := D) (b0 := b0) (ad := ad) (Hb := Hb) (tau := tau) (d := d) (Post := fun r => ∃ (z : Int) (Z' : xZ) (h' : mx_H), r = (some (xI z), h') ∧ XH n s S Z' h' ∧ GI n S Z' ∧ fr' [(42, (-1))] Z Z' ∧ ((-6) ≤ z ∧ z ≤ 384)) hx hG  (fun z Z' h' q1 q2 q3 q4 => ⟨z, Z', h', rfl, q1, q2, q3, q4⟩))
  subst e; exact ⟨z, Z', h', hca, q⟩
set_option maxRecDepth 100000 in
theorem cw_113_1_i3 {l : Launch} {D : va_G} {b0 : Nat} {ad : Nat → Nat} {Hb : Heap} {tau : Nat → Int64} {d n s : Nat} {S : Nat → xS} {Z : xZ} {h : mx_H} {Post : mx_R → Prop} (hx : XH n s S Z h) (hG : GI n S Z)  (hP : ∀ (z : Int) (Z' : xZ) (h' : mx_H), XH n s S Z' h' → GI n S Z' → fr' [(42, (-1))] Z Z' → (-6) ≤ z ∧ z ≤ 384 → Post (some (xI z), h')) : mx_J (tB l D b0 ad Hb tau) mt_113 (d + 3) 0 [some (.ref 1), some (xI 3)] [] h Post := by
    have a1 : 1 < n := lt83 hG.1 rfl
    have s1 : S 1 = .inl (11, [2, 0, 0, 0, 2, 2, 2, 2, 2, 2, 2, 2, 2, 2, 2, 2, 2]) := hG.2.1 1 rfl
    refine mx_J.step (sn_113 0) (fun _ _ => rfl) ?_
    refine mx_J.step (sn_113 1) (fun _ _ => rfl) ?_
    obtain ⟨z1, Z1, h1, hc1, hx1, hG1, hf1, b1⟩ := ct_145_1_i3 (d := d + 0) (l := l) (D := D) (b0 := b0) (ad := ad) (Hb := Hb) (tau := tau) hx hG 
    refine Jcv hx (show mx_Sn _ _ 2 (mx_callv 145 2 11 5) from sn_113 2) a1 s1 hc1 rfl rfl rfl ?_
    exact mx_J.ret (sn_113 5) (fun _ _ => rfl) (hP z1 Z1 h1 hx1 hG1 (fr_tr (M := [(42, (-1))]) fr_rf (hf1) (M1 := []) rfl rfl) (by omega))
theorem ct_113_1_i3 {l : Launch} {D : va_G} {b0 : Nat} {ad : Nat → Nat} {Hb : Heap} {tau : Nat → Int64} {d n s : Nat} {S : Nat → xS} {Z : xZ} {h : mx_H} (hx : XH n s S Z h) (hG : GI n S Z)  : ∃ (z : Int) (Z' : xZ) (h' : mx_H), mx_Ca (tB l D b0 ad Hb tau) (d + 4) 113 [.ref 1, xI 3] h (some (xI z), h') ∧ XH n s S Z' h' ∧ GI n S Z' ∧ fr' [(42, (-1))] Z Z' ∧ ((-6) ≤ z ∧ z ≤ 384) := by
  obtain ⟨r, hca, z, Z', h', e, q⟩ := Jmt (B := tB l D b0 ad Hb tau) (M := mt_113) (mi := 113) (as := [.ref 1, xI 3]) (d := d + 3) (ls := [some (.ref 1), some (xI 3)]) rfl rfl rfl rfl rfl rfl (cw_113_1_i3 (l := l) (D := D) (b0 := b0) (ad := ad) (Hb := Hb) (tau := tau) (d := d) (Post := fun r => ∃ (z : Int) (Z' : xZ) (h' : mx_H), r = (some (xI z), h') ∧ XH n s S Z' h' ∧ GI n S Z' ∧ fr' [(42, (-1))] Z Z' ∧ ((-6) ≤ z ∧ z ≤ 384)) hx hG  (fun z Z' h' q1 q2 q3 q4 => ⟨z, Z', h', rfl, q1, q2, q3, q4⟩))
  subst e; exact ⟨z, Z', h', hca, q⟩
set_option maxRecDepth 100000 in
theorem cw_113_1_n {l : Launch} {D : va_G} {b0 : Nat} {ad : Nat → Nat} {Hb : Heap} {tau : Nat → Int64} {d n s : Nat} {S : Nat → xS} {Z : xZ} {h : mx_H} {Post : mx_R → Prop} (hx : XH n s S Z h) (hG : GI n S Z) {x0 : Int} (p0 : (-2147483648) ≤ x0 ∧ x0 ≤ (-1)) (hP : ∀ z : Int, (-2) ≤ z ∧ z ≤ (-2) → Post (some (xI z), h)) : mx_J (tB l D b0 ad Hb tau) mt_113 (d + 2) 0 [some (.ref 1), some (xI x0)] [] h Post := by
    have a1 : 1 < n := lt83 hG.1 rfl
    have s1 : S 1 = .inl (11, [2, 0, 0, 0, 2, 2, 2, 2, 2, 2, 2, 2, 2, 2, 2, 2, 2]) := hG.2.1 1 rfl
    refine mx_J.step (sn_113 0) (fun _ _ => rfl) ?_
    refine mx_J.step (sn_113 1) (fun _ _ => rfl) ?_
    obtain ⟨z1, hc1, b1⟩ := ct_145_1_n (d := d + 0) (l := l) (D := D) (b0 := b0) (ad := ad) (Hb := Hb) (tau := tau) hx hG (show (-2147483648) ≤ x0 ∧ x0 ≤ (-1) by omega)
    refine Jcv hx (show mx_Sn _ _ 2 (mx_callv 145 2 11 5) from sn_113 2) a1 s1 hc1 rfl rfl rfl ?_
    exact mx_J.ret (sn_113 5) (fun _ _ => rfl) (hP z1 (by omega))
theorem ct_113_1_n {l : Launch} {D : va_G} {b0 : Nat} {ad : Nat → Nat} {Hb : Heap} {tau : Nat → Int64} {d n s : Nat} {S : Nat → xS} {Z : xZ} {h : mx_H} (hx : XH n s S Z h) (hG : GI n S Z) {x0 : Int} (p0 : (-2147483648) ≤ x0 ∧ x0 ≤ (-1)) : ∃ z : Int, mx_Ca (tB l D b0 ad Hb tau) (d + 3) 113 [.ref 1, xI x0] h (some (xI z), h) ∧ ((-2) ≤ z ∧ z ≤ (-2)) := by
  obtain ⟨r, hca, z, e, hp⟩ := Jmt (B := tB l D b0 ad Hb tau) (M := mt_113) (mi := 113) (as := [.ref 1, xI x0]) (d := d + 2) (ls := [some (.ref 1), some (xI x0)]) rfl rfl rfl rfl rfl rfl (cw_113_1_n (l := l) (D := D) (b0 := b0) (ad := ad) (Hb := Hb) (tau := tau) (d := d) (Post := fun r => ∃ z : Int, r = (some (xI z), h) ∧ ((-2) ≤ z ∧ z ≤ (-2))) hx hG p0 (fun z hz => ⟨z, rfl, hz⟩))
  subst e; exact ⟨z, hca, hp⟩
set_option maxRecDepth 100000 in
theorem cw_113_1_p {l : Launch} {D : va_G} {b0 : Nat} {ad : Nat → Nat} {Hb : Heap} {tau : Nat → Int64} {d n s : Nat} {S : Nat → xS} {Z : xZ} {h : mx_H} {Post : mx_R → Prop} (hx : XH n s S Z h) (hG : GI n S Z) {x0 : Int} (p0 : 4 ≤ x0 ∧ x0 ≤ 2147483647) (hP : ∀ z : Int, (-2) ≤ z ∧ z ≤ (-2) → Post (some (xI z), h)) : mx_J (tB l D b0 ad Hb tau) mt_113 (d + 2) 0 [some (.ref 1), some (xI x0)] [] h Post := by
    have a1 : 1 < n := lt83 hG.1 rfl
    have s1 : S 1 = .inl (11, [2, 0, 0, 0, 2, 2, 2, 2, 2, 2, 2, 2, 2, 2, 2, 2, 2]) := hG.2.1 1 rfl
    refine mx_J.step (sn_113 0) (fun _ _ => rfl) ?_
    refine mx_J.step (sn_113 1) (fun _ _ => rfl) ?_
    obtain ⟨z1, hc1, b1⟩ := ct_145_1_p (d := d + 0) (l := l) (D := D) (b0 := b0) (ad := ad) (Hb := Hb) (tau := tau) hx hG (show 4 ≤ x0 ∧ x0 ≤ 2147483647 by omega)
    refine Jcv hx (show mx_Sn _ _ 2 (mx_callv 145 2 11 5) from sn_113 2) a1 s1 hc1 rfl rfl rfl ?_
    exact mx_J.ret (sn_113 5) (fun _ _ => rfl) (hP z1 (by omega))
theorem ct_113_1_p {l : Launch} {D : va_G} {b0 : Nat} {ad : Nat → Nat} {Hb : Heap} {tau : Nat → Int64} {d n s : Nat} {S : Nat → xS} {Z : xZ} {h : mx_H} (hx : XH n s S Z h) (hG : GI n S Z) {x0 : Int} (p0 : 4 ≤ x0 ∧ x0 ≤ 2147483647) : ∃ z : Int, mx_Ca (tB l D b0 ad Hb tau) (d + 3) 113 [.ref 1, xI x0] h (some (xI z), h) ∧ ((-2) ≤ z ∧ z ≤ (-2)) := by
  obtain ⟨r, hca, z, e, hp⟩ := Jmt (B := tB l D b0 ad Hb tau) (M := mt_113) (mi := 113) (as := [.ref 1, xI x0]) (d := d + 2) (ls := [some (.ref 1), some (xI x0)]) rfl rfl rfl rfl rfl rfl (cw_113_1_p (l := l) (D := D) (b0 := b0) (ad := ad) (Hb := Hb) (tau := tau) (d := d) (Post := fun r => ∃ z : Int, r = (some (xI z), h) ∧ ((-2) ≤ z ∧ z ≤ (-2))) hx hG p0 (fun z hz => ⟨z, rfl, hz⟩))
  subst e; exact ⟨z, hca, hp⟩
theorem ct_113_1 {l : Launch} {D : va_G} {b0 : Nat} {ad : Nat → Nat} {Hb : Heap} {tau : Nat → Int64} {d n s : Nat} {S : Nat → xS} {Z : xZ} {h : mx_H} (hx : XH n s S Z h) (hG : GI n S Z) {x0 : Int} (p0 : (-2147483648) ≤ x0 ∧ x0 ≤ 2147483647) : ∃ (z : Int) (Z' : xZ) (h' : mx_H), mx_Ca (tB l D b0 ad Hb tau) (d + 4) 113 [.ref 1, xI x0] h (some (xI z), h') ∧ XH n s S Z' h' ∧ GI n S Z' ∧ fr' [(42, (-1))] Z Z' ∧ ((-6) ≤ z ∧ z ≤ 384) := by
  have hc : x0 = 0 ∨ x0 = 1 ∨ x0 = 2 ∨ x0 = 3 ∨ ((-2147483648) ≤ x0 ∧ x0 ≤ (-1)) ∨ (4 ≤ x0 ∧ x0 ≤ 2147483647) := by omega
  rcases hc with hc | hc | hc | hc | hc | hc
  · subst hc
    obtain ⟨z, Z', h', hca, q1, q2, q3, b⟩ := ct_113_1_i0 (d := d + 0) (l := l) (D := D) (b0 := b0) (ad := ad) (Hb := Hb) (tau := tau) hx hG 
    exact ⟨z, Z', h', hca, q1, q2, fr_tr (M1 := []) fr_rf q3 rfl rfl, by omega⟩
  · subst hc
    obtain ⟨z, Z', h', hca, q1, q2, q3, b⟩ := ct_113_1_i1 (d := d + 0) (l := l) (D := D) (b0 := b0) (ad := ad) (Hb := Hb) (tau := tau) hx hG 
    exact ⟨z, Z', h', hca, q1, q2, fr_tr (M1 := []) fr_rf q3 rfl rfl, by omega⟩
  · subst hc
    obtain ⟨z, Z', h', hca, q1, q2, q3, b⟩ := ct_113_1_i2 (d := d + 0) (l := l) (D := D) (b0 := b0) (ad := ad) (Hb := Hb) (tau := tau) hx hG 
    exact ⟨z, Z', h', hca, q1, q2, fr_tr (M1 := []) fr_rf q3 rfl rfl, by omega⟩
  · subst hc
    obtain ⟨z, Z', h', hca, q1, q2, q3, b⟩ := ct_113_1_i3 (d := d + 0) (l := l) (D := D) (b0 := b0) (ad := ad) (Hb := Hb) (tau := tau) hx hG 
    exact ⟨z, Z', h', hca, q1, q2, fr_tr (M1 := []) fr_rf q3 rfl rfl, by omega⟩
  · skip
    obtain ⟨z, hca, b⟩ := ct_113_1_n (d := d + 1) (l := l) (D := D) (b0 := b0) (ad := ad) (Hb := Hb) (tau := tau) hx hG hc
    exact ⟨z, Z, h, hca, hx, hG, fr_rf, by omega⟩
  · skip
    obtain ⟨z, hca, b⟩ := ct_113_1_p (d := d + 1) (l := l) (D := D) (b0 := b0) (ad := ad) (Hb := Hb) (tau := tau) hx hG hc
    exact ⟨z, Z, h, hca, hx, hG, fr_rf, by omega⟩
set_option maxRecDepth 100000 in
theorem cw_116_1_i0 {l : Launch} {D : va_G} {b0 : Nat} {ad : Nat → Nat} {Hb : Heap} {tau : Nat → Int64} {d n s : Nat} {S : Nat → xS} {Z : xZ} {h : mx_H} {Post : mx_R → Prop} (hx : XH n s S Z h) (hG : GI n S Z)  (hP : ∀ (z : Int) (Z' : xZ) (h' : mx_H), XH n s S Z' h' → GI n S Z' → fr' [(42, (-1))] Z Z' → (-6) ≤ z ∧ z ≤ 1 → Post (some (xI z), h')) : mx_J (tB l D b0 ad Hb tau) mt_116 (d + 3) 0 [some (.ref 1), some (xI 0), none] [] h Post := by
    have a1 : 1 < n := lt83 hG.1 rfl
    have s1 : S 1 = .inl (11, [2, 0, 0, 0, 2, 2, 2, 2, 2, 2, 2, 2, 2, 2, 2, 2, 2]) := hG.2.1 1 rfl
    have a7 : 7 < n := lt83 hG.1 rfl
    have s7 : S 7 = .inl (0, [2, 2, 2, 2, 0, 0]) := hG.2.1 7 rfl
    have a36 : 36 < n := lt83 hG.1 rfl
    have s36 : S 36 = .inl (5, [2, 0, 0, 0, 0, 0]) := hG.2.1 36 rfl
    refine mx_J.step (sn_116 0) (fun _ _ => rfl) ?_
    refine mx_J.step (sn_116 1) (fun _ _ => rfl) ?_
    obtain ⟨z1, Z1, h1, hc1, hx1, hG1, hf1, b1⟩ := ct_145_1_i0 (d := d + 0) (l := l) (D := D) (b0 := b0) (ad := ad) (Hb := Hb) (tau := tau) hx hG 
    refine Jcv hx (show mx_Sn _ _ 2 (mx_callv 145 2 11 5) from sn_116 2) a1 s1 hc1 rfl rfl rfl ?_
    refine mx_J.step (ls2 := [some (.ref 1), some (xI 0), some (xI z1)]) (sn_116 5) (fun _ _ => rfl) ?_
    refine mx_J.step (sn_116 6) (fun _ _ => rfl) ?_
    refine Jif_ge (show mx_Sn _ _ 7 (mx_if_ge 12 10) from sn_116 7) (by omega) (fun q2 => ?_) (fun q2 => ?_)
    · skip
      refine mx_J.step (sn_116 12) (fun _ _ => rfl) ?_
      refine JgetR (g := 5) (b := 7) hx1 (show mx_Sn _ _ 13 (mx_getf 11 5 16) from sn_116 13) a1 s1 rfl rfl (hG1.prr 1 5 rfl) ?_
      refine mx_J.step (sn_116 16) (fun _ _ => rfl) ?_
      refine JgetR (g := 12) (b := 36) hx1 (show mx_Sn _ _ 17 (mx_getf 11 12 20) from sn_116 17) a1 s1 rfl rfl (hG1.prr 1 12 rfl) ?_
      have b3 : 0 ≤ Z 36 2 ∧ Z 36 2 ≤ 384 := hG.pr 36 2
      refine JgetI (g := 2) (z := Z 36 2) hx1 (show mx_Sn _ _ 20 (mx_getf 5 2 23) from sn_116 20) a36 s36 rfl rfl (hf1 36 2 rfl) ?_
      refine mx_J.step (sn_116 23) (fun _ _ => rfl) ?_
      obtain ⟨z4, hc4, b4⟩ := ct_10_7 (d := d + 0) (l := l) (D := D) (b0 := b0) (ad := ad) (Hb := Hb) (tau := tau) hx1 hG1 (show (-2147483648) ≤ Z 36 2 ∧ Z 36 2 ≤ 2147483647 by omega) (show (-2147483648) ≤ z1 ∧ z1 ≤ 2147483647 by omega)
      refine Jcv hx1 (show mx_Sn _ _ 24 (mx_callv 10 3 0 27) from sn_116 24) a7 s7 hc4 rfl rfl rfl ?_
      have c35 : ∀ (k5_0 : Int), 0 ≤ k5_0 ∧ k5_0 ≤ 1 → mx_J (tB l D b0 ad Hb tau) mt_116 (d + 3) 35 [some (.ref 1), some (xI 0), some (xI z1)] [xI k5_0] h1 Post := by
        intro k5_0 f5_0
        exact mx_J.ret (sn_116 35) (fun _ _ => rfl) (hP k5_0 Z1 h1 hx1 hG1 (fr_tr (M := [(42, (-1))]) fr_rf (hf1) (M1 := []) rfl rfl) (by omega))
      refine Jif_eq (show mx_Sn _ _ 27 (mx_if_eq 34 30) from sn_116 27) (by omega) (fun q6 => ?_) (fun q6 => ?_)
      · skip
        refine JcI (z := 0) (show mx_Sn _ _ 34 (mx_const (.int 0) 35) from sn_116 34) rfl ?_
        exact c35 0 (by omega)
      · skip
        refine JcI (z := 1) (show mx_Sn _ _ 30 (mx_const (.int 1) 31) from sn_116 30) rfl ?_
        refine mx_J.step (sn_116 31) (fun _ _ => rfl) ?_
        exact c35 1 (by omega)
    · skip
      refine mx_J.step (sn_116 10) (fun _ _ => rfl) ?_
      exact mx_J.ret (sn_116 11) (fun _ _ => rfl) (hP z1 Z1 h1 hx1 hG1 (fr_tr (M := [(42, (-1))]) fr_rf (hf1) (M1 := []) rfl rfl) (by omega))
theorem ct_116_1_i0 {l : Launch} {D : va_G} {b0 : Nat} {ad : Nat → Nat} {Hb : Heap} {tau : Nat → Int64} {d n s : Nat} {S : Nat → xS} {Z : xZ} {h : mx_H} (hx : XH n s S Z h) (hG : GI n S Z)  : ∃ (z : Int) (Z' : xZ) (h' : mx_H), mx_Ca (tB l D b0 ad Hb tau) (d + 4) 116 [.ref 1, xI 0] h (some (xI z), h') ∧ XH n s S Z' h' ∧ GI n S Z' ∧ fr' [(42, (-1))] Z Z' ∧ ((-6) ≤ z ∧ z ≤ 1) := by
  obtain ⟨r, hca, z, Z', h', e, q⟩ := Jmt (B := tB l D b0 ad Hb tau) (M := mt_116) (mi := 116) (as := [.ref 1, xI 0]) (d := d + 3) (ls := [some (.ref 1), some (xI 0), none]) rfl rfl rfl rfl rfl rfl (cw_116_1_i0 (l := l) (D := D) (b0 := b0) (ad := ad) (Hb := Hb) (tau := tau) (d := d) (Post := fun r => ∃ (z : Int) (Z' : xZ) (h' : mx_H), r = (some (xI z), h') ∧ XH n s S Z' h' ∧ GI n S Z' ∧ fr' [(42, (-1))] Z Z' ∧ ((-6) ≤ z ∧ z ≤ 1)) hx hG  (fun z Z' h' q1 q2 q3 q4 => ⟨z, Z', h', rfl, q1, q2, q3, q4⟩))
  subst e; exact ⟨z, Z', h', hca, q⟩
set_option maxRecDepth 100000 in
theorem cw_116_1_i1 {l : Launch} {D : va_G} {b0 : Nat} {ad : Nat → Nat} {Hb : Heap} {tau : Nat → Int64} {d n s : Nat} {S : Nat → xS} {Z : xZ} {h : mx_H} {Post : mx_R → Prop} (hx : XH n s S Z h) (hG : GI n S Z)  (hP : ∀ (z : Int) (Z' : xZ) (h' : mx_H), XH n s S Z' h' → GI n S Z' → fr' [(42, (-1))] Z Z' → (-6) ≤ z ∧ z ≤ 1 → Post (some (xI z), h')) : mx_J (tB l D b0 ad Hb tau) mt_116 (d + 3) 0 [some (.ref 1), some (xI 1), none] [] h Post := by
    have a1 : 1 < n := lt83 hG.1 rfl
    have s1 : S 1 = .inl (11, [2, 0, 0, 0, 2, 2, 2, 2, 2, 2, 2, 2, 2, 2, 2, 2, 2]) := hG.2.1 1 rfl
    have a7 : 7 < n := lt83 hG.1 rfl
    have s7 : S 7 = .inl (0, [2, 2, 2, 2, 0, 0]) := hG.2.1 7 rfl
    have a36 : 36 < n := lt83 hG.1 rfl
    have s36 : S 36 = .inl (5, [2, 0, 0, 0, 0, 0]) := hG.2.1 36 rfl
    refine mx_J.step (sn_116 0) (fun _ _ => rfl) ?_
    refine mx_J.step (sn_116 1) (fun _ _ => rfl) ?_
    obtain ⟨z1, Z1, h1, hc1, hx1, hG1, hf1, b1⟩ := ct_145_1_i1 (d := d + 0) (l := l) (D := D) (b0 := b0) (ad := ad) (Hb := Hb) (tau := tau) hx hG 
    refine Jcv hx (show mx_Sn _ _ 2 (mx_callv 145 2 11 5) from sn_116 2) a1 s1 hc1 rfl rfl rfl ?_
    refine mx_J.step (ls2 := [some (.ref 1), some (xI 1), some (xI z1)]) (sn_116 5) (fun _ _ => rfl) ?_
    refine mx_J.step (sn_116 6) (fun _ _ => rfl) ?_
    refine Jif_ge (show mx_Sn _ _ 7 (mx_if_ge 12 10) from sn_116 7) (by omega) (fun q2 => ?_) (fun q2 => ?_)
    · skip
      refine mx_J.step (sn_116 12) (fun _ _ => rfl) ?_
      refine JgetR (g := 5) (b := 7) hx1 (show mx_Sn _ _ 13 (mx_getf 11 5 16) from sn_116 13) a1 s1 rfl rfl (hG1.prr 1 5 rfl) ?_
      refine mx_J.step (sn_116 16) (fun _ _ => rfl) ?_
      refine JgetR (g := 12) (b := 36) hx1 (show mx_Sn _ _ 17 (mx_getf 11 12 20) from sn_116 17) a1 s1 rfl rfl (hG1.prr 1 12 rfl) ?_
      have b3 : 0 ≤ Z 36 2 ∧ Z 36 2 ≤ 384 := hG.pr 36 2
      refine JgetI (g := 2) (z := Z 36 2) hx1 (show mx_Sn _ _ 20 (mx_getf 5 2 23) from sn_116 20) a36 s36 rfl rfl (hf1 36 2 rfl) ?_
      refine mx_J.step (sn_116 23) (fun _ _ => rfl) ?_
      obtain ⟨z4, hc4, b4⟩ := ct_10_7 (d := d + 0) (l := l) (D := D) (b0 := b0) (ad := ad) (Hb := Hb) (tau := tau) hx1 hG1 (show (-2147483648) ≤ Z 36 2 ∧ Z 36 2 ≤ 2147483647 by omega) (show (-2147483648) ≤ z1 ∧ z1 ≤ 2147483647 by omega)
      refine Jcv hx1 (show mx_Sn _ _ 24 (mx_callv 10 3 0 27) from sn_116 24) a7 s7 hc4 rfl rfl rfl ?_
      have c35 : ∀ (k5_0 : Int), 0 ≤ k5_0 ∧ k5_0 ≤ 1 → mx_J (tB l D b0 ad Hb tau) mt_116 (d + 3) 35 [some (.ref 1), some (xI 1), some (xI z1)] [xI k5_0] h1 Post := by
        intro k5_0 f5_0
        exact mx_J.ret (sn_116 35) (fun _ _ => rfl) (hP k5_0 Z1 h1 hx1 hG1 (fr_tr (M := [(42, (-1))]) fr_rf (hf1) (M1 := []) rfl rfl) (by omega))
      refine Jif_eq (show mx_Sn _ _ 27 (mx_if_eq 34 30) from sn_116 27) (by omega) (fun q6 => ?_) (fun q6 => ?_)
      · skip
        refine JcI (z := 0) (show mx_Sn _ _ 34 (mx_const (.int 0) 35) from sn_116 34) rfl ?_
        exact c35 0 (by omega)
      · skip
        refine JcI (z := 1) (show mx_Sn _ _ 30 (mx_const (.int 1) 31) from sn_116 30) rfl ?_
        refine mx_J.step (sn_116 31) (fun _ _ => rfl) ?_
        exact c35 1 (by omega)
    · skip
      refine mx_J.step (sn_116 10) (fun _ _ => rfl) ?_
      exact mx_J.ret (sn_116 11) (fun _ _ => rfl) (hP z1 Z1 h1 hx1 hG1 (fr_tr (M := [(42, (-1))]) fr_rf (hf1) (M1 := []) rfl rfl) (by omega))
theorem ct_116_1_i1 {l : Launch} {D : va_G} {b0 : Nat} {ad : Nat → Nat} {Hb : Heap} {tau : Nat → Int64} {d n s : Nat} {S : Nat → xS} {Z : xZ} {h : mx_H} (hx : XH n s S Z h) (hG : GI n S Z)  : ∃ (z : Int) (Z' : xZ) (h' : mx_H), mx_Ca (tB l D b0 ad Hb tau) (d + 4) 116 [.ref 1, xI 1] h (some (xI z), h') ∧ XH n s S Z' h' ∧ GI n S Z' ∧ fr' [(42, (-1))] Z Z' ∧ ((-6) ≤ z ∧ z ≤ 1) := by
  obtain ⟨r, hca, z, Z', h', e, q⟩ := Jmt (B := tB l D b0 ad Hb tau) (M := mt_116) (mi := 116) (as := [.ref 1, xI 1]) (d := d + 3) (ls := [some (.ref 1), some (xI 1), none]) rfl rfl rfl rfl rfl rfl (cw_116_1_i1 (l := l) (D := D) (b0 := b0) (ad := ad) (Hb := Hb) (tau := tau) (d := d) (Post := fun r => ∃ (z : Int) (Z' : xZ) (h' : mx_H), r = (some (xI z), h') ∧ XH n s S Z' h' ∧ GI n S Z' ∧ fr' [(42, (-1))] Z Z' ∧ ((-6) ≤ z ∧ z ≤ 1)) hx hG  (fun z Z' h' q1 q2 q3 q4 => ⟨z, Z', h', rfl, q1, q2, q3, q4⟩))
  subst e; exact ⟨z, Z', h', hca, q⟩
set_option maxRecDepth 100000 in
theorem cw_116_1_i2 {l : Launch} {D : va_G} {b0 : Nat} {ad : Nat → Nat} {Hb : Heap} {tau : Nat → Int64} {d n s : Nat} {S : Nat → xS} {Z : xZ} {h : mx_H} {Post : mx_R → Prop} (hx : XH n s S Z h) (hG : GI n S Z)  (hP : ∀ (z : Int) (Z' : xZ) (h' : mx_H), XH n s S Z' h' → GI n S Z' → fr' [(42, (-1))] Z Z' → (-6) ≤ z ∧ z ≤ 1 → Post (some (xI z), h')) : mx_J (tB l D b0 ad Hb tau) mt_116 (d + 3) 0 [some (.ref 1), some (xI 2), none] [] h Post := by
    have a1 : 1 < n := lt83 hG.1 rfl
    have s1 : S 1 = .inl (11, [2, 0, 0, 0, 2, 2, 2, 2, 2, 2, 2, 2, 2, 2, 2, 2, 2]) := hG.2.1 1 rfl
    have a7 : 7 < n := lt83 hG.1 rfl
    have s7 : S 7 = .inl (0, [2, 2, 2, 2, 0, 0]) := hG.2.1 7 rfl
    have a36 : 36 < n := lt83 hG.1 rfl
    have s36 : S 36 = .inl (5, [2, 0, 0, 0, 0, 0]) := hG.2.1 36 rfl
    refine mx_J.step (sn_116 0) (fun _ _ => rfl) ?_
    refine mx_J.step (sn_116 1) (fun _ _ => rfl) ?_
    obtain ⟨z1, Z1, h1, hc1, hx1, hG1, hf1, b1⟩ := ct_145_1_i2 (d := d + 0) (l := l) (D := D) (b0 := b0) (ad := ad) (Hb := Hb) (tau := tau) hx hG 
    refine Jcv hx (show mx_Sn _ _ 2 (mx_callv 145 2 11 5) from sn_116 2) a1 s1 hc1 rfl rfl rfl ?_
    refine mx_J.step (ls2 := [some (.ref 1), some (xI 2), some (xI z1)]) (sn_116 5) (fun _ _ => rfl) ?_
    refine mx_J.step (sn_116 6) (fun _ _ => rfl) ?_
    refine Jif_ge (show mx_Sn _ _ 7 (mx_if_ge 12 10) from sn_116 7) (by omega) (fun q2 => ?_) (fun q2 => ?_)
    · skip
      refine mx_J.step (sn_116 12) (fun _ _ => rfl) ?_
      refine JgetR (g := 5) (b := 7) hx1 (show mx_Sn _ _ 13 (mx_getf 11 5 16) from sn_116 13) a1 s1 rfl rfl (hG1.prr 1 5 rfl) ?_
      refine mx_J.step (sn_116 16) (fun _ _ => rfl) ?_
      refine JgetR (g := 12) (b := 36) hx1 (show mx_Sn _ _ 17 (mx_getf 11 12 20) from sn_116 17) a1 s1 rfl rfl (hG1.prr 1 12 rfl) ?_
      have b3 : 0 ≤ Z 36 2 ∧ Z 36 2 ≤ 384 := hG.pr 36 2
      refine JgetI (g := 2) (z := Z 36 2) hx1 (show mx_Sn _ _ 20 (mx_getf 5 2 23) from sn_116 20) a36 s36 rfl rfl (hf1 36 2 rfl) ?_
      refine mx_J.step (sn_116 23) (fun _ _ => rfl) ?_
      obtain ⟨z4, hc4, b4⟩ := ct_10_7 (d := d + 0) (l := l) (D := D) (b0 := b0) (ad := ad) (Hb := Hb) (tau := tau) hx1 hG1 (show (-2147483648) ≤ Z 36 2 ∧ Z 36 2 ≤ 2147483647 by omega) (show (-2147483648) ≤ z1 ∧ z1 ≤ 2147483647 by omega)
      refine Jcv hx1 (show mx_Sn _ _ 24 (mx_callv 10 3 0 27) from sn_116 24) a7 s7 hc4 rfl rfl rfl ?_
      have c35 : ∀ (k5_0 : Int), 0 ≤ k5_0 ∧ k5_0 ≤ 1 → mx_J (tB l D b0 ad Hb tau) mt_116 (d + 3) 35 [some (.ref 1), some (xI 2), some (xI z1)] [xI k5_0] h1 Post := by
        intro k5_0 f5_0
        exact mx_J.ret (sn_116 35) (fun _ _ => rfl) (hP k5_0 Z1 h1 hx1 hG1 (fr_tr (M := [(42, (-1))]) fr_rf (hf1) (M1 := []) rfl rfl) (by omega))
      refine Jif_eq (show mx_Sn _ _ 27 (mx_if_eq 34 30) from sn_116 27) (by omega) (fun q6 => ?_) (fun q6 => ?_)
      · skip
        refine JcI (z := 0) (show mx_Sn _ _ 34 (mx_const (.int 0) 35) from sn_116 34) rfl ?_
        exact c35 0 (by omega)
      · skip
        refine JcI (z := 1) (show mx_Sn _ _ 30 (mx_const (.int 1) 31) from sn_116 30) rfl ?_
        refine mx_J.step (sn_116 31) (fun _ _ => rfl) ?_
        exact c35 1 (by omega)
    · skip
      refine mx_J.step (sn_116 10) (fun _ _ => rfl) ?_
      exact mx_J.ret (sn_116 11) (fun _ _ => rfl) (hP z1 Z1 h1 hx1 hG1 (fr_tr (M := [(42, (-1))]) fr_rf (hf1) (M1 := []) rfl rfl) (by omega))
theorem ct_116_1_i2 {l : Launch} {D : va_G} {b0 : Nat} {ad : Nat → Nat} {Hb : Heap} {tau : Nat → Int64} {d n s : Nat} {S : Nat → xS} {Z : xZ} {h : mx_H} (hx : XH n s S Z h) (hG : GI n S Z)  : ∃ (z : Int) (Z' : xZ) (h' : mx_H), mx_Ca (tB l D b0 ad Hb tau) (d + 4) 116 [.ref 1, xI 2] h (some (xI z), h') ∧ XH n s S Z' h' ∧ GI n S Z' ∧ fr' [(42, (-1))] Z Z' ∧ ((-6) ≤ z ∧ z ≤ 1) := by
  obtain ⟨r, hca, z, Z', h', e, q⟩ := Jmt (B := tB l D b0 ad Hb tau) (M := mt_116) (mi := 116) (as := [.ref 1, xI 2]) (d := d + 3) (ls := [some (.ref 1), some (xI 2), none]) rfl rfl rfl rfl rfl rfl (cw_116_1_i2 (l := l) (D := D) (b0 := b0) (ad := ad) (Hb := Hb) (tau := tau) (d := d) (Post := fun r => ∃ (z : Int) (Z' : xZ) (h' : mx_H), r = (some (xI z), h') ∧ XH n s S Z' h' ∧ GI n S Z' ∧ fr' [(42, (-1))] Z Z' ∧ ((-6) ≤ z ∧ z ≤ 1)) hx hG  (fun z Z' h' q1 q2 q3 q4 => ⟨z, Z', h', rfl, q1, q2, q3, q4⟩))
  subst e; exact ⟨z, Z', h', hca, q⟩
set_option maxRecDepth 100000 in
theorem cw_116_1_i3 {l : Launch} {D : va_G} {b0 : Nat} {ad : Nat → Nat} {Hb : Heap} {tau : Nat → Int64} {d n s : Nat} {S : Nat → xS} {Z : xZ} {h : mx_H} {Post : mx_R → Prop} (hx : XH n s S Z h) (hG : GI n S Z)  (hP : ∀ (z : Int) (Z' : xZ) (h' : mx_H), XH n s S Z' h' → GI n S Z' → fr' [(42, (-1))] Z Z' → (-6) ≤ z ∧ z ≤ 1 → Post (some (xI z), h')) : mx_J (tB l D b0 ad Hb tau) mt_116 (d + 3) 0 [some (.ref 1), some (xI 3), none] [] h Post := by
    have a1 : 1 < n := lt83 hG.1 rfl
    have s1 : S 1 = .inl (11, [2, 0, 0, 0, 2, 2, 2, 2, 2, 2, 2, 2, 2, 2, 2, 2, 2]) := hG.2.1 1 rfl
    have a7 : 7 < n := lt83 hG.1 rfl
    have s7 : S 7 = .inl (0, [2, 2, 2, 2, 0, 0]) := hG.2.1 7 rfl
    have a36 : 36 < n := lt83 hG.1 rfl
    have s36 : S 36 = .inl (5, [2, 0, 0, 0, 0, 0]) := hG.2.1 36 rfl
    refine mx_J.step (sn_116 0) (fun _ _ => rfl) ?_
    refine mx_J.step (sn_116 1) (fun _ _ => rfl) ?_
    obtain ⟨z1, Z1, h1, hc1, hx1, hG1, hf1, b1⟩ := ct_145_1_i3 (d := d + 0) (l := l) (D := D) (b0 := b0) (ad := ad) (Hb := Hb) (tau := tau) hx hG 
    refine Jcv hx (show mx_Sn _ _ 2 (mx_callv 145 2 11 5) from sn_116 2) a1 s1 hc1 rfl rfl rfl ?_
    refine mx_J.step (ls2 := [some (.ref 1), some (xI 3), some (xI z1)]) (sn_116 5) (fun _ _ => rfl) ?_
    refine mx_J.step (sn_116 6) (fun _ _ => rfl) ?_
    refine Jif_ge (show mx_Sn _ _ 7 (mx_if_ge 12 10) from sn_116 7) (by omega) (fun q2 => ?_) (fun q2 => ?_)
    · skip
      refine mx_J.step (sn_116 12) (fun _ _ => rfl) ?_
      refine JgetR (g := 5) (b := 7) hx1 (show mx_Sn _ _ 13 (mx_getf 11 5 16) from sn_116 13) a1 s1 rfl rfl (hG1.prr 1 5 rfl) ?_
      refine mx_J.step (sn_116 16) (fun _ _ => rfl) ?_
      refine JgetR (g := 12) (b := 36) hx1 (show mx_Sn _ _ 17 (mx_getf 11 12 20) from sn_116 17) a1 s1 rfl rfl (hG1.prr 1 12 rfl) ?_
      have b3 : 0 ≤ Z 36 2 ∧ Z 36 2 ≤ 384 := hG.pr 36 2
      refine JgetI (g := 2) (z := Z 36 2) hx1 (show mx_Sn _ _ 20 (mx_getf 5 2 23) from sn_116 20) a36 s36 rfl rfl (hf1 36 2 rfl) ?_
      refine mx_J.step (sn_116 23) (fun _ _ => rfl) ?_
      obtain ⟨z4, hc4, b4⟩ := ct_10_7 (d := d + 0) (l := l) (D := D) (b0 := b0) (ad := ad) (Hb := Hb) (tau := tau) hx1 hG1 (show (-2147483648) ≤ Z 36 2 ∧ Z 36 2 ≤ 2147483647 by omega) (show (-2147483648) ≤ z1 ∧ z1 ≤ 2147483647 by omega)
      refine Jcv hx1 (show mx_Sn _ _ 24 (mx_callv 10 3 0 27) from sn_116 24) a7 s7 hc4 rfl rfl rfl ?_
      have c35 : ∀ (k5_0 : Int), 0 ≤ k5_0 ∧ k5_0 ≤ 1 → mx_J (tB l D b0 ad Hb tau) mt_116 (d + 3) 35 [some (.ref 1), some (xI 3), some (xI z1)] [xI k5_0] h1 Post := by
        intro k5_0 f5_0
        exact mx_J.ret (sn_116 35) (fun _ _ => rfl) (hP k5_0 Z1 h1 hx1 hG1 (fr_tr (M := [(42, (-1))]) fr_rf (hf1) (M1 := []) rfl rfl) (by omega))
      refine Jif_eq (show mx_Sn _ _ 27 (mx_if_eq 34 30) from sn_116 27) (by omega) (fun q6 => ?_) (fun q6 => ?_)
      · skip
        refine JcI (z := 0) (show mx_Sn _ _ 34 (mx_const (.int 0) 35) from sn_116 34) rfl ?_
        exact c35 0 (by omega)
      · skip
        refine JcI (z := 1) (show mx_Sn _ _ 30 (mx_const (.int 1) 31) from sn_116 30) rfl ?_
        refine mx_J.step (sn_116 31) (fun _ _ => rfl) ?_
        exact c35 1 (by omega)
    · skip
      refine mx_J.step (sn_116 10) (fun _ _ => rfl) ?_
      exact mx_J.ret (sn_116 11) (fun _ _ => rfl) (hP z1 Z1 h1 hx1 hG1 (fr_tr (M := [(42, (-1))]) fr_rf (hf1) (M1 := []) rfl rfl) (by omega))
theorem ct_116_1_i3 {l : Launch} {D : va_G} {b0 : Nat} {ad : Nat → Nat} {Hb : Heap} {tau : Nat → Int64} {d n s : Nat} {S : Nat → xS} {Z : xZ} {h : mx_H} (hx : XH n s S Z h) (hG : GI n S Z)  : ∃ (z : Int) (Z' : xZ) (h' : mx_H), mx_Ca (tB l D b0 ad Hb tau) (d + 4) 116 [.ref 1, xI 3] h (some (xI z), h') ∧ XH n s S Z' h' ∧ GI n S Z' ∧ fr' [(42, (-1))] Z Z' ∧ ((-6) ≤ z ∧ z ≤ 1) := by
  obtain ⟨r, hca, z, Z', h', e, q⟩ := Jmt (B := tB l D b0 ad Hb tau) (M := mt_116) (mi := 116) (as := [.ref 1, xI 3]) (d := d + 3) (ls := [some (.ref 1), some (xI 3), none]) rfl rfl rfl rfl rfl rfl (cw_116_1_i3 (l := l) (D := D) (b0 := b0) (ad := ad) (Hb := Hb) (tau := tau) (d := d) (Post := fun r => ∃ (z : Int) (Z' : xZ) (h' : mx_H), r = (some (xI z), h') ∧ XH n s S Z' h' ∧ GI n S Z' ∧ fr' [(42, (-1))] Z Z' ∧ ((-6) ≤ z ∧ z ≤ 1)) hx hG  (fun z Z' h' q1 q2 q3 q4 => ⟨z, Z', h', rfl, q1, q2, q3, q4⟩))
  subst e; exact ⟨z, Z', h', hca, q⟩
set_option maxRecDepth 100000 in
theorem cw_116_1_n {l : Launch} {D : va_G} {b0 : Nat} {ad : Nat → Nat} {Hb : Heap} {tau : Nat → Int64} {d n s : Nat} {S : Nat → xS} {Z : xZ} {h : mx_H} {Post : mx_R → Prop} (hx : XH n s S Z h) (hG : GI n S Z) {x0 : Int} (p0 : (-2147483648) ≤ x0 ∧ x0 ≤ (-1)) (hP : ∀ z : Int, (-2) ≤ z ∧ z ≤ (-2) → Post (some (xI z), h)) : mx_J (tB l D b0 ad Hb tau) mt_116 (d + 2) 0 [some (.ref 1), some (xI x0), none] [] h Post := by
    have a1 : 1 < n := lt83 hG.1 rfl
    have s1 : S 1 = .inl (11, [2, 0, 0, 0, 2, 2, 2, 2, 2, 2, 2, 2, 2, 2, 2, 2, 2]) := hG.2.1 1 rfl
    refine mx_J.step (sn_116 0) (fun _ _ => rfl) ?_
    refine mx_J.step (sn_116 1) (fun _ _ => rfl) ?_
    obtain ⟨z1, hc1, b1⟩ := ct_145_1_n (d := d + 0) (l := l) (D := D) (b0 := b0) (ad := ad) (Hb := Hb) (tau := tau) hx hG (show (-2147483648) ≤ x0 ∧ x0 ≤ (-1) by omega)
    refine Jcv hx (show mx_Sn _ _ 2 (mx_callv 145 2 11 5) from sn_116 2) a1 s1 hc1 rfl rfl rfl ?_
    refine mx_J.step (ls2 := [some (.ref 1), some (xI x0), some (xI z1)]) (sn_116 5) (fun _ _ => rfl) ?_
    refine mx_J.step (sn_116 6) (fun _ _ => rfl) ?_
    refine Jif_ge (show mx_Sn _ _ 7 (mx_if_ge 12 10) from sn_116 7) (by omega) (fun q2 => ?_) (fun q2 => ?_)
    · skip
      exfalso; omega
    · skip
      refine mx_J.step (sn_116 10) (fun _ _ => rfl) ?_
      exact mx_J.ret (sn_116 11) (fun _ _ => rfl) (hP z1 (by omega))
theorem ct_116_1_n {l : Launch} {D : va_G} {b0 : Nat} {ad : Nat → Nat} {Hb : Heap} {tau : Nat → Int64} {d n s : Nat} {S : Nat → xS} {Z : xZ} {h : mx_H} (hx : XH n s S Z h) (hG : GI n S Z) {x0 : Int} (p0 : (-2147483648) ≤ x0 ∧ x0 ≤ (-1)) : ∃ z : Int, mx_Ca (tB l D b0 ad Hb tau) (d + 3) 116 [.ref 1, xI x0] h (some (xI z), h) ∧ ((-2) ≤ z ∧ z ≤ (-2)) := by
  obtain ⟨r, hca, z, e, hp⟩ := Jmt (B := tB l D b0 ad Hb tau) (M := mt_116) (mi := 116) (as := [.ref 1, xI x0]) (d := d + 2) (ls := [some (.ref 1), some (xI x0), none]) rfl rfl rfl rfl rfl rfl (cw_116_1_n (l := l) (D := D) (b0 := b0) (ad := ad) (Hb := Hb) (tau := tau) (d := d) (Post := fun r => ∃ z : Int, r = (some (xI z), h) ∧ ((-2) ≤ z ∧ z ≤ (-2))) hx hG p0 (fun z hz => ⟨z, rfl, hz⟩))
  subst e; exact ⟨z, hca, hp⟩
set_option maxRecDepth 100000 in
theorem cw_116_1_p {l : Launch} {D : va_G} {b0 : Nat} {ad : Nat → Nat} {Hb : Heap} {tau : Nat → Int64} {d n s : Nat} {S : Nat → xS} {Z : xZ} {h : mx_H} {Post : mx_R → Prop} (hx : XH n s S Z h) (hG : GI n S Z) {x0 : Int} (p0 : 4 ≤ x0 ∧ x0 ≤ 2147483647) (hP : ∀ z : Int, (-2) ≤ z ∧ z ≤ (-2) → Post (some (xI z), h)) : mx_J (tB l D b0 ad Hb tau) mt_116 (d + 2) 0 [some (.ref 1), some (xI x0), none] [] h Post := by
    have a1 : 1 < n := lt83 hG.1 rfl
    have s1 : S 1 = .inl (11, [2, 0, 0, 0, 2, 2, 2, 2, 2, 2, 2, 2, 2, 2, 2, 2, 2]) := hG.2.1 1 rfl
    refine mx_J.step (sn_116 0) (fun _ _ => rfl) ?_
    refine mx_J.step (sn_116 1) (fun _ _ => rfl) ?_
    obtain ⟨z1, hc1, b1⟩ := ct_145_1_p (d := d + 0) (l := l) (D := D) (b0 := b0) (ad := ad) (Hb := Hb) (tau := tau) hx hG (show 4 ≤ x0 ∧ x0 ≤ 2147483647 by omega)
    refine Jcv hx (show mx_Sn _ _ 2 (mx_callv 145 2 11 5) from sn_116 2) a1 s1 hc1 rfl rfl rfl ?_
    refine mx_J.step (ls2 := [some (.ref 1), some (xI x0), some (xI z1)]) (sn_116 5) (fun _ _ => rfl) ?_
    refine mx_J.step (sn_116 6) (fun _ _ => rfl) ?_
    refine Jif_ge (show mx_Sn _ _ 7 (mx_if_ge 12 10) from sn_116 7) (by omega) (fun q2 => ?_) (fun q2 => ?_)
    · skip
      exfalso; omega
    · skip
      refine mx_J.step (sn_116 10) (fun _ _ => rfl) ?_
      exact mx_J.ret (sn_116 11) (fun _ _ => rfl) (hP z1 (by omega))
theorem ct_116_1_p {l : Launch} {D : va_G} {b0 : Nat} {ad : Nat → Nat} {Hb : Heap} {tau : Nat → Int64} {d n s : Nat} {S : Nat → xS} {Z : xZ} {h : mx_H} (hx : XH n s S Z h) (hG : GI n S Z) {x0 : Int} (p0 : 4 ≤ x0 ∧ x0 ≤ 2147483647) : ∃ z : Int, mx_Ca (tB l D b0 ad Hb tau) (d + 3) 116 [.ref 1, xI x0] h (some (xI z), h) ∧ ((-2) ≤ z ∧ z ≤ (-2)) := by
  obtain ⟨r, hca, z, e, hp⟩ := Jmt (B := tB l D b0 ad Hb tau) (M := mt_116) (mi := 116) (as := [.ref 1, xI x0]) (d := d + 2) (ls := [some (.ref 1), some (xI x0), none]) rfl rfl rfl rfl rfl rfl (cw_116_1_p (l := l) (D := D) (b0 := b0) (ad := ad) (Hb := Hb) (tau := tau) (d := d) (Post := fun r => ∃ z : Int, r = (some (xI z), h) ∧ ((-2) ≤ z ∧ z ≤ (-2))) hx hG p0 (fun z hz => ⟨z, rfl, hz⟩))
  subst e; exact ⟨z, hca, hp⟩
theorem ct_116_1 {l : Launch} {D : va_G} {b0 : Nat} {ad : Nat → Nat} {Hb : Heap} {tau : Nat → Int64} {d n s : Nat} {S : Nat → xS} {Z : xZ} {h : mx_H} (hx : XH n s S Z h) (hG : GI n S Z) {x0 : Int} (p0 : (-2147483648) ≤ x0 ∧ x0 ≤ 2147483647) : ∃ (z : Int) (Z' : xZ) (h' : mx_H), mx_Ca (tB l D b0 ad Hb tau) (d + 4) 116 [.ref 1, xI x0] h (some (xI z), h') ∧ XH n s S Z' h' ∧ GI n S Z' ∧ fr' [(42, (-1))] Z Z' ∧ ((-6) ≤ z ∧ z ≤ 1) := by
  have hc : x0 = 0 ∨ x0 = 1 ∨ x0 = 2 ∨ x0 = 3 ∨ ((-2147483648) ≤ x0 ∧ x0 ≤ (-1)) ∨ (4 ≤ x0 ∧ x0 ≤ 2147483647) := by omega
  rcases hc with hc | hc | hc | hc | hc | hc
  · subst hc
    obtain ⟨z, Z', h', hca, q1, q2, q3, b⟩ := ct_116_1_i0 (d := d + 0) (l := l) (D := D) (b0 := b0) (ad := ad) (Hb := Hb) (tau := tau) hx hG 
    exact ⟨z, Z', h', hca, q1, q2, fr_tr (M1 := []) fr_rf q3 rfl rfl, by omega⟩
  · subst hc
    obtain ⟨z, Z', h', hca, q1, q2, q3, b⟩ := ct_116_1_i1 (d := d + 0) (l := l) (D := D) (b0 := b0) (ad := ad) (Hb := Hb) (tau := tau) hx hG 
    exact ⟨z, Z', h', hca, q1, q2, fr_tr (M1 := []) fr_rf q3 rfl rfl, by omega⟩
  · subst hc
    obtain ⟨z, Z', h', hca, q1, q2, q3, b⟩ := ct_116_1_i2 (d := d + 0) (l := l) (D := D) (b0 := b0) (ad := ad) (Hb := Hb) (tau := tau) hx hG 
    exact ⟨z, Z', h', hca, q1, q2, fr_tr (M1 := []) fr_rf q3 rfl rfl, by omega⟩
  · subst hc
    obtain ⟨z, Z', h', hca, q1, q2, q3, b⟩ := ct_116_1_i3 (d := d + 0) (l := l) (D := D) (b0 := b0) (ad := ad) (Hb := Hb) (tau := tau) hx hG 
    exact ⟨z, Z', h', hca, q1, q2, fr_tr (M1 := []) fr_rf q3 rfl rfl, by omega⟩
  · skip
    obtain ⟨z, hca, b⟩ := ct_116_1_n (d := d + 1) (l := l) (D := D) (b0 := b0) (ad := ad) (Hb := Hb) (tau := tau) hx hG hc
    exact ⟨z, Z, h, hca, hx, hG, fr_rf, by omega⟩
  · skip
    obtain ⟨z, hca, b⟩ := ct_116_1_p (d := d + 1) (l := l) (D := D) (b0 := b0) (ad := ad) (Hb := Hb) (tau := tau) hx hG hc
    exact ⟨z, Z, h, hca, hx, hG, fr_rf, by omega⟩
set_option maxRecDepth 100000 in
theorem cw_109_1_i0 {l : Launch} {D : va_G} {b0 : Nat} {ad : Nat → Nat} {Hb : Heap} {tau : Nat → Int64} {d n s : Nat} {S : Nat → xS} {Z : xZ} {h : mx_H} {Post : mx_R → Prop} (hx : XH n s S Z h) (hG : GI n S Z) {x1 : Int} (p1 : (-2147483648) ≤ x1 ∧ x1 ≤ 2147483647) (hP : ∀ (z : Int) (Z' : xZ) (h' : mx_H), XH n s S Z' h' → GI n S Z' → fr' [(14, (-1)), (16, (-1)), (17, (-1)), (18, (-1)), (19, (-1)), (25, 8), (26, (-1)), (27, (-1)), (28, (-1)), (29, (-1)), (42, (-1))] Z Z' → (-6) ≤ z ∧ z ≤ 18 → Post (some (xI z), h')) : mx_J (tB l D b0 ad Hb tau) mt_109 (d + 10) 0 [some (.ref 1), some (xI 0), some (xI x1), none, none] [] h Post := by
    have a1 : 1 < n := lt83 hG.1 rfl
    have s1 : S 1 = .inl (11, [2, 0, 0, 0, 2, 2, 2, 2, 2, 2, 2, 2, 2, 2, 2, 2, 2]) := hG.2.1 1 rfl
    have a25 : 25 < n := lt83 hG.1 rfl
    have s25 : S 25 = .inl (8, [2, 2, 2, 2, 2, 2, 2, 2, 0]) := hG.2.1 25 rfl
    have a36 : 36 < n := lt83 hG.1 rfl
    have s36 : S 36 = .inl (5, [2, 0, 0, 0, 0, 0]) := hG.2.1 36 rfl
    refine mx_J.step (sn_109 0) (fun _ _ => rfl) ?_
    refine mx_J.step (sn_109 1) (fun _ _ => rfl) ?_
    obtain ⟨z1, Z1, h1, hc1, hx1, hG1, hf1, b1⟩ := ct_145_1_i0 (d := d + 7) (l := l) (D := D) (b0 := b0) (ad := ad) (Hb := Hb) (tau := tau) hx hG 
    refine Jcv hx (show mx_Sn _ _ 2 (mx_callv 145 2 11 5) from sn_109 2) a1 s1 hc1 rfl rfl rfl ?_
    refine mx_J.step (ls2 := [some (.ref 1), some (xI 0), some (xI x1), some (xI z1), none]) (sn_109 5) (fun _ _ => rfl) ?_
    refine mx_J.step (sn_109 6) (fun _ _ => rfl) ?_
    refine Jif_ge (show mx_Sn _ _ 7 (mx_if_ge 12 10) from sn_109 7) (by omega) (fun q2 => ?_) (fun q2 => ?_)
    · skip
      refine mx_J.step (sn_109 12) (fun _ _ => rfl) ?_
      refine Jif_ge (show mx_Sn _ _ 13 (mx_if_ge 19 16) from sn_109 13) (by omega) (fun q3 => ?_) (fun q3 => ?_)
      · skip
        refine mx_J.step (sn_109 19) (fun _ _ => rfl) ?_
        refine JgetR (g := 8) (b := 25) hx1 (show mx_Sn _ _ 20 (mx_getf 11 8 23) from sn_109 20) a1 s1 rfl rfl (hG1.prr 1 8 rfl) ?_
        refine mx_J.step (sn_109 23) (fun _ _ => rfl) ?_
        refine JgetR (g := 12) (b := 36) hx1 (show mx_Sn _ _ 24 (mx_getf 11 12 27) from sn_109 24) a1 s1 rfl rfl (hG1.prr 1 12 rfl) ?_
        have b4 : 0 ≤ Z 36 2 ∧ Z 36 2 ≤ 384 := hG.pr 36 2
        refine JgetI (g := 2) (z := Z 36 2) hx1 (show mx_Sn _ _ 27 (mx_getf 5 2 30) from sn_109 27) a36 s36 rfl rfl (hf1 36 2 rfl) ?_
        refine mx_J.step (sn_109 30) (fun _ _ => rfl) ?_
        obtain ⟨z5, Z5, h5, hc5, hx5, hG5, hf5, b5⟩ := ct_61_25 (d := d + 0) (l := l) (D := D) (b0 := b0) (ad := ad) (Hb := Hb) (tau := tau) hx1 hG1 (show 0 ≤ Z 36 2 ∧ Z 36 2 ≤ 384 by omega) (show (-1) ≤ z1 ∧ z1 ≤ 384 by omega)
        refine Jcv hx1 (show mx_Sn _ _ 31 (mx_callv 61 3 8 34) from sn_109 31) a25 s25 hc5 rfl rfl rfl ?_
        refine mx_J.step (ls2 := [some (.ref 1), some (xI 0), some (xI x1), some (xI z1), some (xI z5)]) (sn_109 34) (fun _ _ => rfl) ?_
        refine mx_J.step (sn_109 36) (fun _ _ => rfl) ?_
        refine mx_J.step (sn_109 37) (fun _ _ => rfl) ?_
        have c60 : ∀ (k6_0 : Int), (-1) ≤ k6_0 ∧ k6_0 ≤ 18 → mx_J (tB l D b0 ad Hb tau) mt_109 (d + 10) 60 [some (.ref 1), some (xI 0), some (xI x1), some (xI z1), some (xI z5)] [xI k6_0] h5 Post := by
          intro k6_0 f6_0
          exact mx_J.ret (sn_109 60) (fun _ _ => rfl) (hP k6_0 Z5 h5 hx5 hG5 (fr_tr (M := [(14, (-1)), (16, (-1)), (17, (-1)), (18, (-1)), (19, (-1)), (25, 8), (26, (-1)), (27, (-1)), (28, (-1)), (29, (-1)), (42, (-1))]) (fr_tr (M := [(14, (-1)), (16, (-1)), (17, (-1)), (18, (-1)), (19, (-1)), (25, 8), (26, (-1)), (27, (-1)), (28, (-1)), (29, (-1)), (42, (-1))]) fr_rf (hf1) (M1 := []) rfl rfl) (hf5) rfl rfl) (by omega))
        refine Jicmp_ge (show mx_Sn _ _ 39 (mx_icmp_ge 59 42) from sn_109 39) (by omega) (by omega) (fun q7 => ?_) (fun q7 => ?_)
        · skip
          refine JcI (z := (-1)) (show mx_Sn _ _ 59 (mx_const (.int (-1)) 60) from sn_109 59) rfl ?_
          exact c60 (-1) (by omega)
        · skip
          refine mx_J.step (sn_109 42) (fun _ _ => rfl) ?_
          refine JgetR (g := 8) (b := 25) hx5 (show mx_Sn _ _ 43 (mx_getf 11 8 46) from sn_109 43) a1 s1 rfl rfl (hG5.prr 1 8 rfl) ?_
          refine mx_J.step (sn_109 46) (fun _ _ => rfl) ?_
          refine mx_J.step (sn_109 47) (fun _ _ => rfl) ?_
          refine JcI (z := 1) (show mx_Sn _ _ 49 (mx_const (.int 1) 50) from sn_109 49) rfl ?_
          refine Jisub (show mx_Sn _ _ 50 (mx_isub 51) from sn_109 50) ?_
          refine mx_J.step (sn_109 51) (fun _ _ => rfl) ?_
          refine Jisub (show mx_Sn _ _ 52 (mx_isub 53) from sn_109 52) ?_
          obtain ⟨z8, hc8, b8⟩ := ct_63_25 (d := d + 9) (l := l) (D := D) (b0 := b0) (ad := ad) (Hb := Hb) (tau := tau) hx5 hG5 (show 0 ≤ z1 ∧ z1 ≤ 384 by omega) (show (-2147483648) ≤ (z5 - 1) - x1 ∧ (z5 - 1) - x1 ≤ 2147483647 by omega)
          refine Jcv hx5 (show mx_Sn _ _ 53 (mx_callv 63 3 8 56) from sn_109 53) a25 s25 hc8 rfl rfl rfl ?_
          refine mx_J.step (sn_109 56) (fun _ _ => rfl) ?_
          exact c60 z8 (by omega)
      · skip
        refine JcI (z := (-3)) (show mx_Sn _ _ 16 (mx_const (.int (-3)) 18) from sn_109 16) rfl ?_
        exact mx_J.ret (sn_109 18) (fun _ _ => rfl) (hP (-3) Z1 h1 hx1 hG1 (fr_tr (M := [(14, (-1)), (16, (-1)), (17, (-1)), (18, (-1)), (19, (-1)), (25, 8), (26, (-1)), (27, (-1)), (28, (-1)), (29, (-1)), (42, (-1))]) fr_rf (hf1) (M1 := []) rfl rfl) (by omega))
    · skip
      refine mx_J.step (sn_109 10) (fun _ _ => rfl) ?_
      exact mx_J.ret (sn_109 11) (fun _ _ => rfl) (hP z1 Z1 h1 hx1 hG1 (fr_tr (M := [(14, (-1)), (16, (-1)), (17, (-1)), (18, (-1)), (19, (-1)), (25, 8), (26, (-1)), (27, (-1)), (28, (-1)), (29, (-1)), (42, (-1))]) fr_rf (hf1) (M1 := []) rfl rfl) (by omega))
theorem ct_109_1_i0 {l : Launch} {D : va_G} {b0 : Nat} {ad : Nat → Nat} {Hb : Heap} {tau : Nat → Int64} {d n s : Nat} {S : Nat → xS} {Z : xZ} {h : mx_H} (hx : XH n s S Z h) (hG : GI n S Z) {x1 : Int} (p1 : (-2147483648) ≤ x1 ∧ x1 ≤ 2147483647) : ∃ (z : Int) (Z' : xZ) (h' : mx_H), mx_Ca (tB l D b0 ad Hb tau) (d + 11) 109 [.ref 1, xI 0, xI x1] h (some (xI z), h') ∧ XH n s S Z' h' ∧ GI n S Z' ∧ fr' [(14, (-1)), (16, (-1)), (17, (-1)), (18, (-1)), (19, (-1)), (25, 8), (26, (-1)), (27, (-1)), (28, (-1)), (29, (-1)), (42, (-1))] Z Z' ∧ ((-6) ≤ z ∧ z ≤ 18) := by
  obtain ⟨r, hca, z, Z', h', e, q⟩ := Jmt (B := tB l D b0 ad Hb tau) (M := mt_109) (mi := 109) (as := [.ref 1, xI 0, xI x1]) (d := d + 10) (ls := [some (.ref 1), some (xI 0), some (xI x1), none, none]) rfl rfl rfl rfl rfl rfl (cw_109_1_i0 (l := l) (D := D) (b0 := b0) (ad := ad) (Hb := Hb) (tau := tau) (d := d) (Post := fun r => ∃ (z : Int) (Z' : xZ) (h' : mx_H), r = (some (xI z), h') ∧ XH n s S Z' h' ∧ GI n S Z' ∧ fr' [(14, (-1)), (16, (-1)), (17, (-1)), (18, (-1)), (19, (-1)), (25, 8), (26, (-1)), (27, (-1)), (28, (-1)), (29, (-1)), (42, (-1))] Z Z' ∧ ((-6) ≤ z ∧ z ≤ 18)) hx hG p1 (fun z Z' h' q1 q2 q3 q4 => ⟨z, Z', h', rfl, q1, q2, q3, q4⟩))
  subst e; exact ⟨z, Z', h', hca, q⟩
set_option maxRecDepth 100000 in
theorem cw_109_1_i1 {l : Launch} {D : va_G} {b0 : Nat} {ad : Nat → Nat} {Hb : Heap} {tau : Nat → Int64} {d n s : Nat} {S : Nat → xS} {Z : xZ} {h : mx_H} {Post : mx_R → Prop} (hx : XH n s S Z h) (hG : GI n S Z) {x1 : Int} (p1 : (-2147483648) ≤ x1 ∧ x1 ≤ 2147483647) (hP : ∀ (z : Int) (Z' : xZ) (h' : mx_H), XH n s S Z' h' → GI n S Z' → fr' [(14, (-1)), (16, (-1)), (17, (-1)), (18, (-1)), (19, (-1)), (25, 8), (26, (-1)), (27, (-1)), (28, (-1)), (29, (-1)), (42, (-1))] Z Z' → (-6) ≤ z ∧ z ≤ 18 → Post (some (xI z), h')) : mx_J (tB l D b0 ad Hb tau) mt_109 (d + 10) 0 [some (.ref 1), some (xI 1), some (xI x1), none, none] [] h Post := by
    have a1 : 1 < n := lt83 hG.1 rfl
    have s1 : S 1 = .inl (11, [2, 0, 0, 0, 2, 2, 2, 2, 2, 2, 2, 2, 2, 2, 2, 2, 2]) := hG.2.1 1 rfl
    have a25 : 25 < n := lt83 hG.1 rfl
    have s25 : S 25 = .inl (8, [2, 2, 2, 2, 2, 2, 2, 2, 0]) := hG.2.1 25 rfl
    have a36 : 36 < n := lt83 hG.1 rfl
    have s36 : S 36 = .inl (5, [2, 0, 0, 0, 0, 0]) := hG.2.1 36 rfl
    refine mx_J.step (sn_109 0) (fun _ _ => rfl) ?_
    refine mx_J.step (sn_109 1) (fun _ _ => rfl) ?_
    obtain ⟨z1, Z1, h1, hc1, hx1, hG1, hf1, b1⟩ := ct_145_1_i1 (d := d + 7) (l := l) (D := D) (b0 := b0) (ad := ad) (Hb := Hb) (tau := tau) hx hG 
    refine Jcv hx (show mx_Sn _ _ 2 (mx_callv 145 2 11 5) from sn_109 2) a1 s1 hc1 rfl rfl rfl ?_
    refine mx_J.step (ls2 := [some (.ref 1), some (xI 1), some (xI x1), some (xI z1), none]) (sn_109 5) (fun _ _ => rfl) ?_
    refine mx_J.step (sn_109 6) (fun _ _ => rfl) ?_
    refine Jif_ge (show mx_Sn _ _ 7 (mx_if_ge 12 10) from sn_109 7) (by omega) (fun q2 => ?_) (fun q2 => ?_)
    · skip
      refine mx_J.step (sn_109 12) (fun _ _ => rfl) ?_
      refine Jif_ge (show mx_Sn _ _ 13 (mx_if_ge 19 16) from sn_109 13) (by omega) (fun q3 => ?_) (fun q3 => ?_)
      · skip
        refine mx_J.step (sn_109 19) (fun _ _ => rfl) ?_
        refine JgetR (g := 8) (b := 25) hx1 (show mx_Sn _ _ 20 (mx_getf 11 8 23) from sn_109 20) a1 s1 rfl rfl (hG1.prr 1 8 rfl) ?_
        refine mx_J.step (sn_109 23) (fun _ _ => rfl) ?_
        refine JgetR (g := 12) (b := 36) hx1 (show mx_Sn _ _ 24 (mx_getf 11 12 27) from sn_109 24) a1 s1 rfl rfl (hG1.prr 1 12 rfl) ?_
        have b4 : 0 ≤ Z 36 2 ∧ Z 36 2 ≤ 384 := hG.pr 36 2
        refine JgetI (g := 2) (z := Z 36 2) hx1 (show mx_Sn _ _ 27 (mx_getf 5 2 30) from sn_109 27) a36 s36 rfl rfl (hf1 36 2 rfl) ?_
        refine mx_J.step (sn_109 30) (fun _ _ => rfl) ?_
        obtain ⟨z5, Z5, h5, hc5, hx5, hG5, hf5, b5⟩ := ct_61_25 (d := d + 0) (l := l) (D := D) (b0 := b0) (ad := ad) (Hb := Hb) (tau := tau) hx1 hG1 (show 0 ≤ Z 36 2 ∧ Z 36 2 ≤ 384 by omega) (show (-1) ≤ z1 ∧ z1 ≤ 384 by omega)
        refine Jcv hx1 (show mx_Sn _ _ 31 (mx_callv 61 3 8 34) from sn_109 31) a25 s25 hc5 rfl rfl rfl ?_
        refine mx_J.step (ls2 := [some (.ref 1), some (xI 1), some (xI x1), some (xI z1), some (xI z5)]) (sn_109 34) (fun _ _ => rfl) ?_
        refine mx_J.step (sn_109 36) (fun _ _ => rfl) ?_
        refine mx_J.step (sn_109 37) (fun _ _ => rfl) ?_
        have c60 : ∀ (k6_0 : Int), (-1) ≤ k6_0 ∧ k6_0 ≤ 18 → mx_J (tB l D b0 ad Hb tau) mt_109 (d + 10) 60 [some (.ref 1), some (xI 1), some (xI x1), some (xI z1), some (xI z5)] [xI k6_0] h5 Post := by
          intro k6_0 f6_0
          exact mx_J.ret (sn_109 60) (fun _ _ => rfl) (hP k6_0 Z5 h5 hx5 hG5 (fr_tr (M := [(14, (-1)), (16, (-1)), (17, (-1)), (18, (-1)), (19, (-1)), (25, 8), (26, (-1)), (27, (-1)), (28, (-1)), (29, (-1)), (42, (-1))]) (fr_tr (M := [(14, (-1)), (16, (-1)), (17, (-1)), (18, (-1)), (19, (-1)), (25, 8), (26, (-1)), (27, (-1)), (28, (-1)), (29, (-1)), (42, (-1))]) fr_rf (hf1) (M1 := []) rfl rfl) (hf5) rfl rfl) (by omega))
        refine Jicmp_ge (show mx_Sn _ _ 39 (mx_icmp_ge 59 42) from sn_109 39) (by omega) (by omega) (fun q7 => ?_) (fun q7 => ?_)
        · skip
          refine JcI (z := (-1)) (show mx_Sn _ _ 59 (mx_const (.int (-1)) 60) from sn_109 59) rfl ?_
          exact c60 (-1) (by omega)
        · skip
          refine mx_J.step (sn_109 42) (fun _ _ => rfl) ?_
          refine JgetR (g := 8) (b := 25) hx5 (show mx_Sn _ _ 43 (mx_getf 11 8 46) from sn_109 43) a1 s1 rfl rfl (hG5.prr 1 8 rfl) ?_
          refine mx_J.step (sn_109 46) (fun _ _ => rfl) ?_
          refine mx_J.step (sn_109 47) (fun _ _ => rfl) ?_
          refine JcI (z := 1) (show mx_Sn _ _ 49 (mx_const (.int 1) 50) from sn_109 49) rfl ?_
          refine Jisub (show mx_Sn _ _ 50 (mx_isub 51) from sn_109 50) ?_
          refine mx_J.step (sn_109 51) (fun _ _ => rfl) ?_
          refine Jisub (show mx_Sn _ _ 52 (mx_isub 53) from sn_109 52) ?_
          obtain ⟨z8, hc8, b8⟩ := ct_63_25 (d := d + 9) (l := l) (D := D) (b0 := b0) (ad := ad) (Hb := Hb) (tau := tau) hx5 hG5 (show 0 ≤ z1 ∧ z1 ≤ 384 by omega) (show (-2147483648) ≤ (z5 - 1) - x1 ∧ (z5 - 1) - x1 ≤ 2147483647 by omega)
          refine Jcv hx5 (show mx_Sn _ _ 53 (mx_callv 63 3 8 56) from sn_109 53) a25 s25 hc8 rfl rfl rfl ?_
          refine mx_J.step (sn_109 56) (fun _ _ => rfl) ?_
          exact c60 z8 (by omega)
      · skip
        refine JcI (z := (-3)) (show mx_Sn _ _ 16 (mx_const (.int (-3)) 18) from sn_109 16) rfl ?_
        exact mx_J.ret (sn_109 18) (fun _ _ => rfl) (hP (-3) Z1 h1 hx1 hG1 (fr_tr (M := [(14, (-1)), (16, (-1)), (17, (-1)), (18, (-1)), (19, (-1)), (25, 8), (26, (-1)), (27, (-1)), (28, (-1)), (29, (-1)), (42, (-1))]) fr_rf (hf1) (M1 := []) rfl rfl) (by omega))
    · skip
      refine mx_J.step (sn_109 10) (fun _ _ => rfl) ?_
      exact mx_J.ret (sn_109 11) (fun _ _ => rfl) (hP z1 Z1 h1 hx1 hG1 (fr_tr (M := [(14, (-1)), (16, (-1)), (17, (-1)), (18, (-1)), (19, (-1)), (25, 8), (26, (-1)), (27, (-1)), (28, (-1)), (29, (-1)), (42, (-1))]) fr_rf (hf1) (M1 := []) rfl rfl) (by omega))
theorem ct_109_1_i1 {l : Launch} {D : va_G} {b0 : Nat} {ad : Nat → Nat} {Hb : Heap} {tau : Nat → Int64} {d n s : Nat} {S : Nat → xS} {Z : xZ} {h : mx_H} (hx : XH n s S Z h) (hG : GI n S Z) {x1 : Int} (p1 : (-2147483648) ≤ x1 ∧ x1 ≤ 2147483647) : ∃ (z : Int) (Z' : xZ) (h' : mx_H), mx_Ca (tB l D b0 ad Hb tau) (d + 11) 109 [.ref 1, xI 1, xI x1] h (some (xI z), h') ∧ XH n s S Z' h' ∧ GI n S Z' ∧ fr' [(14, (-1)), (16, (-1)), (17, (-1)), (18, (-1)), (19, (-1)), (25, 8), (26, (-1)), (27, (-1)), (28, (-1)), (29, (-1)), (42, (-1))] Z Z' ∧ ((-6) ≤ z ∧ z ≤ 18) := by
  obtain ⟨r, hca, z, Z', h', e, q⟩ := Jmt (B := tB l D b0 ad Hb tau) (M := mt_109) (mi := 109) (as := [.ref 1, xI 1, xI x1]) (d := d + 10) (ls := [some (.ref 1), some (xI 1), some (xI x1), none, none]) rfl rfl rfl rfl rfl rfl (cw_109_1_i1 (l := l) (D := D) (b0 := b0) (ad := ad) (Hb := Hb) (tau := tau) (d := d) (Post := fun r => ∃ (z : Int) (Z' : xZ) (h' : mx_H), r = (some (xI z), h') ∧ XH n s S Z' h' ∧ GI n S Z' ∧ fr' [(14, (-1)), (16, (-1)), (17, (-1)), (18, (-1)), (19, (-1)), (25, 8), (26, (-1)), (27, (-1)), (28, (-1)), (29, (-1)), (42, (-1))] Z Z' ∧ ((-6) ≤ z ∧ z ≤ 18)) hx hG p1 (fun z Z' h' q1 q2 q3 q4 => ⟨z, Z', h', rfl, q1, q2, q3, q4⟩))
  subst e; exact ⟨z, Z', h', hca, q⟩
set_option maxRecDepth 100000 in
theorem cw_109_1_i2 {l : Launch} {D : va_G} {b0 : Nat} {ad : Nat → Nat} {Hb : Heap} {tau : Nat → Int64} {d n s : Nat} {S : Nat → xS} {Z : xZ} {h : mx_H} {Post : mx_R → Prop} (hx : XH n s S Z h) (hG : GI n S Z) {x1 : Int} (p1 : (-2147483648) ≤ x1 ∧ x1 ≤ 2147483647) (hP : ∀ (z : Int) (Z' : xZ) (h' : mx_H), XH n s S Z' h' → GI n S Z' → fr' [(14, (-1)), (16, (-1)), (17, (-1)), (18, (-1)), (19, (-1)), (25, 8), (26, (-1)), (27, (-1)), (28, (-1)), (29, (-1)), (42, (-1))] Z Z' → (-6) ≤ z ∧ z ≤ 18 → Post (some (xI z), h')) : mx_J (tB l D b0 ad Hb tau) mt_109 (d + 10) 0 [some (.ref 1), some (xI 2), some (xI x1), none, none] [] h Post := by
    have a1 : 1 < n := lt83 hG.1 rfl
    have s1 : S 1 = .inl (11, [2, 0, 0, 0, 2, 2, 2, 2, 2, 2, 2, 2, 2, 2, 2, 2, 2]) := hG.2.1 1 rfl
    have a25 : 25 < n := lt83 hG.1 rfl
    have s25 : S 25 = .inl (8, [2, 2, 2, 2, 2, 2, 2, 2, 0]) := hG.2.1 25 rfl
    have a36 : 36 < n := lt83 hG.1 rfl
    have s36 : S 36 = .inl (5, [2, 0, 0, 0, 0, 0]) := hG.2.1 36 rfl
    refine mx_J.step (sn_109 0) (fun _ _ => rfl) ?_
    refine mx_J.step (sn_109 1) (fun _ _ => rfl) ?_
    obtain ⟨z1, Z1, h1, hc1, hx1, hG1, hf1, b1⟩ := ct_145_1_i2 (d := d + 7) (l := l) (D := D) (b0 := b0) (ad := ad) (Hb := Hb) (tau := tau) hx hG 
    refine Jcv hx (show mx_Sn _ _ 2 (mx_callv 145 2 11 5) from sn_109 2) a1 s1 hc1 rfl rfl rfl ?_
    refine mx_J.step (ls2 := [some (.ref 1), some (xI 2), some (xI x1), some (xI z1), none]) (sn_109 5) (fun _ _ => rfl) ?_
    refine mx_J.step (sn_109 6) (fun _ _ => rfl) ?_
    refine Jif_ge (show mx_Sn _ _ 7 (mx_if_ge 12 10) from sn_109 7) (by omega) (fun q2 => ?_) (fun q2 => ?_)
    · skip
      refine mx_J.step (sn_109 12) (fun _ _ => rfl) ?_
      refine Jif_ge (show mx_Sn _ _ 13 (mx_if_ge 19 16) from sn_109 13) (by omega) (fun q3 => ?_) (fun q3 => ?_)
      · skip
        refine mx_J.step (sn_109 19) (fun _ _ => rfl) ?_
        refine JgetR (g := 8) (b := 25) hx1 (show mx_Sn _ _ 20 (mx_getf 11 8 23) from sn_109 20) a1 s1 rfl rfl (hG1.prr 1 8 rfl) ?_
        refine mx_J.step (sn_109 23) (fun _ _ => rfl) ?_
        refine JgetR (g := 12) (b := 36) hx1 (show mx_Sn _ _ 24 (mx_getf 11 12 27) from sn_109 24) a1 s1 rfl rfl (hG1.prr 1 12 rfl) ?_
        have b4 : 0 ≤ Z 36 2 ∧ Z 36 2 ≤ 384 := hG.pr 36 2
        refine JgetI (g := 2) (z := Z 36 2) hx1 (show mx_Sn _ _ 27 (mx_getf 5 2 30) from sn_109 27) a36 s36 rfl rfl (hf1 36 2 rfl) ?_
        refine mx_J.step (sn_109 30) (fun _ _ => rfl) ?_
        obtain ⟨z5, Z5, h5, hc5, hx5, hG5, hf5, b5⟩ := ct_61_25 (d := d + 0) (l := l) (D := D) (b0 := b0) (ad := ad) (Hb := Hb) (tau := tau) hx1 hG1 (show 0 ≤ Z 36 2 ∧ Z 36 2 ≤ 384 by omega) (show (-1) ≤ z1 ∧ z1 ≤ 384 by omega)
        refine Jcv hx1 (show mx_Sn _ _ 31 (mx_callv 61 3 8 34) from sn_109 31) a25 s25 hc5 rfl rfl rfl ?_
        refine mx_J.step (ls2 := [some (.ref 1), some (xI 2), some (xI x1), some (xI z1), some (xI z5)]) (sn_109 34) (fun _ _ => rfl) ?_
        refine mx_J.step (sn_109 36) (fun _ _ => rfl) ?_
        refine mx_J.step (sn_109 37) (fun _ _ => rfl) ?_
        have c60 : ∀ (k6_0 : Int), (-1) ≤ k6_0 ∧ k6_0 ≤ 18 → mx_J (tB l D b0 ad Hb tau) mt_109 (d + 10) 60 [some (.ref 1), some (xI 2), some (xI x1), some (xI z1), some (xI z5)] [xI k6_0] h5 Post := by
          intro k6_0 f6_0
          exact mx_J.ret (sn_109 60) (fun _ _ => rfl) (hP k6_0 Z5 h5 hx5 hG5 (fr_tr (M := [(14, (-1)), (16, (-1)), (17, (-1)), (18, (-1)), (19, (-1)), (25, 8), (26, (-1)), (27, (-1)), (28, (-1)), (29, (-1)), (42, (-1))]) (fr_tr (M := [(14, (-1)), (16, (-1)), (17, (-1)), (18, (-1)), (19, (-1)), (25, 8), (26, (-1)), (27, (-1)), (28, (-1)), (29, (-1)), (42, (-1))]) fr_rf (hf1) (M1 := []) rfl rfl) (hf5) rfl rfl) (by omega))
        refine Jicmp_ge (show mx_Sn _ _ 39 (mx_icmp_ge 59 42) from sn_109 39) (by omega) (by omega) (fun q7 => ?_) (fun q7 => ?_)
        · skip
          refine JcI (z := (-1)) (show mx_Sn _ _ 59 (mx_const (.int (-1)) 60) from sn_109 59) rfl ?_
          exact c60 (-1) (by omega)
        · skip
          refine mx_J.step (sn_109 42) (fun _ _ => rfl) ?_
          refine JgetR (g := 8) (b := 25) hx5 (show mx_Sn _ _ 43 (mx_getf 11 8 46) from sn_109 43) a1 s1 rfl rfl (hG5.prr 1 8 rfl) ?_
          refine mx_J.step (sn_109 46) (fun _ _ => rfl) ?_
          refine mx_J.step (sn_109 47) (fun _ _ => rfl) ?_
          refine JcI (z := 1) (show mx_Sn _ _ 49 (mx_const (.int 1) 50) from sn_109 49) rfl ?_
          refine Jisub (show mx_Sn _ _ 50 (mx_isub 51) from sn_109 50) ?_
          refine mx_J.step (sn_109 51) (fun _ _ => rfl) ?_
          refine Jisub (show mx_Sn _ _ 52 (mx_isub 53) from sn_109 52) ?_
          obtain ⟨z8, hc8, b8⟩ := ct_63_25 (d := d + 9) (l := l) (D := D) (b0 := b0) (ad := ad) (Hb := Hb) (tau := tau) hx5 hG5 (show 0 ≤ z1 ∧ z1 ≤ 384 by omega) (show (-2147483648) ≤ (z5 - 1) - x1 ∧ (z5 - 1) - x1 ≤ 2147483647 by omega)
          refine Jcv hx5 (show mx_Sn _ _ 53 (mx_callv 63 3 8 56) from sn_109 53) a25 s25 hc8 rfl rfl rfl ?_
          refine mx_J.step (sn_109 56) (fun _ _ => rfl) ?_
          exact c60 z8 (by omega)
      · skip
        refine JcI (z := (-3)) (show mx_Sn _ _ 16 (mx_const (.int (-3)) 18) from sn_109 16) rfl ?_
        exact mx_J.ret (sn_109 18) (fun _ _ => rfl) (hP (-3) Z1 h1 hx1 hG1 (fr_tr (M := [(14, (-1)), (16, (-1)), (17, (-1)), (18, (-1)), (19, (-1)), (25, 8), (26, (-1)), (27, (-1)), (28, (-1)), (29, (-1)), (42, (-1))]) fr_rf (hf1) (M1 := []) rfl rfl) (by omega))
    · skip
      refine mx_J.step (sn_109 10) (fun _ _ => rfl) ?_
      exact mx_J.ret (sn_109 11) (fun _ _ => rfl) (hP z1 Z1 h1 hx1 hG1 (fr_tr (M := [(14, (-1)), (16, (-1)), (17, (-1)), (18, (-1)), (19, (-1)), (25, 8), (26, (-1)), (27, (-1)), (28, (-1)), (29, (-1)), (42, (-1))]) fr_rf (hf1) (M1 := []) rfl rfl) (by omega))
theorem ct_109_1_i2 {l : Launch} {D : va_G} {b0 : Nat} {ad : Nat → Nat} {Hb : Heap} {tau : Nat → Int64} {d n s : Nat} {S : Nat → xS} {Z : xZ} {h : mx_H} (hx : XH n s S Z h) (hG : GI n S Z) {x1 : Int} (p1 : (-2147483648) ≤ x1 ∧ x1 ≤ 2147483647) : ∃ (z : Int) (Z' : xZ) (h' : mx_H), mx_Ca (tB l D b0 ad Hb tau) (d + 11) 109 [.ref 1, xI 2, xI x1] h (some (xI z), h') ∧ XH n s S Z' h' ∧ GI n S Z' ∧ fr' [(14, (-1)), (16, (-1)), (17, (-1)), (18, (-1)), (19, (-1)), (25, 8), (26, (-1)), (27, (-1)), (28, (-1)), (29, (-1)), (42, (-1))] Z Z' ∧ ((-6) ≤ z ∧ z ≤ 18) := by
  obtain ⟨r, hca, z, Z', h', e, q⟩ := Jmt (B := tB l D b0 ad Hb tau) (M := mt_109) (mi := 109) (as := [.ref 1, xI 2, xI x1]) (d := d + 10) (ls := [some (.ref 1), some (xI 2), some (xI x1), none, none]) rfl rfl rfl rfl rfl rfl (cw_109_1_i2 (l := l) (D := D) (b0 := b0) (ad := ad) (Hb := Hb) (tau := tau) (d := d) (Post := fun r => ∃ (z : Int) (Z' : xZ) (h' : mx_H), r = (some (xI z), h') ∧ XH n s S Z' h' ∧ GI n S Z' ∧ fr' [(14, (-1)), (16, (-1)), (17, (-1)), (18, (-1)), (19, (-1)), (25, 8), (26, (-1)), (27, (-1)), (28, (-1)), (29, (-1)), (42, (-1))] Z Z' ∧ ((-6) ≤ z ∧ z ≤ 18)) hx hG p1 (fun z Z' h' q1 q2 q3 q4 => ⟨z, Z', h', rfl, q1, q2, q3, q4⟩))
  subst e; exact ⟨z, Z', h', hca, q⟩
set_option maxRecDepth 100000 in
theorem cw_109_1_i3 {l : Launch} {D : va_G} {b0 : Nat} {ad : Nat → Nat} {Hb : Heap} {tau : Nat → Int64} {d n s : Nat} {S : Nat → xS} {Z : xZ} {h : mx_H} {Post : mx_R → Prop} (hx : XH n s S Z h) (hG : GI n S Z) {x1 : Int} (p1 : (-2147483648) ≤ x1 ∧ x1 ≤ 2147483647) (hP : ∀ (z : Int) (Z' : xZ) (h' : mx_H), XH n s S Z' h' → GI n S Z' → fr' [(14, (-1)), (16, (-1)), (17, (-1)), (18, (-1)), (19, (-1)), (25, 8), (26, (-1)), (27, (-1)), (28, (-1)), (29, (-1)), (42, (-1))] Z Z' → (-6) ≤ z ∧ z ≤ 18 → Post (some (xI z), h')) : mx_J (tB l D b0 ad Hb tau) mt_109 (d + 10) 0 [some (.ref 1), some (xI 3), some (xI x1), none, none] [] h Post := by
    have a1 : 1 < n := lt83 hG.1 rfl
    have s1 : S 1 = .inl (11, [2, 0, 0, 0, 2, 2, 2, 2, 2, 2, 2, 2, 2, 2, 2, 2, 2]) := hG.2.1 1 rfl
    have a25 : 25 < n := lt83 hG.1 rfl
    have s25 : S 25 = .inl (8, [2, 2, 2, 2, 2, 2, 2, 2, 0]) := hG.2.1 25 rfl
    have a36 : 36 < n := lt83 hG.1 rfl
    have s36 : S 36 = .inl (5, [2, 0, 0, 0, 0, 0]) := hG.2.1 36 rfl
    refine mx_J.step (sn_109 0) (fun _ _ => rfl) ?_
    refine mx_J.step (sn_109 1) (fun _ _ => rfl) ?_
    obtain ⟨z1, Z1, h1, hc1, hx1, hG1, hf1, b1⟩ := ct_145_1_i3 (d := d + 7) (l := l) (D := D) (b0 := b0) (ad := ad) (Hb := Hb) (tau := tau) hx hG 
    refine Jcv hx (show mx_Sn _ _ 2 (mx_callv 145 2 11 5) from sn_109 2) a1 s1 hc1 rfl rfl rfl ?_
    refine mx_J.step (ls2 := [some (.ref 1), some (xI 3), some (xI x1), some (xI z1), none]) (sn_109 5) (fun _ _ => rfl) ?_
    refine mx_J.step (sn_109 6) (fun _ _ => rfl) ?_
    refine Jif_ge (show mx_Sn _ _ 7 (mx_if_ge 12 10) from sn_109 7) (by omega) (fun q2 => ?_) (fun q2 => ?_)
    · skip
      refine mx_J.step (sn_109 12) (fun _ _ => rfl) ?_
      refine Jif_ge (show mx_Sn _ _ 13 (mx_if_ge 19 16) from sn_109 13) (by omega) (fun q3 => ?_) (fun q3 => ?_)
      · skip
        refine mx_J.step (sn_109 19) (fun _ _ => rfl) ?_
        refine JgetR (g := 8) (b := 25) hx1 (show mx_Sn _ _ 20 (mx_getf 11 8 23) from sn_109 20) a1 s1 rfl rfl (hG1.prr 1 8 rfl) ?_
        refine mx_J.step (sn_109 23) (fun _ _ => rfl) ?_
        refine JgetR (g := 12) (b := 36) hx1 (show mx_Sn _ _ 24 (mx_getf 11 12 27) from sn_109 24) a1 s1 rfl rfl (hG1.prr 1 12 rfl) ?_
        have b4 : 0 ≤ Z 36 2 ∧ Z 36 2 ≤ 384 := hG.pr 36 2
        refine JgetI (g := 2) (z := Z 36 2) hx1 (show mx_Sn _ _ 27 (mx_getf 5 2 30) from sn_109 27) a36 s36 rfl rfl (hf1 36 2 rfl) ?_
        refine mx_J.step (sn_109 30) (fun _ _ => rfl) ?_
        obtain ⟨z5, Z5, h5, hc5, hx5, hG5, hf5, b5⟩ := ct_61_25 (d := d + 0) (l := l) (D := D) (b0 := b0) (ad := ad) (Hb := Hb) (tau := tau) hx1 hG1 (show 0 ≤ Z 36 2 ∧ Z 36 2 ≤ 384 by omega) (show (-1) ≤ z1 ∧ z1 ≤ 384 by omega)
        refine Jcv hx1 (show mx_Sn _ _ 31 (mx_callv 61 3 8 34) from sn_109 31) a25 s25 hc5 rfl rfl rfl ?_
        refine mx_J.step (ls2 := [some (.ref 1), some (xI 3), some (xI x1), some (xI z1), some (xI z5)]) (sn_109 34) (fun _ _ => rfl) ?_
        refine mx_J.step (sn_109 36) (fun _ _ => rfl) ?_
        refine mx_J.step (sn_109 37) (fun _ _ => rfl) ?_
        have c60 : ∀ (k6_0 : Int), (-1) ≤ k6_0 ∧ k6_0 ≤ 18 → mx_J (tB l D b0 ad Hb tau) mt_109 (d + 10) 60 [some (.ref 1), some (xI 3), some (xI x1), some (xI z1), some (xI z5)] [xI k6_0] h5 Post := by
          intro k6_0 f6_0
          exact mx_J.ret (sn_109 60) (fun _ _ => rfl) (hP k6_0 Z5 h5 hx5 hG5 (fr_tr (M := [(14, (-1)), (16, (-1)), (17, (-1)), (18, (-1)), (19, (-1)), (25, 8), (26, (-1)), (27, (-1)), (28, (-1)), (29, (-1)), (42, (-1))]) (fr_tr (M := [(14, (-1)), (16, (-1)), (17, (-1)), (18, (-1)), (19, (-1)), (25, 8), (26, (-1)), (27, (-1)), (28, (-1)), (29, (-1)), (42, (-1))]) fr_rf (hf1) (M1 := []) rfl rfl) (hf5) rfl rfl) (by omega))
        refine Jicmp_ge (show mx_Sn _ _ 39 (mx_icmp_ge 59 42) from sn_109 39) (by omega) (by omega) (fun q7 => ?_) (fun q7 => ?_)
        · skip
          refine JcI (z := (-1)) (show mx_Sn _ _ 59 (mx_const (.int (-1)) 60) from sn_109 59) rfl ?_
          exact c60 (-1) (by omega)
        · skip
          refine mx_J.step (sn_109 42) (fun _ _ => rfl) ?_
          refine JgetR (g := 8) (b := 25) hx5 (show mx_Sn _ _ 43 (mx_getf 11 8 46) from sn_109 43) a1 s1 rfl rfl (hG5.prr 1 8 rfl) ?_
          refine mx_J.step (sn_109 46) (fun _ _ => rfl) ?_
          refine mx_J.step (sn_109 47) (fun _ _ => rfl) ?_
          refine JcI (z := 1) (show mx_Sn _ _ 49 (mx_const (.int 1) 50) from sn_109 49) rfl ?_
          refine Jisub (show mx_Sn _ _ 50 (mx_isub 51) from sn_109 50) ?_
          refine mx_J.step (sn_109 51) (fun _ _ => rfl) ?_
          refine Jisub (show mx_Sn _ _ 52 (mx_isub 53) from sn_109 52) ?_
          obtain ⟨z8, hc8, b8⟩ := ct_63_25 (d := d + 9) (l := l) (D := D) (b0 := b0) (ad := ad) (Hb := Hb) (tau := tau) hx5 hG5 (show 0 ≤ z1 ∧ z1 ≤ 384 by omega) (show (-2147483648) ≤ (z5 - 1) - x1 ∧ (z5 - 1) - x1 ≤ 2147483647 by omega)
          refine Jcv hx5 (show mx_Sn _ _ 53 (mx_callv 63 3 8 56) from sn_109 53) a25 s25 hc8 rfl rfl rfl ?_
          refine mx_J.step (sn_109 56) (fun _ _ => rfl) ?_
          exact c60 z8 (by omega)
      · skip
        refine JcI (z := (-3)) (show mx_Sn _ _ 16 (mx_const (.int (-3)) 18) from sn_109 16) rfl ?_
        exact mx_J.ret (sn_109 18) (fun _ _ => rfl) (hP (-3) Z1 h1 hx1 hG1 (fr_tr (M := [(14, (-1)), (16, (-1)), (17, (-1)), (18, (-1)), (19, (-1)), (25, 8), (26, (-1)), (27, (-1)), (28, (-1)), (29, (-1)), (42, (-1))]) fr_rf (hf1) (M1 := []) rfl rfl) (by omega))
    · skip
      refine mx_J.step (sn_109 10) (fun _ _ => rfl) ?_
      exact mx_J.ret (sn_109 11) (fun _ _ => rfl) (hP z1 Z1 h1 hx1 hG1 (fr_tr (M := [(14, (-1)), (16, (-1)), (17, (-1)), (18, (-1)), (19, (-1)), (25, 8), (26, (-1)), (27, (-1)), (28, (-1)), (29, (-1)), (42, (-1))]) fr_rf (hf1) (M1 := []) rfl rfl) (by omega))
theorem ct_109_1_i3 {l : Launch} {D : va_G} {b0 : Nat} {ad : Nat → Nat} {Hb : Heap} {tau : Nat → Int64} {d n s : Nat} {S : Nat → xS} {Z : xZ} {h : mx_H} (hx : XH n s S Z h) (hG : GI n S Z) {x1 : Int} (p1 : (-2147483648) ≤ x1 ∧ x1 ≤ 2147483647) : ∃ (z : Int) (Z' : xZ) (h' : mx_H), mx_Ca (tB l D b0 ad Hb tau) (d + 11) 109 [.ref 1, xI 3, xI x1] h (some (xI z), h') ∧ XH n s S Z' h' ∧ GI n S Z' ∧ fr' [(14, (-1)), (16, (-1)), (17, (-1)), (18, (-1)), (19, (-1)), (25, 8), (26, (-1)), (27, (-1)), (28, (-1)), (29, (-1)), (42, (-1))] Z Z' ∧ ((-6) ≤ z ∧ z ≤ 18) := by
  obtain ⟨r, hca, z, Z', h', e, q⟩ := Jmt (B := tB l D b0 ad Hb tau) (M := mt_109) (mi := 109) (as := [.ref 1, xI 3, xI x1]) (d := d + 10) (ls := [some (.ref 1), some (xI 3), some (xI x1), none, none]) rfl rfl rfl rfl rfl rfl (cw_109_1_i3 (l := l) (D := D) (b0 := b0) (ad := ad) (Hb := Hb) (tau := tau) (d := d) (Post := fun r => ∃ (z : Int) (Z' : xZ) (h' : mx_H), r = (some (xI z), h') ∧ XH n s S Z' h' ∧ GI n S Z' ∧ fr' [(14, (-1)), (16, (-1)), (17, (-1)), (18, (-1)), (19, (-1)), (25, 8), (26, (-1)), (27, (-1)), (28, (-1)), (29, (-1)), (42, (-1))] Z Z' ∧ ((-6) ≤ z ∧ z ≤ 18)) hx hG p1 (fun z Z' h' q1 q2 q3 q4 => ⟨z, Z', h', rfl, q1, q2, q3, q4⟩))
  subst e; exact ⟨z, Z', h', hca, q⟩
set_option maxRecDepth 100000 in
theorem cw_109_1_n {l : Launch} {D : va_G} {b0 : Nat} {ad : Nat → Nat} {Hb : Heap} {tau : Nat → Int64} {d n s : Nat} {S : Nat → xS} {Z : xZ} {h : mx_H} {Post : mx_R → Prop} (hx : XH n s S Z h) (hG : GI n S Z) {x0 x1 : Int} (p0 : (-2147483648) ≤ x0 ∧ x0 ≤ (-1)) (p1 : (-2147483648) ≤ x1 ∧ x1 ≤ 2147483647) (hP : ∀ z : Int, (-2) ≤ z ∧ z ≤ (-2) → Post (some (xI z), h)) : mx_J (tB l D b0 ad Hb tau) mt_109 (d + 2) 0 [some (.ref 1), some (xI x0), some (xI x1), none, none] [] h Post := by
    have a1 : 1 < n := lt83 hG.1 rfl
    have s1 : S 1 = .inl (11, [2, 0, 0, 0, 2, 2, 2, 2, 2, 2, 2, 2, 2, 2, 2, 2, 2]) := hG.2.1 1 rfl
    refine mx_J.step (sn_109 0) (fun _ _ => rfl) ?_
    refine mx_J.step (sn_109 1) (fun _ _ => rfl) ?_
    obtain ⟨z1, hc1, b1⟩ := ct_145_1_n (d := d + 0) (l := l) (D := D) (b0 := b0) (ad := ad) (Hb := Hb) (tau := tau) hx hG (show (-2147483648) ≤ x0 ∧ x0 ≤ (-1) by omega)
    refine Jcv hx (show mx_Sn _ _ 2 (mx_callv 145 2 11 5) from sn_109 2) a1 s1 hc1 rfl rfl rfl ?_
    refine mx_J.step (ls2 := [some (.ref 1), some (xI x0), some (xI x1), some (xI z1), none]) (sn_109 5) (fun _ _ => rfl) ?_
    refine mx_J.step (sn_109 6) (fun _ _ => rfl) ?_
    refine Jif_ge (show mx_Sn _ _ 7 (mx_if_ge 12 10) from sn_109 7) (by omega) (fun q2 => ?_) (fun q2 => ?_)
    · skip
      exfalso; omega
    · skip
      refine mx_J.step (sn_109 10) (fun _ _ => rfl) ?_
      exact mx_J.ret (sn_109 11) (fun _ _ => rfl) (hP z1 (by omega))
theorem ct_109_1_n {l : Launch} {D : va_G} {b0 : Nat} {ad : Nat → Nat} {Hb : Heap} {tau : Nat → Int64} {d n s : Nat} {S : Nat → xS} {Z : xZ} {h : mx_H} (hx : XH n s S Z h) (hG : GI n S Z) {x0 x1 : Int} (p0 : (-2147483648) ≤ x0 ∧ x0 ≤ (-1)) (p1 : (-2147483648) ≤ x1 ∧ x1 ≤ 2147483647) : ∃ z : Int, mx_Ca (tB l D b0 ad Hb tau) (d + 3) 109 [.ref 1, xI x0, xI x1] h (some (xI z), h) ∧ ((-2) ≤ z ∧ z ≤ (-2)) := by
  obtain ⟨r, hca, z, e, hp⟩ := Jmt (B := tB l D b0 ad Hb tau) (M := mt_109) (mi := 109) (as := [.ref 1, xI x0, xI x1]) (d := d + 2) (ls := [some (.ref 1), some (xI x0), some (xI x1), none, none]) rfl rfl rfl rfl rfl rfl (cw_109_1_n (l := l) (D := D) (b0 := b0) (ad := ad) (Hb := Hb) (tau := tau) (d := d) (Post := fun r => ∃ z : Int, r = (some (xI z), h) ∧ ((-2) ≤ z ∧ z ≤ (-2))) hx hG p0 p1 (fun z hz => ⟨z, rfl, hz⟩))
  subst e; exact ⟨z, hca, hp⟩
set_option maxRecDepth 100000 in
theorem cw_109_1_p {l : Launch} {D : va_G} {b0 : Nat} {ad : Nat → Nat} {Hb : Heap} {tau : Nat → Int64} {d n s : Nat} {S : Nat → xS} {Z : xZ} {h : mx_H} {Post : mx_R → Prop} (hx : XH n s S Z h) (hG : GI n S Z) {x0 x1 : Int} (p0 : 4 ≤ x0 ∧ x0 ≤ 2147483647) (p1 : (-2147483648) ≤ x1 ∧ x1 ≤ 2147483647) (hP : ∀ z : Int, (-2) ≤ z ∧ z ≤ (-2) → Post (some (xI z), h)) : mx_J (tB l D b0 ad Hb tau) mt_109 (d + 2) 0 [some (.ref 1), some (xI x0), some (xI x1), none, none] [] h Post := by
    have a1 : 1 < n := lt83 hG.1 rfl
    have s1 : S 1 = .inl (11, [2, 0, 0, 0, 2, 2, 2, 2, 2, 2, 2, 2, 2, 2, 2, 2, 2]) := hG.2.1 1 rfl
    refine mx_J.step (sn_109 0) (fun _ _ => rfl) ?_
    refine mx_J.step (sn_109 1) (fun _ _ => rfl) ?_
    obtain ⟨z1, hc1, b1⟩ := ct_145_1_p (d := d + 0) (l := l) (D := D) (b0 := b0) (ad := ad) (Hb := Hb) (tau := tau) hx hG (show 4 ≤ x0 ∧ x0 ≤ 2147483647 by omega)
    refine Jcv hx (show mx_Sn _ _ 2 (mx_callv 145 2 11 5) from sn_109 2) a1 s1 hc1 rfl rfl rfl ?_
    refine mx_J.step (ls2 := [some (.ref 1), some (xI x0), some (xI x1), some (xI z1), none]) (sn_109 5) (fun _ _ => rfl) ?_
    refine mx_J.step (sn_109 6) (fun _ _ => rfl) ?_
    refine Jif_ge (show mx_Sn _ _ 7 (mx_if_ge 12 10) from sn_109 7) (by omega) (fun q2 => ?_) (fun q2 => ?_)
    · skip
      exfalso; omega
    · skip
      refine mx_J.step (sn_109 10) (fun _ _ => rfl) ?_
      exact mx_J.ret (sn_109 11) (fun _ _ => rfl) (hP z1 (by omega))
theorem ct_109_1_p {l : Launch} {D : va_G} {b0 : Nat} {ad : Nat → Nat} {Hb : Heap} {tau : Nat → Int64} {d n s : Nat} {S : Nat → xS} {Z : xZ} {h : mx_H} (hx : XH n s S Z h) (hG : GI n S Z) {x0 x1 : Int} (p0 : 4 ≤ x0 ∧ x0 ≤ 2147483647) (p1 : (-2147483648) ≤ x1 ∧ x1 ≤ 2147483647) : ∃ z : Int, mx_Ca (tB l D b0 ad Hb tau) (d + 3) 109 [.ref 1, xI x0, xI x1] h (some (xI z), h) ∧ ((-2) ≤ z ∧ z ≤ (-2)) := by
  obtain ⟨r, hca, z, e, hp⟩ := Jmt (B := tB l D b0 ad Hb tau) (M := mt_109) (mi := 109) (as := [.ref 1, xI x0, xI x1]) (d := d + 2) (ls := [some (.ref 1), some (xI x0), some (xI x1), none, none]) rfl rfl rfl rfl rfl rfl (cw_109_1_p (l := l) (D := D) (b0 := b0) (ad := ad) (Hb := Hb) (tau := tau) (d := d) (Post := fun r => ∃ z : Int, r = (some (xI z), h) ∧ ((-2) ≤ z ∧ z ≤ (-2))) hx hG p0 p1 (fun z hz => ⟨z, rfl, hz⟩))
  subst e; exact ⟨z, hca, hp⟩
theorem ct_109_1 {l : Launch} {D : va_G} {b0 : Nat} {ad : Nat → Nat} {Hb : Heap} {tau : Nat → Int64} {d n s : Nat} {S : Nat → xS} {Z : xZ} {h : mx_H} (hx : XH n s S Z h) (hG : GI n S Z) {x0 x1 : Int} (p0 : (-2147483648) ≤ x0 ∧ x0 ≤ 2147483647) (p1 : (-2147483648) ≤ x1 ∧ x1 ≤ 2147483647) : ∃ (z : Int) (Z' : xZ) (h' : mx_H), mx_Ca (tB l D b0 ad Hb tau) (d + 11) 109 [.ref 1, xI x0, xI x1] h (some (xI z), h') ∧ XH n s S Z' h' ∧ GI n S Z' ∧ fr' [(14, (-1)), (16, (-1)), (17, (-1)), (18, (-1)), (19, (-1)), (25, 8), (26, (-1)), (27, (-1)), (28, (-1)), (29, (-1)), (42, (-1))] Z Z' ∧ ((-6) ≤ z ∧ z ≤ 18) := by
  have hc : x0 = 0 ∨ x0 = 1 ∨ x0 = 2 ∨ x0 = 3 ∨ ((-2147483648) ≤ x0 ∧ x0 ≤ (-1)) ∨ (4 ≤ x0 ∧ x0 ≤ 2147483647) := by omega
  rcases hc with hc | hc | hc | hc | hc | hc
  · subst hc
    obtain ⟨z, Z', h', hca, q1, q2, q3, b⟩ := ct_109_1_i0 (d := d + 0) (l := l) (D := D) (b0 := b0) (ad := ad) (Hb := Hb) (tau := tau) hx hG p1
    exact ⟨z, Z', h', hca, q1, q2, fr_tr (M1 := []) fr_rf q3 rfl rfl, by omega⟩
  · subst hc
    obtain ⟨z, Z', h', hca, q1, q2, q3, b⟩ := ct_109_1_i1 (d := d + 0) (l := l) (D := D) (b0 := b0) (ad := ad) (Hb := Hb) (tau := tau) hx hG p1
    exact ⟨z, Z', h', hca, q1, q2, fr_tr (M1 := []) fr_rf q3 rfl rfl, by omega⟩
  · subst hc
    obtain ⟨z, Z', h', hca, q1, q2, q3, b⟩ := ct_109_1_i2 (d := d + 0) (l := l) (D := D) (b0 := b0) (ad := ad) (Hb := Hb) (tau := tau) hx hG p1
    exact ⟨z, Z', h', hca, q1, q2, fr_tr (M1 := []) fr_rf q3 rfl rfl, by omega⟩
  · subst hc
    obtain ⟨z, Z', h', hca, q1, q2, q3, b⟩ := ct_109_1_i3 (d := d + 0) (l := l) (D := D) (b0 := b0) (ad := ad) (Hb := Hb) (tau := tau) hx hG p1
    exact ⟨z, Z', h', hca, q1, q2, fr_tr (M1 := []) fr_rf q3 rfl rfl, by omega⟩
  · skip
    obtain ⟨z, hca, b⟩ := ct_109_1_n (d := d + 8) (l := l) (D := D) (b0 := b0) (ad := ad) (Hb := Hb) (tau := tau) hx hG hc p1
    exact ⟨z, Z, h, hca, hx, hG, fr_rf, by omega⟩
  · skip
    obtain ⟨z, hca, b⟩ := ct_109_1_p (d := d + 8) (l := l) (D := D) (b0 := b0) (ad := ad) (Hb := Hb) (tau := tau) hx hG hc p1
    exact ⟨z, Z, h, hca, hx, hG, fr_rf, by omega⟩
set_option maxRecDepth 100000 in
theorem cw_128_1_i0 {l : Launch} {D : va_G} {b0 : Nat} {ad : Nat → Nat} {Hb : Heap} {tau : Nat → Int64} {d n s : Nat} {S : Nat → xS} {Z : xZ} {h : mx_H} {Post : mx_R → Prop} (hx : XH n s S Z h) (hG : GI n S Z) {x1 x2 : Int} (p1 : (-2147483648) ≤ x1 ∧ x1 ≤ 2147483647) (p2 : (-2147483648) ≤ x2 ∧ x2 ≤ 2147483647) (hP : ∀ (z : Int) (Z' : xZ) (h' : mx_H), XH n s S Z' h' → GI n S Z' → fr' [(44, 1), (44, 2), (44, 3), (45, (-1))] Z Z' → (-3) ≤ z ∧ z ≤ 0 → Post (some (xI z), h')) : mx_J (tB l D b0 ad Hb tau) mt_128 (d + 2) 0 [some (.ref 1), some (xI 0), some (xI x1), some (xI x2)] [] h Post := by
    have a1 : 1 < n := lt83 hG.1 rfl
    have s1 : S 1 = .inl (11, [2, 0, 0, 0, 2, 2, 2, 2, 2, 2, 2, 2, 2, 2, 2, 2, 2]) := hG.2.1 1 rfl
    have a34 : 34 < n := lt83 hG.1 rfl
    have s34 : S 34 = .inr ((.object "TitheHeap$Tray"), 4, 2) := hG.2.1 34 rfl
    have a44 : 44 < n := lt83 hG.1 rfl
    have s44 : S 44 = .inl (10, [2, 0, 0, 0]) := hG.2.1 44 rfl
    refine mx_J.step (sn_128 0) (fun _ _ => rfl) ?_
    refine mx_J.step (sn_128 1) (fun _ _ => rfl) ?_
    obtain ⟨z1, hc1, b1⟩ := ct_144_1_y (d := d + 1) (l := l) (D := D) (b0 := b0) (ad := ad) (Hb := Hb) (tau := tau) hx hG (show 0 ≤ 0 ∧ 0 ≤ 3 by omega)
    refine Jcv hx (show mx_Sn _ _ 2 (mx_callv 144 2 11 5) from sn_128 2) a1 s1 hc1 rfl rfl rfl ?_
    have c17 : mx_J (tB l D b0 ad Hb tau) mt_128 (d + 2) 17 [some (.ref 1), some (xI 0), some (xI x1), some (xI x2)] [] h Post := by
      refine JcI (z := (-2)) (show mx_Sn _ _ 17 (mx_const (.int (-2)) 19) from sn_128 17) rfl ?_
      exact mx_J.ret (sn_128 19) (fun _ _ => rfl) (hP (-2) Z h hx hG fr_rf (by omega))
    refine Jif_ne (show mx_Sn _ _ 5 (mx_if_ne 17 8) from sn_128 5) (by omega) (fun q3 => ?_) (fun q3 => ?_)
    · skip
      exact c17 
    · skip
      refine mx_J.step (sn_128 8) (fun _ _ => rfl) ?_
      refine Jif_lt (show mx_Sn _ _ 9 (mx_if_lt 17 12) from sn_128 9) (by omega) (fun q4 => ?_) (fun q4 => ?_)
      · skip
        exact c17 
      · skip
        refine mx_J.step (sn_128 12) (fun _ _ => rfl) ?_
        refine JcI (z := 3) (show mx_Sn _ _ 13 (mx_const (.int 3) 14) from sn_128 13) rfl ?_
        refine Jicmp_le (show mx_Sn _ _ 14 (mx_icmp_le 20 17) from sn_128 14) (by omega) (by omega) (fun q5 => ?_) (fun q5 => ?_)
        · skip
          refine mx_J.step (sn_128 20) (fun _ _ => rfl) ?_
          have c30 : mx_J (tB l D b0 ad Hb tau) mt_128 (d + 2) 30 [some (.ref 1), some (xI 0), some (xI x1), some (xI x2)] [] h Post := by
            refine JcI (z := (-3)) (show mx_Sn _ _ 30 (mx_const (.int (-3)) 32) from sn_128 30) rfl ?_
            exact mx_J.ret (sn_128 32) (fun _ _ => rfl) (hP (-3) Z h hx hG fr_rf (by omega))
          refine Jif_lt (show mx_Sn _ _ 21 (mx_if_lt 30 24) from sn_128 21) (by omega) (fun q7 => ?_) (fun q7 => ?_)
          · skip
            exact c30 
          · skip
            refine mx_J.step (sn_128 24) (fun _ _ => rfl) ?_
            refine JcI (z := 40) (show mx_Sn _ _ 25 (mx_const (.int 40) 27) from sn_128 25) rfl ?_
            refine Jicmp_le (show mx_Sn _ _ 27 (mx_icmp_le 33 30) from sn_128 27) (by omega) (by omega) (fun q8 => ?_) (fun q8 => ?_)
            · skip
              refine mx_J.step (sn_128 33) (fun _ _ => rfl) ?_
              refine JgetR (g := 10) (b := 34) hx (show mx_Sn _ _ 34 (mx_getf 11 10 37) from sn_128 34) a1 s1 rfl rfl (hG.prr 1 10 rfl) ?_
              refine mx_J.step (sn_128 37) (fun _ _ => rfl) ?_
              refine JaaldR (i := 0) (b := 44) hx (show mx_Sn _ _ 38 (mx_aald 39) from sn_128 38) a34 s34 (by omega) (show Z 34 0 = 44 by have hq := GI_ex hG 34 0; replace hq : ((0 : Int) ≤ 0 → (0 : Int) ≤ 3 → (Z 34 0) = 44 + 2 * 0) := hq; omega) ?_
              refine mx_J.step (sn_128 39) (fun _ _ => rfl) ?_
              refine mx_J.step (sn_128 40) (fun _ _ => rfl) ?_
              obtain ⟨Z9, h9, hc9, hx9, hG9, hf9⟩ := ct_83_44 (d := d + 0) (l := l) (D := D) (b0 := b0) (ad := ad) (Hb := Hb) (tau := tau) hx hG (show 0 ≤ x1 ∧ x1 ≤ 3 by omega) (show 0 ≤ x2 ∧ x2 ≤ 40 by omega)
              refine Jcv0 hx (show mx_Sn _ _ 41 (mx_callv 83 3 10 44) from sn_128 41) a44 s44 hc9 rfl rfl rfl ?_
              refine JcI (z := 0) (show mx_Sn _ _ 44 (mx_const (.int 0) 45) from sn_128 44) rfl ?_
              exact mx_J.ret (sn_128 45) (fun _ _ => rfl) (hP 0 Z9 h9 hx9 hG9 (fr_tr (M := [(44, 1), (44, 2), (44, 3), (45, (-1))]) fr_rf (hf9) (M1 := []) rfl rfl) (by omega))
            · skip
              exact c30 
        · skip
          exact c17 
theorem ct_128_1_i0 {l : Launch} {D : va_G} {b0 : Nat} {ad : Nat → Nat} {Hb : Heap} {tau : Nat → Int64} {d n s : Nat} {S : Nat → xS} {Z : xZ} {h : mx_H} (hx : XH n s S Z h) (hG : GI n S Z) {x1 x2 : Int} (p1 : (-2147483648) ≤ x1 ∧ x1 ≤ 2147483647) (p2 : (-2147483648) ≤ x2 ∧ x2 ≤ 2147483647) : ∃ (z : Int) (Z' : xZ) (h' : mx_H), mx_Ca (tB l D b0 ad Hb tau) (d + 3) 128 [.ref 1, xI 0, xI x1, xI x2] h (some (xI z), h') ∧ XH n s S Z' h' ∧ GI n S Z' ∧ fr' [(44, 1), (44, 2), (44, 3), (45, (-1))] Z Z' ∧ ((-3) ≤ z ∧ z ≤ 0) := by
  obtain ⟨r, hca, z, Z', h', e, q⟩ := Jmt (B := tB l D b0 ad Hb tau) (M := mt_128) (mi := 128) (as := [.ref 1, xI 0, xI x1, xI x2]) (d := d + 2) (ls := [some (.ref 1), some (xI 0), some (xI x1), some (xI x2)]) rfl rfl rfl rfl rfl rfl (cw_128_1_i0 (l := l) (D := D) (b0 := b0) (ad := ad) (Hb := Hb) (tau := tau) (d := d) (Post := fun r => ∃ (z : Int) (Z' : xZ) (h' : mx_H), r = (some (xI z), h') ∧ XH n s S Z' h' ∧ GI n S Z' ∧ fr' [(44, 1), (44, 2), (44, 3), (45, (-1))] Z Z' ∧ ((-3) ≤ z ∧ z ≤ 0)) hx hG p1 p2 (fun z Z' h' q1 q2 q3 q4 => ⟨z, Z', h', rfl, q1, q2, q3, q4⟩))
  subst e; exact ⟨z, Z', h', hca, q⟩
set_option maxRecDepth 100000 in
theorem cw_128_1_i1 {l : Launch} {D : va_G} {b0 : Nat} {ad : Nat → Nat} {Hb : Heap} {tau : Nat → Int64} {d n s : Nat} {S : Nat → xS} {Z : xZ} {h : mx_H} {Post : mx_R → Prop} (hx : XH n s S Z h) (hG : GI n S Z) {x1 x2 : Int} (p1 : (-2147483648) ≤ x1 ∧ x1 ≤ 2147483647) (p2 : (-2147483648) ≤ x2 ∧ x2 ≤ 2147483647) (hP : ∀ (z : Int) (Z' : xZ) (h' : mx_H), XH n s S Z' h' → GI n S Z' → fr' [(46, 1), (46, 2), (46, 3), (47, (-1))] Z Z' → (-3) ≤ z ∧ z ≤ 0 → Post (some (xI z), h')) : mx_J (tB l D b0 ad Hb tau) mt_128 (d + 2) 0 [some (.ref 1), some (xI 1), some (xI x1), some (xI x2)] [] h Post := by
    have a1 : 1 < n := lt83 hG.1 rfl
    have s1 : S 1 = .inl (11, [2, 0, 0, 0, 2, 2, 2, 2, 2, 2, 2, 2, 2, 2, 2, 2, 2]) := hG.2.1 1 rfl
    have a34 : 34 < n := lt83 hG.1 rfl
    have s34 : S 34 = .inr ((.object "TitheHeap$Tray"), 4, 2) := hG.2.1 34 rfl
    have a46 : 46 < n := lt83 hG.1 rfl
    have s46 : S 46 = .inl (10, [2, 0, 0, 0]) := hG.2.1 46 rfl
    refine mx_J.step (sn_128 0) (fun _ _ => rfl) ?_
    refine mx_J.step (sn_128 1) (fun _ _ => rfl) ?_
    obtain ⟨z1, hc1, b1⟩ := ct_144_1_y (d := d + 1) (l := l) (D := D) (b0 := b0) (ad := ad) (Hb := Hb) (tau := tau) hx hG (show 0 ≤ 1 ∧ 1 ≤ 3 by omega)
    refine Jcv hx (show mx_Sn _ _ 2 (mx_callv 144 2 11 5) from sn_128 2) a1 s1 hc1 rfl rfl rfl ?_
    have c17 : mx_J (tB l D b0 ad Hb tau) mt_128 (d + 2) 17 [some (.ref 1), some (xI 1), some (xI x1), some (xI x2)] [] h Post := by
      refine JcI (z := (-2)) (show mx_Sn _ _ 17 (mx_const (.int (-2)) 19) from sn_128 17) rfl ?_
      exact mx_J.ret (sn_128 19) (fun _ _ => rfl) (hP (-2) Z h hx hG fr_rf (by omega))
    refine Jif_ne (show mx_Sn _ _ 5 (mx_if_ne 17 8) from sn_128 5) (by omega) (fun q3 => ?_) (fun q3 => ?_)
    · skip
      exact c17 
    · skip
      refine mx_J.step (sn_128 8) (fun _ _ => rfl) ?_
      refine Jif_lt (show mx_Sn _ _ 9 (mx_if_lt 17 12) from sn_128 9) (by omega) (fun q4 => ?_) (fun q4 => ?_)
      · skip
        exact c17 
      · skip
        refine mx_J.step (sn_128 12) (fun _ _ => rfl) ?_
        refine JcI (z := 3) (show mx_Sn _ _ 13 (mx_const (.int 3) 14) from sn_128 13) rfl ?_
        refine Jicmp_le (show mx_Sn _ _ 14 (mx_icmp_le 20 17) from sn_128 14) (by omega) (by omega) (fun q5 => ?_) (fun q5 => ?_)
        · skip
          refine mx_J.step (sn_128 20) (fun _ _ => rfl) ?_
          have c30 : mx_J (tB l D b0 ad Hb tau) mt_128 (d + 2) 30 [some (.ref 1), some (xI 1), some (xI x1), some (xI x2)] [] h Post := by
            refine JcI (z := (-3)) (show mx_Sn _ _ 30 (mx_const (.int (-3)) 32) from sn_128 30) rfl ?_
            exact mx_J.ret (sn_128 32) (fun _ _ => rfl) (hP (-3) Z h hx hG fr_rf (by omega))
          refine Jif_lt (show mx_Sn _ _ 21 (mx_if_lt 30 24) from sn_128 21) (by omega) (fun q7 => ?_) (fun q7 => ?_)
          · skip
            exact c30 
          · skip
            refine mx_J.step (sn_128 24) (fun _ _ => rfl) ?_
            refine JcI (z := 40) (show mx_Sn _ _ 25 (mx_const (.int 40) 27) from sn_128 25) rfl ?_
            refine Jicmp_le (show mx_Sn _ _ 27 (mx_icmp_le 33 30) from sn_128 27) (by omega) (by omega) (fun q8 => ?_) (fun q8 => ?_)
            · skip
              refine mx_J.step (sn_128 33) (fun _ _ => rfl) ?_
              refine JgetR (g := 10) (b := 34) hx (show mx_Sn _ _ 34 (mx_getf 11 10 37) from sn_128 34) a1 s1 rfl rfl (hG.prr 1 10 rfl) ?_
              refine mx_J.step (sn_128 37) (fun _ _ => rfl) ?_
              refine JaaldR (i := 1) (b := 46) hx (show mx_Sn _ _ 38 (mx_aald 39) from sn_128 38) a34 s34 (by omega) (show Z 34 1 = 46 by have hq := GI_ex hG 34 1; replace hq : ((0 : Int) ≤ 1 → (1 : Int) ≤ 3 → (Z 34 1) = 44 + 2 * 1) := hq; omega) ?_
              refine mx_J.step (sn_128 39) (fun _ _ => rfl) ?_
              refine mx_J.step (sn_128 40) (fun _ _ => rfl) ?_
              obtain ⟨Z9, h9, hc9, hx9, hG9, hf9⟩ := ct_83_46 (d := d + 0) (l := l) (D := D) (b0 := b0) (ad := ad) (Hb := Hb) (tau := tau) hx hG (show 0 ≤ x1 ∧ x1 ≤ 3 by omega) (show 0 ≤ x2 ∧ x2 ≤ 40 by omega)
              refine Jcv0 hx (show mx_Sn _ _ 41 (mx_callv 83 3 10 44) from sn_128 41) a46 s46 hc9 rfl rfl rfl ?_
              refine JcI (z := 0) (show mx_Sn _ _ 44 (mx_const (.int 0) 45) from sn_128 44) rfl ?_
              exact mx_J.ret (sn_128 45) (fun _ _ => rfl) (hP 0 Z9 h9 hx9 hG9 (fr_tr (M := [(46, 1), (46, 2), (46, 3), (47, (-1))]) fr_rf (hf9) (M1 := []) rfl rfl) (by omega))
            · skip
              exact c30 
        · skip
          exact c17 
theorem ct_128_1_i1 {l : Launch} {D : va_G} {b0 : Nat} {ad : Nat → Nat} {Hb : Heap} {tau : Nat → Int64} {d n s : Nat} {S : Nat → xS} {Z : xZ} {h : mx_H} (hx : XH n s S Z h) (hG : GI n S Z) {x1 x2 : Int} (p1 : (-2147483648) ≤ x1 ∧ x1 ≤ 2147483647) (p2 : (-2147483648) ≤ x2 ∧ x2 ≤ 2147483647) : ∃ (z : Int) (Z' : xZ) (h' : mx_H), mx_Ca (tB l D b0 ad Hb tau) (d + 3) 128 [.ref 1, xI 1, xI x1, xI x2] h (some (xI z), h') ∧ XH n s S Z' h' ∧ GI n S Z' ∧ fr' [(46, 1), (46, 2), (46, 3), (47, (-1))] Z Z' ∧ ((-3) ≤ z ∧ z ≤ 0) := by
  obtain ⟨r, hca, z, Z', h', e, q⟩ := Jmt (B := tB l D b0 ad Hb tau) (M := mt_128) (mi := 128) (as := [.ref 1, xI 1, xI x1, xI x2]) (d := d + 2) (ls := [some (.ref 1), some (xI 1), some (xI x1), some (xI x2)]) rfl rfl rfl rfl rfl rfl (cw_128_1_i1 (l := l) (D := D) (b0 := b0) (ad := ad) (Hb := Hb) (tau := tau) (d := d) (Post := fun r => ∃ (z : Int) (Z' : xZ) (h' : mx_H), r = (some (xI z), h') ∧ XH n s S Z' h' ∧ GI n S Z' ∧ fr' [(46, 1), (46, 2), (46, 3), (47, (-1))] Z Z' ∧ ((-3) ≤ z ∧ z ≤ 0)) hx hG p1 p2 (fun z Z' h' q1 q2 q3 q4 => ⟨z, Z', h', rfl, q1, q2, q3, q4⟩))
  subst e; exact ⟨z, Z', h', hca, q⟩
set_option maxRecDepth 100000 in
theorem cw_128_1_i2 {l : Launch} {D : va_G} {b0 : Nat} {ad : Nat → Nat} {Hb : Heap} {tau : Nat → Int64} {d n s : Nat} {S : Nat → xS} {Z : xZ} {h : mx_H} {Post : mx_R → Prop} (hx : XH n s S Z h) (hG : GI n S Z) {x1 x2 : Int} (p1 : (-2147483648) ≤ x1 ∧ x1 ≤ 2147483647) (p2 : (-2147483648) ≤ x2 ∧ x2 ≤ 2147483647) (hP : ∀ (z : Int) (Z' : xZ) (h' : mx_H), XH n s S Z' h' → GI n S Z' → fr' [(48, 1), (48, 2), (48, 3), (49, (-1))] Z Z' → (-3) ≤ z ∧ z ≤ 0 → Post (some (xI z), h')) : mx_J (tB l D b0 ad Hb tau) mt_128 (d + 2) 0 [some (.ref 1), some (xI 2), some (xI x1), some (xI x2)] [] h Post := by
    have a1 : 1 < n := lt83 hG.1 rfl
    have s1 : S 1 = .inl (11, [2, 0, 0, 0, 2, 2, 2, 2, 2, 2, 2, 2, 2, 2, 2, 2, 2]) := hG.2.1 1 rfl
    have a34 : 34 < n := lt83 hG.1 rfl
    have s34 : S 34 = .inr ((.object "TitheHeap$Tray"), 4, 2) := hG.2.1 34 rfl
    have a48 : 48 < n := lt83 hG.1 rfl
    have s48 : S 48 = .inl (10, [2, 0, 0, 0]) := hG.2.1 48 rfl
    refine mx_J.step (sn_128 0) (fun _ _ => rfl) ?_
    refine mx_J.step (sn_128 1) (fun _ _ => rfl) ?_
    obtain ⟨z1, hc1, b1⟩ := ct_144_1_y (d := d + 1) (l := l) (D := D) (b0 := b0) (ad := ad) (Hb := Hb) (tau := tau) hx hG (show 0 ≤ 2 ∧ 2 ≤ 3 by omega)
    refine Jcv hx (show mx_Sn _ _ 2 (mx_callv 144 2 11 5) from sn_128 2) a1 s1 hc1 rfl rfl rfl ?_
    have c17 : mx_J (tB l D b0 ad Hb tau) mt_128 (d + 2) 17 [some (.ref 1), some (xI 2), some (xI x1), some (xI x2)] [] h Post := by
      refine JcI (z := (-2)) (show mx_Sn _ _ 17 (mx_const (.int (-2)) 19) from sn_128 17) rfl ?_
      exact mx_J.ret (sn_128 19) (fun _ _ => rfl) (hP (-2) Z h hx hG fr_rf (by omega))
    refine Jif_ne (show mx_Sn _ _ 5 (mx_if_ne 17 8) from sn_128 5) (by omega) (fun q3 => ?_) (fun q3 => ?_)
    · skip
      exact c17 
    · skip
      refine mx_J.step (sn_128 8) (fun _ _ => rfl) ?_
      refine Jif_lt (show mx_Sn _ _ 9 (mx_if_lt 17 12) from sn_128 9) (by omega) (fun q4 => ?_) (fun q4 => ?_)
      · skip
        exact c17 
      · skip
        refine mx_J.step (sn_128 12) (fun _ _ => rfl) ?_
        refine JcI (z := 3) (show mx_Sn _ _ 13 (mx_const (.int 3) 14) from sn_128 13) rfl ?_
        refine Jicmp_le (show mx_Sn _ _ 14 (mx_icmp_le 20 17) from sn_128 14) (by omega) (by omega) (fun q5 => ?_) (fun q5 => ?_)
        · skip
          refine mx_J.step (sn_128 20) (fun _ _ => rfl) ?_
          have c30 : mx_J (tB l D b0 ad Hb tau) mt_128 (d + 2) 30 [some (.ref 1), some (xI 2), some (xI x1), some (xI x2)] [] h Post := by
            refine JcI (z := (-3)) (show mx_Sn _ _ 30 (mx_const (.int (-3)) 32) from sn_128 30) rfl ?_
            exact mx_J.ret (sn_128 32) (fun _ _ => rfl) (hP (-3) Z h hx hG fr_rf (by omega))
          refine Jif_lt (show mx_Sn _ _ 21 (mx_if_lt 30 24) from sn_128 21) (by omega) (fun q7 => ?_) (fun q7 => ?_)
          · skip
            exact c30 
          · skip
            refine mx_J.step (sn_128 24) (fun _ _ => rfl) ?_
            refine JcI (z := 40) (show mx_Sn _ _ 25 (mx_const (.int 40) 27) from sn_128 25) rfl ?_
            refine Jicmp_le (show mx_Sn _ _ 27 (mx_icmp_le 33 30) from sn_128 27) (by omega) (by omega) (fun q8 => ?_) (fun q8 => ?_)
            · skip
              refine mx_J.step (sn_128 33) (fun _ _ => rfl) ?_
              refine JgetR (g := 10) (b := 34) hx (show mx_Sn _ _ 34 (mx_getf 11 10 37) from sn_128 34) a1 s1 rfl rfl (hG.prr 1 10 rfl) ?_
              refine mx_J.step (sn_128 37) (fun _ _ => rfl) ?_
              refine JaaldR (i := 2) (b := 48) hx (show mx_Sn _ _ 38 (mx_aald 39) from sn_128 38) a34 s34 (by omega) (show Z 34 2 = 48 by have hq := GI_ex hG 34 2; replace hq : ((0 : Int) ≤ 2 → (2 : Int) ≤ 3 → (Z 34 2) = 44 + 2 * 2) := hq; omega) ?_
              refine mx_J.step (sn_128 39) (fun _ _ => rfl) ?_
              refine mx_J.step (sn_128 40) (fun _ _ => rfl) ?_
              obtain ⟨Z9, h9, hc9, hx9, hG9, hf9⟩ := ct_83_48 (d := d + 0) (l := l) (D := D) (b0 := b0) (ad := ad) (Hb := Hb) (tau := tau) hx hG (show 0 ≤ x1 ∧ x1 ≤ 3 by omega) (show 0 ≤ x2 ∧ x2 ≤ 40 by omega)
              refine Jcv0 hx (show mx_Sn _ _ 41 (mx_callv 83 3 10 44) from sn_128 41) a48 s48 hc9 rfl rfl rfl ?_
              refine JcI (z := 0) (show mx_Sn _ _ 44 (mx_const (.int 0) 45) from sn_128 44) rfl ?_
              exact mx_J.ret (sn_128 45) (fun _ _ => rfl) (hP 0 Z9 h9 hx9 hG9 (fr_tr (M := [(48, 1), (48, 2), (48, 3), (49, (-1))]) fr_rf (hf9) (M1 := []) rfl rfl) (by omega))
            · skip
              exact c30 
        · skip
          exact c17 
theorem ct_128_1_i2 {l : Launch} {D : va_G} {b0 : Nat} {ad : Nat → Nat} {Hb : Heap} {tau : Nat → Int64} {d n s : Nat} {S : Nat → xS} {Z : xZ} {h : mx_H} (hx : XH n s S Z h) (hG : GI n S Z) {x1 x2 : Int} (p1 : (-2147483648) ≤ x1 ∧ x1 ≤ 2147483647) (p2 : (-2147483648) ≤ x2 ∧ x2 ≤ 2147483647) : ∃ (z : Int) (Z' : xZ) (h' : mx_H), mx_Ca (tB l D b0 ad Hb tau) (d + 3) 128 [.ref 1, xI 2, xI x1, xI x2] h (some (xI z), h') ∧ XH n s S Z' h' ∧ GI n S Z' ∧ fr' [(48, 1), (48, 2), (48, 3), (49, (-1))] Z Z' ∧ ((-3) ≤ z ∧ z ≤ 0) := by
  obtain ⟨r, hca, z, Z', h', e, q⟩ := Jmt (B := tB l D b0 ad Hb tau) (M := mt_128) (mi := 128) (as := [.ref 1, xI 2, xI x1, xI x2]) (d := d + 2) (ls := [some (.ref 1), some (xI 2), some (xI x1), some (xI x2)]) rfl rfl rfl rfl rfl rfl (cw_128_1_i2 (l := l) (D := D) (b0 := b0) (ad := ad) (Hb := Hb) (tau := tau) (d := d) (Post := fun r => ∃ (z : Int) (Z' : xZ) (h' : mx_H), r = (some (xI z), h') ∧ XH n s S Z' h' ∧ GI n S Z' ∧ fr' [(48, 1), (48, 2), (48, 3), (49, (-1))] Z Z' ∧ ((-3) ≤ z ∧ z ≤ 0)) hx hG p1 p2 (fun z Z' h' q1 q2 q3 q4 => ⟨z, Z', h', rfl, q1, q2, q3, q4⟩))
  subst e; exact ⟨z, Z', h', hca, q⟩
set_option maxRecDepth 100000 in
theorem cw_128_1_i3 {l : Launch} {D : va_G} {b0 : Nat} {ad : Nat → Nat} {Hb : Heap} {tau : Nat → Int64} {d n s : Nat} {S : Nat → xS} {Z : xZ} {h : mx_H} {Post : mx_R → Prop} (hx : XH n s S Z h) (hG : GI n S Z) {x1 x2 : Int} (p1 : (-2147483648) ≤ x1 ∧ x1 ≤ 2147483647) (p2 : (-2147483648) ≤ x2 ∧ x2 ≤ 2147483647) (hP : ∀ (z : Int) (Z' : xZ) (h' : mx_H), XH n s S Z' h' → GI n S Z' → fr' [(50, 1), (50, 2), (50, 3), (51, (-1))] Z Z' → (-3) ≤ z ∧ z ≤ 0 → Post (some (xI z), h')) : mx_J (tB l D b0 ad Hb tau) mt_128 (d + 2) 0 [some (.ref 1), some (xI 3), some (xI x1), some (xI x2)] [] h Post := by
    have a1 : 1 < n := lt83 hG.1 rfl
    have s1 : S 1 = .inl (11, [2, 0, 0, 0, 2, 2, 2, 2, 2, 2, 2, 2, 2, 2, 2, 2, 2]) := hG.2.1 1 rfl
    have a34 : 34 < n := lt83 hG.1 rfl
    have s34 : S 34 = .inr ((.object "TitheHeap$Tray"), 4, 2) := hG.2.1 34 rfl
    have a50 : 50 < n := lt83 hG.1 rfl
    have s50 : S 50 = .inl (10, [2, 0, 0, 0]) := hG.2.1 50 rfl
    refine mx_J.step (sn_128 0) (fun _ _ => rfl) ?_
    refine mx_J.step (sn_128 1) (fun _ _ => rfl) ?_
    obtain ⟨z1, hc1, b1⟩ := ct_144_1_y (d := d + 1) (l := l) (D := D) (b0 := b0) (ad := ad) (Hb := Hb) (tau := tau) hx hG (show 0 ≤ 3 ∧ 3 ≤ 3 by omega)
    refine Jcv hx (show mx_Sn _ _ 2 (mx_callv 144 2 11 5) from sn_128 2) a1 s1 hc1 rfl rfl rfl ?_
    have c17 : mx_J (tB l D b0 ad Hb tau) mt_128 (d + 2) 17 [some (.ref 1), some (xI 3), some (xI x1), some (xI x2)] [] h Post := by
      refine JcI (z := (-2)) (show mx_Sn _ _ 17 (mx_const (.int (-2)) 19) from sn_128 17) rfl ?_
      exact mx_J.ret (sn_128 19) (fun _ _ => rfl) (hP (-2) Z h hx hG fr_rf (by omega))
    refine Jif_ne (show mx_Sn _ _ 5 (mx_if_ne 17 8) from sn_128 5) (by omega) (fun q3 => ?_) (fun q3 => ?_)
    · skip
      exact c17 
    · skip
      refine mx_J.step (sn_128 8) (fun _ _ => rfl) ?_
      refine Jif_lt (show mx_Sn _ _ 9 (mx_if_lt 17 12) from sn_128 9) (by omega) (fun q4 => ?_) (fun q4 => ?_)
      · skip
        exact c17 
      · skip
        refine mx_J.step (sn_128 12) (fun _ _ => rfl) ?_
        refine JcI (z := 3) (show mx_Sn _ _ 13 (mx_const (.int 3) 14) from sn_128 13) rfl ?_
        refine Jicmp_le (show mx_Sn _ _ 14 (mx_icmp_le 20 17) from sn_128 14) (by omega) (by omega) (fun q5 => ?_) (fun q5 => ?_)
        · skip
          refine mx_J.step (sn_128 20) (fun _ _ => rfl) ?_
          have c30 : mx_J (tB l D b0 ad Hb tau) mt_128 (d + 2) 30 [some (.ref 1), some (xI 3), some (xI x1), some (xI x2)] [] h Post := by
            refine JcI (z := (-3)) (show mx_Sn _ _ 30 (mx_const (.int (-3)) 32) from sn_128 30) rfl ?_
            exact mx_J.ret (sn_128 32) (fun _ _ => rfl) (hP (-3) Z h hx hG fr_rf (by omega))
          refine Jif_lt (show mx_Sn _ _ 21 (mx_if_lt 30 24) from sn_128 21) (by omega) (fun q7 => ?_) (fun q7 => ?_)
          · skip
            exact c30 
          · skip
            refine mx_J.step (sn_128 24) (fun _ _ => rfl) ?_
            refine JcI (z := 40) (show mx_Sn _ _ 25 (mx_const (.int 40) 27) from sn_128 25) rfl ?_
            refine Jicmp_le (show mx_Sn _ _ 27 (mx_icmp_le 33 30) from sn_128 27) (by omega) (by omega) (fun q8 => ?_) (fun q8 => ?_)
            · skip
              refine mx_J.step (sn_128 33) (fun _ _ => rfl) ?_
              refine JgetR (g := 10) (b := 34) hx (show mx_Sn _ _ 34 (mx_getf 11 10 37) from sn_128 34) a1 s1 rfl rfl (hG.prr 1 10 rfl) ?_
              refine mx_J.step (sn_128 37) (fun _ _ => rfl) ?_
              refine JaaldR (i := 3) (b := 50) hx (show mx_Sn _ _ 38 (mx_aald 39) from sn_128 38) a34 s34 (by omega) (show Z 34 3 = 50 by have hq := GI_ex hG 34 3; replace hq : ((0 : Int) ≤ 3 → (3 : Int) ≤ 3 → (Z 34 3) = 44 + 2 * 3) := hq; omega) ?_
              refine mx_J.step (sn_128 39) (fun _ _ => rfl) ?_
              refine mx_J.step (sn_128 40) (fun _ _ => rfl) ?_
              obtain ⟨Z9, h9, hc9, hx9, hG9, hf9⟩ := ct_83_50 (d := d + 0) (l := l) (D := D) (b0 := b0) (ad := ad) (Hb := Hb) (tau := tau) hx hG (show 0 ≤ x1 ∧ x1 ≤ 3 by omega) (show 0 ≤ x2 ∧ x2 ≤ 40 by omega)
              refine Jcv0 hx (show mx_Sn _ _ 41 (mx_callv 83 3 10 44) from sn_128 41) a50 s50 hc9 rfl rfl rfl ?_
              refine JcI (z := 0) (show mx_Sn _ _ 44 (mx_const (.int 0) 45) from sn_128 44) rfl ?_
              exact mx_J.ret (sn_128 45) (fun _ _ => rfl) (hP 0 Z9 h9 hx9 hG9 (fr_tr (M := [(50, 1), (50, 2), (50, 3), (51, (-1))]) fr_rf (hf9) (M1 := []) rfl rfl) (by omega))
            · skip
              exact c30 
        · skip
          exact c17 
theorem ct_128_1_i3 {l : Launch} {D : va_G} {b0 : Nat} {ad : Nat → Nat} {Hb : Heap} {tau : Nat → Int64} {d n s : Nat} {S : Nat → xS} {Z : xZ} {h : mx_H} (hx : XH n s S Z h) (hG : GI n S Z) {x1 x2 : Int} (p1 : (-2147483648) ≤ x1 ∧ x1 ≤ 2147483647) (p2 : (-2147483648) ≤ x2 ∧ x2 ≤ 2147483647) : ∃ (z : Int) (Z' : xZ) (h' : mx_H), mx_Ca (tB l D b0 ad Hb tau) (d + 3) 128 [.ref 1, xI 3, xI x1, xI x2] h (some (xI z), h') ∧ XH n s S Z' h' ∧ GI n S Z' ∧ fr' [(50, 1), (50, 2), (50, 3), (51, (-1))] Z Z' ∧ ((-3) ≤ z ∧ z ≤ 0) := by
  obtain ⟨r, hca, z, Z', h', e, q⟩ := Jmt (B := tB l D b0 ad Hb tau) (M := mt_128) (mi := 128) (as := [.ref 1, xI 3, xI x1, xI x2]) (d := d + 2) (ls := [some (.ref 1), some (xI 3), some (xI x1), some (xI x2)]) rfl rfl rfl rfl rfl rfl (cw_128_1_i3 (l := l) (D := D) (b0 := b0) (ad := ad) (Hb := Hb) (tau := tau) (d := d) (Post := fun r => ∃ (z : Int) (Z' : xZ) (h' : mx_H), r = (some (xI z), h') ∧ XH n s S Z' h' ∧ GI n S Z' ∧ fr' [(50, 1), (50, 2), (50, 3), (51, (-1))] Z Z' ∧ ((-3) ≤ z ∧ z ≤ 0)) hx hG p1 p2 (fun z Z' h' q1 q2 q3 q4 => ⟨z, Z', h', rfl, q1, q2, q3, q4⟩))
  subst e; exact ⟨z, Z', h', hca, q⟩
set_option maxRecDepth 100000 in
theorem cw_128_1_n {l : Launch} {D : va_G} {b0 : Nat} {ad : Nat → Nat} {Hb : Heap} {tau : Nat → Int64} {d n s : Nat} {S : Nat → xS} {Z : xZ} {h : mx_H} {Post : mx_R → Prop} (hx : XH n s S Z h) (hG : GI n S Z) {x0 x1 x2 : Int} (p0 : (-2147483648) ≤ x0 ∧ x0 ≤ (-1)) (p1 : (-2147483648) ≤ x1 ∧ x1 ≤ 2147483647) (p2 : (-2147483648) ≤ x2 ∧ x2 ≤ 2147483647) (hP : ∀ z : Int, (-2) ≤ z ∧ z ≤ (-2) → Post (some (xI z), h)) : mx_J (tB l D b0 ad Hb tau) mt_128 (d + 1) 0 [some (.ref 1), some (xI x0), some (xI x1), some (xI x2)] [] h Post := by
    have a1 : 1 < n := lt83 hG.1 rfl
    have s1 : S 1 = .inl (11, [2, 0, 0, 0, 2, 2, 2, 2, 2, 2, 2, 2, 2, 2, 2, 2, 2]) := hG.2.1 1 rfl
    refine mx_J.step (sn_128 0) (fun _ _ => rfl) ?_
    refine mx_J.step (sn_128 1) (fun _ _ => rfl) ?_
    obtain ⟨z1, hc1, b1⟩ := ct_144_1_n (d := d + 0) (l := l) (D := D) (b0 := b0) (ad := ad) (Hb := Hb) (tau := tau) hx hG (show (-2147483648) ≤ x0 ∧ x0 ≤ (-1) by omega)
    refine Jcv hx (show mx_Sn _ _ 2 (mx_callv 144 2 11 5) from sn_128 2) a1 s1 hc1 rfl rfl rfl ?_
    refine Jif_ne (show mx_Sn _ _ 5 (mx_if_ne 17 8) from sn_128 5) (by omega) (fun q2 => ?_) (fun q2 => ?_)
    · skip
      refine JcI (z := (-2)) (show mx_Sn _ _ 17 (mx_const (.int (-2)) 19) from sn_128 17) rfl ?_
      exact mx_J.ret (sn_128 19) (fun _ _ => rfl) (hP (-2) (by omega))
    · skip
      exfalso; omega
theorem ct_128_1_n {l : Launch} {D : va_G} {b0 : Nat} {ad : Nat → Nat} {Hb : Heap} {tau : Nat → Int64} {d n s : Nat} {S : Nat → xS} {Z : xZ} {h : mx_H} (hx : XH n s S Z h) (hG : GI n S Z) {x0 x1 x2 : Int} (p0 : (-2147483648) ≤ x0 ∧ x0 ≤ (-1)) (p1 : (-2147483648) ≤ x1 ∧ x1 ≤ 2147483647) (p2 : (-2147483648) ≤ x2 ∧ x2 ≤ 2147483647) : ∃ z : Int, mx_Ca (tB l D b0 ad Hb tau) (d + 2) 128 [.ref 1, xI x0, xI x1, xI x2] h (some (xI z), h) ∧ ((-2) ≤ z ∧ z ≤ (-2)) := by
  obtain ⟨r, hca, z, e, hp⟩ := Jmt (B := tB l D b0 ad Hb tau) (M := mt_128) (mi := 128) (as := [.ref 1, xI x0, xI x1, xI x2]) (d := d + 1) (ls := [some (.ref 1), some (xI x0), some (xI x1), some (xI x2)]) rfl rfl rfl rfl rfl rfl (cw_128_1_n (l := l) (D := D) (b0 := b0) (ad := ad) (Hb := Hb) (tau := tau) (d := d) (Post := fun r => ∃ z : Int, r = (some (xI z), h) ∧ ((-2) ≤ z ∧ z ≤ (-2))) hx hG p0 p1 p2 (fun z hz => ⟨z, rfl, hz⟩))
  subst e; exact ⟨z, hca, hp⟩
set_option maxRecDepth 100000 in
theorem cw_128_1_p {l : Launch} {D : va_G} {b0 : Nat} {ad : Nat → Nat} {Hb : Heap} {tau : Nat → Int64} {d n s : Nat} {S : Nat → xS} {Z : xZ} {h : mx_H} {Post : mx_R → Prop} (hx : XH n s S Z h) (hG : GI n S Z) {x0 x1 x2 : Int} (p0 : 4 ≤ x0 ∧ x0 ≤ 2147483647) (p1 : (-2147483648) ≤ x1 ∧ x1 ≤ 2147483647) (p2 : (-2147483648) ≤ x2 ∧ x2 ≤ 2147483647) (hP : ∀ z : Int, (-2) ≤ z ∧ z ≤ (-2) → Post (some (xI z), h)) : mx_J (tB l D b0 ad Hb tau) mt_128 (d + 1) 0 [some (.ref 1), some (xI x0), some (xI x1), some (xI x2)] [] h Post := by
    have a1 : 1 < n := lt83 hG.1 rfl
    have s1 : S 1 = .inl (11, [2, 0, 0, 0, 2, 2, 2, 2, 2, 2, 2, 2, 2, 2, 2, 2, 2]) := hG.2.1 1 rfl
    refine mx_J.step (sn_128 0) (fun _ _ => rfl) ?_
    refine mx_J.step (sn_128 1) (fun _ _ => rfl) ?_
    obtain ⟨z1, hc1, b1⟩ := ct_144_1_p (d := d + 0) (l := l) (D := D) (b0 := b0) (ad := ad) (Hb := Hb) (tau := tau) hx hG (show 4 ≤ x0 ∧ x0 ≤ 2147483647 by omega)
    refine Jcv hx (show mx_Sn _ _ 2 (mx_callv 144 2 11 5) from sn_128 2) a1 s1 hc1 rfl rfl rfl ?_
    refine Jif_ne (show mx_Sn _ _ 5 (mx_if_ne 17 8) from sn_128 5) (by omega) (fun q2 => ?_) (fun q2 => ?_)
    · skip
      refine JcI (z := (-2)) (show mx_Sn _ _ 17 (mx_const (.int (-2)) 19) from sn_128 17) rfl ?_
      exact mx_J.ret (sn_128 19) (fun _ _ => rfl) (hP (-2) (by omega))
    · skip
      exfalso; omega
theorem ct_128_1_p {l : Launch} {D : va_G} {b0 : Nat} {ad : Nat → Nat} {Hb : Heap} {tau : Nat → Int64} {d n s : Nat} {S : Nat → xS} {Z : xZ} {h : mx_H} (hx : XH n s S Z h) (hG : GI n S Z) {x0 x1 x2 : Int} (p0 : 4 ≤ x0 ∧ x0 ≤ 2147483647) (p1 : (-2147483648) ≤ x1 ∧ x1 ≤ 2147483647) (p2 : (-2147483648) ≤ x2 ∧ x2 ≤ 2147483647) : ∃ z : Int, mx_Ca (tB l D b0 ad Hb tau) (d + 2) 128 [.ref 1, xI x0, xI x1, xI x2] h (some (xI z), h) ∧ ((-2) ≤ z ∧ z ≤ (-2)) := by
  obtain ⟨r, hca, z, e, hp⟩ := Jmt (B := tB l D b0 ad Hb tau) (M := mt_128) (mi := 128) (as := [.ref 1, xI x0, xI x1, xI x2]) (d := d + 1) (ls := [some (.ref 1), some (xI x0), some (xI x1), some (xI x2)]) rfl rfl rfl rfl rfl rfl (cw_128_1_p (l := l) (D := D) (b0 := b0) (ad := ad) (Hb := Hb) (tau := tau) (d := d) (Post := fun r => ∃ z : Int, r = (some (xI z), h) ∧ ((-2) ≤ z ∧ z ≤ (-2))) hx hG p0 p1 p2 (fun z hz => ⟨z, rfl, hz⟩))
  subst e; exact ⟨z, hca, hp⟩
theorem ct_128_1 {l : Launch} {D : va_G} {b0 : Nat} {ad : Nat → Nat} {Hb : Heap} {tau : Nat → Int64} {d n s : Nat} {S : Nat → xS} {Z : xZ} {h : mx_H} (hx : XH n s S Z h) (hG : GI n S Z) {x0 x1 x2 : Int} (p0 : (-2147483648) ≤ x0 ∧ x0 ≤ 2147483647) (p1 : (-2147483648) ≤ x1 ∧ x1 ≤ 2147483647) (p2 : (-2147483648) ≤ x2 ∧ x2 ≤ 2147483647) : ∃ (z : Int) (Z' : xZ) (h' : mx_H), mx_Ca (tB l D b0 ad Hb tau) (d + 3) 128 [.ref 1, xI x0, xI x1, xI x2] h (some (xI z), h') ∧ XH n s S Z' h' ∧ GI n S Z' ∧ fr' [(44, 1), (44, 2), (44, 3), (45, (-1)), (46, 1), (46, 2), (46, 3), (47, (-1)), (48, 1), (48, 2), (48, 3), (49, (-1)), (50, 1), (50, 2), (50, 3), (51, (-1))] Z Z' ∧ ((-3) ≤ z ∧ z ≤ 0) := by
  have hc : x0 = 0 ∨ x0 = 1 ∨ x0 = 2 ∨ x0 = 3 ∨ ((-2147483648) ≤ x0 ∧ x0 ≤ (-1)) ∨ (4 ≤ x0 ∧ x0 ≤ 2147483647) := by omega
  rcases hc with hc | hc | hc | hc | hc | hc
  · subst hc
    obtain ⟨z, Z', h', hca, q1, q2, q3, b⟩ := ct_128_1_i0 (d := d + 0) (l := l) (D := D) (b0 := b0) (ad := ad) (Hb := Hb) (tau := tau) hx hG p1 p2
    exact ⟨z, Z', h', hca, q1, q2, fr_tr (M1 := []) fr_rf q3 rfl rfl, by omega⟩
  · subst hc
    obtain ⟨z, Z', h', hca, q1, q2, q3, b⟩ := ct_128_1_i1 (d := d + 0) (l := l) (D := D) (b0 := b0) (ad := ad) (Hb := Hb) (tau := tau) hx hG p1 p2
    exact ⟨z, Z', h', hca, q1, q2, fr_tr (M1 := []) fr_rf q3 rfl rfl, by omega⟩
  · subst hc
    obtain ⟨z, Z', h', hca, q1, q2, q3, b⟩ := ct_128_1_i2 (d := d + 0) (l := l) (D := D) (b0 := b0) (ad := ad) (Hb := Hb) (tau := tau) hx hG p1 p2
    exact ⟨z, Z', h', hca, q1, q2, fr_tr (M1 := []) fr_rf q3 rfl rfl, by omega⟩
  · subst hc
    obtain ⟨z, Z', h', hca, q1, q2, q3, b⟩ := ct_128_1_i3 (d := d + 0) (l := l) (D := D) (b0 := b0) (ad := ad) (Hb := Hb) (tau := tau) hx hG p1 p2
    exact ⟨z, Z', h', hca, q1, q2, fr_tr (M1 := []) fr_rf q3 rfl rfl, by omega⟩
  · skip
    obtain ⟨z, hca, b⟩ := ct_128_1_n (d := d + 1) (l := l) (D := D) (b0 := b0) (ad := ad) (Hb := Hb) (tau := tau) hx hG hc p1 p2
    exact ⟨z, Z, h, hca, hx, hG, fr_rf, by omega⟩
  · skip
    obtain ⟨z, hca, b⟩ := ct_128_1_p (d := d + 1) (l := l) (D := D) (b0 := b0) (ad := ad) (Hb := Hb) (tau := tau) hx hG hc p1 p2
    exact ⟨z, Z, h, hca, hx, hG, fr_rf, by omega⟩
set_option maxRecDepth 100000 in
theorem cw_129_1_i0 {l : Launch} {D : va_G} {b0 : Nat} {ad : Nat → Nat} {Hb : Heap} {tau : Nat → Int64} {d n s : Nat} {S : Nat → xS} {Z : xZ} {h : mx_H} {Post : mx_R → Prop} (hx : XH n s S Z h) (hG : GI n S Z) {x1 x2 : Int} (p1 : (-2147483648) ≤ x1 ∧ x1 ≤ 2147483647) (p2 : (-9223372036854775808) ≤ x2 ∧ x2 ≤ 9223372036854775807) (hP : ∀ (z : Int) (Z' : xZ) (h' : mx_H), XH n s S Z' h' → GI n S Z' → fr' [(45, (-1))] Z Z' → (-9223372036854775808) ≤ z ∧ z ≤ 9223372036854775807 → Post (some (xL z), h')) : mx_J (tB l D b0 ad Hb tau) mt_129 (d + 1) 0 [some (.ref 1), some (xI 0), some (xI x1), some (xL x2), none] [] h Post := by
    have a1 : 1 < n := lt83 hG.1 rfl
    have s1 : S 1 = .inl (11, [2, 0, 0, 0, 2, 2, 2, 2, 2, 2, 2, 2, 2, 2, 2, 2, 2]) := hG.2.1 1 rfl
    have a34 : 34 < n := lt83 hG.1 rfl
    have s34 : S 34 = .inr ((.object "TitheHeap$Tray"), 4, 2) := hG.2.1 34 rfl
    have a44 : 44 < n := lt83 hG.1 rfl
    have s44 : S 44 = .inl (10, [2, 0, 0, 0]) := hG.2.1 44 rfl
    refine mx_J.step (sn_129 0) (fun _ _ => rfl) ?_
    refine mx_J.step (sn_129 1) (fun _ _ => rfl) ?_
    obtain ⟨z1, hc1, b1⟩ := ct_144_1_y (d := d + 0) (l := l) (D := D) (b0 := b0) (ad := ad) (Hb := Hb) (tau := tau) hx hG (show 0 ≤ 0 ∧ 0 ≤ 3 by omega)
    refine Jcv hx (show mx_Sn _ _ 2 (mx_callv 144 2 11 5) from sn_129 2) a1 s1 hc1 rfl rfl rfl ?_
    refine Jif_eq (show mx_Sn _ _ 5 (mx_if_eq 12 8) from sn_129 5) (by omega) (fun q2 => ?_) (fun q2 => ?_)
    · skip
      refine mx_J.step (sn_129 12) (fun _ _ => rfl) ?_
      refine JgetR (g := 10) (b := 34) hx (show mx_Sn _ _ 13 (mx_getf 11 10 16) from sn_129 13) a1 s1 rfl rfl (hG.prr 1 10 rfl) ?_
      refine mx_J.step (sn_129 16) (fun _ _ => rfl) ?_
      refine JaaldR (i := 0) (b := 44) hx (show mx_Sn _ _ 17 (mx_aald 18) from sn_129 17) a34 s34 (by omega) (show Z 34 0 = 44 by have hq := GI_ex hG 34 0; replace hq : ((0 : Int) ≤ 0 → (0 : Int) ≤ 3 → (Z 34 0) = 44 + 2 * 0) := hq; omega) ?_
      have b3 : 0 ≤ Z 44 3 ∧ Z 44 3 ≤ 1 := hG.pr 44 3
      refine JgetI (g := 3) (z := Z 44 3) hx (show mx_Sn _ _ 18 (mx_getf 10 3 21) from sn_129 18) a44 s44 rfl rfl rfl ?_
      refine Jif_eq (show mx_Sn _ _ 21 (mx_if_eq 28 24) from sn_129 21) (by omega) (fun q4 => ?_) (fun q4 => ?_)
      · skip
        refine mx_J.step (sn_129 28) (fun _ _ => rfl) ?_
        have c45 : mx_J (tB l D b0 ad Hb tau) mt_129 (d + 1) 45 [some (.ref 1), some (xI 0), some (xI x1), some (xL x2), none] [] h Post := by
          refine JcL (z := (-7)) (show mx_Sn _ _ 45 (mx_const (.long (-7)) 48) from sn_129 45) rfl ?_
          exact mx_J.ret (sn_129 48) (fun _ _ => rfl) (hP (-7) Z h hx hG fr_rf (by omega))
        refine Jif_lt (show mx_Sn _ _ 29 (mx_if_lt 45 32) from sn_129 29) (by omega) (fun q6 => ?_) (fun q6 => ?_)
        · skip
          exact c45 
        · skip
          refine mx_J.step (sn_129 32) (fun _ _ => rfl) ?_
          refine mx_J.step (sn_129 33) (fun _ _ => rfl) ?_
          refine JgetR (g := 10) (b := 34) hx (show mx_Sn _ _ 34 (mx_getf 11 10 37) from sn_129 34) a1 s1 rfl rfl (hG.prr 1 10 rfl) ?_
          refine mx_J.step (sn_129 37) (fun _ _ => rfl) ?_
          refine JaaldR (i := 0) (b := 44) hx (show mx_Sn _ _ 38 (mx_aald 39) from sn_129 38) a34 s34 (by omega) (show Z 34 0 = 44 by have hq := GI_ex hG 34 0; replace hq : ((0 : Int) ≤ 0 → (0 : Int) ≤ 3 → (Z 34 0) = 44 + 2 * 0) := hq; omega) ?_
          have b7 : 0 ≤ Z 44 2 ∧ Z 44 2 ≤ 40 := hG.pr 44 2
          refine JgetI (g := 2) (z := Z 44 2) hx (show mx_Sn _ _ 39 (mx_getf 10 2 42) from sn_129 39) a44 s44 rfl rfl rfl ?_
          refine Jicmp_lt (show mx_Sn _ _ 42 (mx_icmp_lt 49 45) from sn_129 42) (by omega) (by omega) (fun q8 => ?_) (fun q8 => ?_)
          · skip
            refine mx_J.step (sn_129 49) (fun _ _ => rfl) ?_
            refine JgetR (g := 10) (b := 34) hx (show mx_Sn _ _ 50 (mx_getf 11 10 53) from sn_129 50) a1 s1 rfl rfl (hG.prr 1 10 rfl) ?_
            refine mx_J.step (sn_129 53) (fun _ _ => rfl) ?_
            refine JaaldR (i := 0) (b := 44) hx (show mx_Sn _ _ 54 (mx_aald 55) from sn_129 54) a34 s34 (by omega) (show Z 34 0 = 44 by have hq := GI_ex hG 34 0; replace hq : ((0 : Int) ≤ 0 → (0 : Int) ≤ 3 → (Z 34 0) = 44 + 2 * 0) := hq; omega) ?_
            refine mx_J.step (sn_129 55) (fun _ _ => rfl) ?_
            refine mx_J.step (sn_129 56) (fun _ _ => rfl) ?_
            obtain ⟨Z9, h9, hc9, hx9, hG9, hf9⟩ := ct_84_44 (d := d + 0) (l := l) (D := D) (b0 := b0) (ad := ad) (Hb := Hb) (tau := tau) hx hG (show (-2147483648) ≤ x1 ∧ x1 ≤ 2147483647 by omega) (show (-9223372036854775808) ≤ x2 ∧ x2 ≤ 9223372036854775807 by omega)
            refine Jcv0 hx (show mx_Sn _ _ 57 (mx_callv 84 3 10 60) from sn_129 57) a44 s44 hc9 rfl rfl rfl ?_
            refine mx_J.step (sn_129 60) (fun _ _ => rfl) ?_
            refine JgetR (g := 10) (b := 34) hx9 (show mx_Sn _ _ 61 (mx_getf 11 10 64) from sn_129 61) a1 s1 rfl rfl (hG9.prr 1 10 rfl) ?_
            refine mx_J.step (sn_129 64) (fun _ _ => rfl) ?_
            refine JaaldR (i := 0) (b := 44) hx9 (show mx_Sn _ _ 65 (mx_aald 66) from sn_129 65) a34 s34 (by omega) (show Z9 34 0 = 44 by have hq := GI_ex hG9 34 0; replace hq : ((0 : Int) ≤ 0 → (0 : Int) ≤ 3 → (Z9 34 0) = 44 + 2 * 0) := hq; omega) ?_
            refine mx_J.step (sn_129 66) (fun _ _ => rfl) ?_
            obtain ⟨z10, hc10, b10⟩ := ct_85_44 (d := d + 0) (l := l) (D := D) (b0 := b0) (ad := ad) (Hb := Hb) (tau := tau) hx9 hG9 (show (-2147483648) ≤ x1 ∧ x1 ≤ 2147483647 by omega)
            refine Jcv hx9 (show mx_Sn _ _ 67 (mx_callv 85 2 10 70) from sn_129 67) a44 s44 hc10 rfl rfl rfl ?_
            exact mx_J.ret (sn_129 70) (fun _ _ => rfl) (hP z10 Z9 h9 hx9 hG9 (fr_tr (M := [(45, (-1))]) fr_rf (hf9) (M1 := []) rfl rfl) (by omega))
          · skip
            exact c45 
      · skip
        refine JcL (z := (-6)) (show mx_Sn _ _ 24 (mx_const (.long (-6)) 27) from sn_129 24) rfl ?_
        exact mx_J.ret (sn_129 27) (fun _ _ => rfl) (hP (-6) Z h hx hG fr_rf (by omega))
    · skip
      exfalso; omega
theorem ct_129_1_i0 {l : Launch} {D : va_G} {b0 : Nat} {ad : Nat → Nat} {Hb : Heap} {tau : Nat → Int64} {d n s : Nat} {S : Nat → xS} {Z : xZ} {h : mx_H} (hx : XH n s S Z h) (hG : GI n S Z) {x1 x2 : Int} (p1 : (-2147483648) ≤ x1 ∧ x1 ≤ 2147483647) (p2 : (-9223372036854775808) ≤ x2 ∧ x2 ≤ 9223372036854775807) : ∃ (z : Int) (Z' : xZ) (h' : mx_H), mx_Ca (tB l D b0 ad Hb tau) (d + 2) 129 [.ref 1, xI 0, xI x1, xL x2] h (some (xL z), h') ∧ XH n s S Z' h' ∧ GI n S Z' ∧ fr' [(45, (-1))] Z Z' ∧ ((-9223372036854775808) ≤ z ∧ z ≤ 9223372036854775807) := by
  obtain ⟨r, hca, z, Z', h', e, q⟩ := Jmt (B := tB l D b0 ad Hb tau) (M := mt_129) (mi := 129) (as := [.ref 1, xI 0, xI x1, xL x2]) (d := d + 1) (ls := [some (.ref 1), some (xI 0), some (xI x1), some (xL x2), none]) rfl rfl rfl rfl rfl rfl (cw_129_1_i0 (l := l) (D := D) (b0 := b0) (ad := ad) (Hb := Hb) (tau := tau) (d := d) (Post := fun r => ∃ (z : Int) (Z' : xZ) (h' : mx_H), r = (some (xL z), h') ∧ XH n s S Z' h' ∧ GI n S Z' ∧ fr' [(45, (-1))] Z Z' ∧ ((-9223372036854775808) ≤ z ∧ z ≤ 9223372036854775807)) hx hG p1 p2 (fun z Z' h' q1 q2 q3 q4 => ⟨z, Z', h', rfl, q1, q2, q3, q4⟩))
  subst e; exact ⟨z, Z', h', hca, q⟩
set_option maxRecDepth 100000 in
theorem cw_129_1_i1 {l : Launch} {D : va_G} {b0 : Nat} {ad : Nat → Nat} {Hb : Heap} {tau : Nat → Int64} {d n s : Nat} {S : Nat → xS} {Z : xZ} {h : mx_H} {Post : mx_R → Prop} (hx : XH n s S Z h) (hG : GI n S Z) {x1 x2 : Int} (p1 : (-2147483648) ≤ x1 ∧ x1 ≤ 2147483647) (p2 : (-9223372036854775808) ≤ x2 ∧ x2 ≤ 9223372036854775807) (hP : ∀ (z : Int) (Z' : xZ) (h' : mx_H), XH n s S Z' h' → GI n S Z' → fr' [(47, (-1))] Z Z' → (-9223372036854775808) ≤ z ∧ z ≤ 9223372036854775807 → Post (some (xL z), h')) : mx_J (tB l D b0 ad Hb tau) mt_129 (d + 1) 0 [some (.ref 1), some (xI 1), some (xI x1), some (xL x2), none] [] h Post := by
    have a1 : 1 < n := lt83 hG.1 rfl
    have s1 : S 1 = .inl (11, [2, 0, 0, 0, 2, 2, 2, 2, 2, 2, 2, 2, 2, 2, 2, 2, 2]) := hG.2.1 1 rfl
    have a34 : 34 < n := lt83 hG.1 rfl
    have s34 : S 34 = .inr ((.object "TitheHeap$Tray"), 4, 2) := hG.2.1 34 rfl
    have a46 : 46 < n := lt83 hG.1 rfl
    have s46 : S 46 = .inl (10, [2, 0, 0, 0]) := hG.2.1 46 rfl
    refine mx_J.step (sn_129 0) (fun _ _ => rfl) ?_
    refine mx_J.step (sn_129 1) (fun _ _ => rfl) ?_
    obtain ⟨z1, hc1, b1⟩ := ct_144_1_y (d := d + 0) (l := l) (D := D) (b0 := b0) (ad := ad) (Hb := Hb) (tau := tau) hx hG (show 0 ≤ 1 ∧ 1 ≤ 3 by omega)
    refine Jcv hx (show mx_Sn _ _ 2 (mx_callv 144 2 11 5) from sn_129 2) a1 s1 hc1 rfl rfl rfl ?_
    refine Jif_eq (show mx_Sn _ _ 5 (mx_if_eq 12 8) from sn_129 5) (by omega) (fun q2 => ?_) (fun q2 => ?_)
    · skip
      refine mx_J.step (sn_129 12) (fun _ _ => rfl) ?_
      refine JgetR (g := 10) (b := 34) hx (show mx_Sn _ _ 13 (mx_getf 11 10 16) from sn_129 13) a1 s1 rfl rfl (hG.prr 1 10 rfl) ?_
      refine mx_J.step (sn_129 16) (fun _ _ => rfl) ?_
      refine JaaldR (i := 1) (b := 46) hx (show mx_Sn _ _ 17 (mx_aald 18) from sn_129 17) a34 s34 (by omega) (show Z 34 1 = 46 by have hq := GI_ex hG 34 1; replace hq : ((0 : Int) ≤ 1 → (1 : Int) ≤ 3 → (Z 34 1) = 44 + 2 * 1) := hq; omega) ?_
      have b3 : 0 ≤ Z 46 3 ∧ Z 46 3 ≤ 1 := hG.pr 46 3
      refine JgetI (g := 3) (z := Z 46 3) hx (show mx_Sn _ _ 18 (mx_getf 10 3 21) from sn_129 18) a46 s46 rfl rfl rfl ?_
      refine Jif_eq (show mx_Sn _ _ 21 (mx_if_eq 28 24) from sn_129 21) (by omega) (fun q4 => ?_) (fun q4 => ?_)
      · skip
        refine mx_J.step (sn_129 28) (fun _ _ => rfl) ?_
        have c45 : mx_J (tB l D b0 ad Hb tau) mt_129 (d + 1) 45 [some (.ref 1), some (xI 1), some (xI x1), some (xL x2), none] [] h Post := by
          refine JcL (z := (-7)) (show mx_Sn _ _ 45 (mx_const (.long (-7)) 48) from sn_129 45) rfl ?_
          exact mx_J.ret (sn_129 48) (fun _ _ => rfl) (hP (-7) Z h hx hG fr_rf (by omega))
        refine Jif_lt (show mx_Sn _ _ 29 (mx_if_lt 45 32) from sn_129 29) (by omega) (fun q6 => ?_) (fun q6 => ?_)
        · skip
          exact c45 
        · skip
          refine mx_J.step (sn_129 32) (fun _ _ => rfl) ?_
          refine mx_J.step (sn_129 33) (fun _ _ => rfl) ?_
          refine JgetR (g := 10) (b := 34) hx (show mx_Sn _ _ 34 (mx_getf 11 10 37) from sn_129 34) a1 s1 rfl rfl (hG.prr 1 10 rfl) ?_
          refine mx_J.step (sn_129 37) (fun _ _ => rfl) ?_
          refine JaaldR (i := 1) (b := 46) hx (show mx_Sn _ _ 38 (mx_aald 39) from sn_129 38) a34 s34 (by omega) (show Z 34 1 = 46 by have hq := GI_ex hG 34 1; replace hq : ((0 : Int) ≤ 1 → (1 : Int) ≤ 3 → (Z 34 1) = 44 + 2 * 1) := hq; omega) ?_
          have b7 : 0 ≤ Z 46 2 ∧ Z 46 2 ≤ 40 := hG.pr 46 2
          refine JgetI (g := 2) (z := Z 46 2) hx (show mx_Sn _ _ 39 (mx_getf 10 2 42) from sn_129 39) a46 s46 rfl rfl rfl ?_
          refine Jicmp_lt (show mx_Sn _ _ 42 (mx_icmp_lt 49 45) from sn_129 42) (by omega) (by omega) (fun q8 => ?_) (fun q8 => ?_)
          · skip
            refine mx_J.step (sn_129 49) (fun _ _ => rfl) ?_
            refine JgetR (g := 10) (b := 34) hx (show mx_Sn _ _ 50 (mx_getf 11 10 53) from sn_129 50) a1 s1 rfl rfl (hG.prr 1 10 rfl) ?_
            refine mx_J.step (sn_129 53) (fun _ _ => rfl) ?_
            refine JaaldR (i := 1) (b := 46) hx (show mx_Sn _ _ 54 (mx_aald 55) from sn_129 54) a34 s34 (by omega) (show Z 34 1 = 46 by have hq := GI_ex hG 34 1; replace hq : ((0 : Int) ≤ 1 → (1 : Int) ≤ 3 → (Z 34 1) = 44 + 2 * 1) := hq; omega) ?_
            refine mx_J.step (sn_129 55) (fun _ _ => rfl) ?_
            refine mx_J.step (sn_129 56) (fun _ _ => rfl) ?_
            obtain ⟨Z9, h9, hc9, hx9, hG9, hf9⟩ := ct_84_46 (d := d + 0) (l := l) (D := D) (b0 := b0) (ad := ad) (Hb := Hb) (tau := tau) hx hG (show (-2147483648) ≤ x1 ∧ x1 ≤ 2147483647 by omega) (show (-9223372036854775808) ≤ x2 ∧ x2 ≤ 9223372036854775807 by omega)
            refine Jcv0 hx (show mx_Sn _ _ 57 (mx_callv 84 3 10 60) from sn_129 57) a46 s46 hc9 rfl rfl rfl ?_
            refine mx_J.step (sn_129 60) (fun _ _ => rfl) ?_
            refine JgetR (g := 10) (b := 34) hx9 (show mx_Sn _ _ 61 (mx_getf 11 10 64) from sn_129 61) a1 s1 rfl rfl (hG9.prr 1 10 rfl) ?_
            refine mx_J.step (sn_129 64) (fun _ _ => rfl) ?_
            refine JaaldR (i := 1) (b := 46) hx9 (show mx_Sn _ _ 65 (mx_aald 66) from sn_129 65) a34 s34 (by omega) (show Z9 34 1 = 46 by have hq := GI_ex hG9 34 1; replace hq : ((0 : Int) ≤ 1 → (1 : Int) ≤ 3 → (Z9 34 1) = 44 + 2 * 1) := hq; omega) ?_
            refine mx_J.step (sn_129 66) (fun _ _ => rfl) ?_
            obtain ⟨z10, hc10, b10⟩ := ct_85_46 (d := d + 0) (l := l) (D := D) (b0 := b0) (ad := ad) (Hb := Hb) (tau := tau) hx9 hG9 (show (-2147483648) ≤ x1 ∧ x1 ≤ 2147483647 by omega)
            refine Jcv hx9 (show mx_Sn _ _ 67 (mx_callv 85 2 10 70) from sn_129 67) a46 s46 hc10 rfl rfl rfl ?_
            exact mx_J.ret (sn_129 70) (fun _ _ => rfl) (hP z10 Z9 h9 hx9 hG9 (fr_tr (M := [(47, (-1))]) fr_rf (hf9) (M1 := []) rfl rfl) (by omega))
          · skip
            exact c45 
      · skip
        refine JcL (z := (-6)) (show mx_Sn _ _ 24 (mx_const (.long (-6)) 27) from sn_129 24) rfl ?_
        exact mx_J.ret (sn_129 27) (fun _ _ => rfl) (hP (-6) Z h hx hG fr_rf (by omega))
    · skip
      exfalso; omega
theorem ct_129_1_i1 {l : Launch} {D : va_G} {b0 : Nat} {ad : Nat → Nat} {Hb : Heap} {tau : Nat → Int64} {d n s : Nat} {S : Nat → xS} {Z : xZ} {h : mx_H} (hx : XH n s S Z h) (hG : GI n S Z) {x1 x2 : Int} (p1 : (-2147483648) ≤ x1 ∧ x1 ≤ 2147483647) (p2 : (-9223372036854775808) ≤ x2 ∧ x2 ≤ 9223372036854775807) : ∃ (z : Int) (Z' : xZ) (h' : mx_H), mx_Ca (tB l D b0 ad Hb tau) (d + 2) 129 [.ref 1, xI 1, xI x1, xL x2] h (some (xL z), h') ∧ XH n s S Z' h' ∧ GI n S Z' ∧ fr' [(47, (-1))] Z Z' ∧ ((-9223372036854775808) ≤ z ∧ z ≤ 9223372036854775807) := by
  obtain ⟨r, hca, z, Z', h', e, q⟩ := Jmt (B := tB l D b0 ad Hb tau) (M := mt_129) (mi := 129) (as := [.ref 1, xI 1, xI x1, xL x2]) (d := d + 1) (ls := [some (.ref 1), some (xI 1), some (xI x1), some (xL x2), none]) rfl rfl rfl rfl rfl rfl (cw_129_1_i1 (l := l) (D := D) (b0 := b0) (ad := ad) (Hb := Hb) (tau := tau) (d := d) (Post := fun r => ∃ (z : Int) (Z' : xZ) (h' : mx_H), r = (some (xL z), h') ∧ XH n s S Z' h' ∧ GI n S Z' ∧ fr' [(47, (-1))] Z Z' ∧ ((-9223372036854775808) ≤ z ∧ z ≤ 9223372036854775807)) hx hG p1 p2 (fun z Z' h' q1 q2 q3 q4 => ⟨z, Z', h', rfl, q1, q2, q3, q4⟩))
  subst e; exact ⟨z, Z', h', hca, q⟩
set_option maxRecDepth 100000 in
theorem cw_129_1_i2 {l : Launch} {D : va_G} {b0 : Nat} {ad : Nat → Nat} {Hb : Heap} {tau : Nat → Int64} {d n s : Nat} {S : Nat → xS} {Z : xZ} {h : mx_H} {Post : mx_R → Prop} (hx : XH n s S Z h) (hG : GI n S Z) {x1 x2 : Int} (p1 : (-2147483648) ≤ x1 ∧ x1 ≤ 2147483647) (p2 : (-9223372036854775808) ≤ x2 ∧ x2 ≤ 9223372036854775807) (hP : ∀ (z : Int) (Z' : xZ) (h' : mx_H), XH n s S Z' h' → GI n S Z' → fr' [(49, (-1))] Z Z' → (-9223372036854775808) ≤ z ∧ z ≤ 9223372036854775807 → Post (some (xL z), h')) : mx_J (tB l D b0 ad Hb tau) mt_129 (d + 1) 0 [some (.ref 1), some (xI 2), some (xI x1), some (xL x2), none] [] h Post := by
    have a1 : 1 < n := lt83 hG.1 rfl
    have s1 : S 1 = .inl (11, [2, 0, 0, 0, 2, 2, 2, 2, 2, 2, 2, 2, 2, 2, 2, 2, 2]) := hG.2.1 1 rfl
    have a34 : 34 < n := lt83 hG.1 rfl
    have s34 : S 34 = .inr ((.object "TitheHeap$Tray"), 4, 2) := hG.2.1 34 rfl
    have a48 : 48 < n := lt83 hG.1 rfl
    have s48 : S 48 = .inl (10, [2, 0, 0, 0]) := hG.2.1 48 rfl
    refine mx_J.step (sn_129 0) (fun _ _ => rfl) ?_
    refine mx_J.step (sn_129 1) (fun _ _ => rfl) ?_
    obtain ⟨z1, hc1, b1⟩ := ct_144_1_y (d := d + 0) (l := l) (D := D) (b0 := b0) (ad := ad) (Hb := Hb) (tau := tau) hx hG (show 0 ≤ 2 ∧ 2 ≤ 3 by omega)
    refine Jcv hx (show mx_Sn _ _ 2 (mx_callv 144 2 11 5) from sn_129 2) a1 s1 hc1 rfl rfl rfl ?_
    refine Jif_eq (show mx_Sn _ _ 5 (mx_if_eq 12 8) from sn_129 5) (by omega) (fun q2 => ?_) (fun q2 => ?_)
    · skip
      refine mx_J.step (sn_129 12) (fun _ _ => rfl) ?_
      refine JgetR (g := 10) (b := 34) hx (show mx_Sn _ _ 13 (mx_getf 11 10 16) from sn_129 13) a1 s1 rfl rfl (hG.prr 1 10 rfl) ?_
      refine mx_J.step (sn_129 16) (fun _ _ => rfl) ?_
      refine JaaldR (i := 2) (b := 48) hx (show mx_Sn _ _ 17 (mx_aald 18) from sn_129 17) a34 s34 (by omega) (show Z 34 2 = 48 by have hq := GI_ex hG 34 2; replace hq : ((0 : Int) ≤ 2 → (2 : Int) ≤ 3 → (Z 34 2) = 44 + 2 * 2) := hq; omega) ?_
      have b3 : 0 ≤ Z 48 3 ∧ Z 48 3 ≤ 1 := hG.pr 48 3
      refine JgetI (g := 3) (z := Z 48 3) hx (show mx_Sn _ _ 18 (mx_getf 10 3 21) from sn_129 18) a48 s48 rfl rfl rfl ?_
      refine Jif_eq (show mx_Sn _ _ 21 (mx_if_eq 28 24) from sn_129 21) (by omega) (fun q4 => ?_) (fun q4 => ?_)
      · skip
        refine mx_J.step (sn_129 28) (fun _ _ => rfl) ?_
        have c45 : mx_J (tB l D b0 ad Hb tau) mt_129 (d + 1) 45 [some (.ref 1), some (xI 2), some (xI x1), some (xL x2), none] [] h Post := by
          refine JcL (z := (-7)) (show mx_Sn _ _ 45 (mx_const (.long (-7)) 48) from sn_129 45) rfl ?_
          exact mx_J.ret (sn_129 48) (fun _ _ => rfl) (hP (-7) Z h hx hG fr_rf (by omega))
        refine Jif_lt (show mx_Sn _ _ 29 (mx_if_lt 45 32) from sn_129 29) (by omega) (fun q6 => ?_) (fun q6 => ?_)
        · skip
          exact c45 
        · skip
          refine mx_J.step (sn_129 32) (fun _ _ => rfl) ?_
          refine mx_J.step (sn_129 33) (fun _ _ => rfl) ?_
          refine JgetR (g := 10) (b := 34) hx (show mx_Sn _ _ 34 (mx_getf 11 10 37) from sn_129 34) a1 s1 rfl rfl (hG.prr 1 10 rfl) ?_
          refine mx_J.step (sn_129 37) (fun _ _ => rfl) ?_
          refine JaaldR (i := 2) (b := 48) hx (show mx_Sn _ _ 38 (mx_aald 39) from sn_129 38) a34 s34 (by omega) (show Z 34 2 = 48 by have hq := GI_ex hG 34 2; replace hq : ((0 : Int) ≤ 2 → (2 : Int) ≤ 3 → (Z 34 2) = 44 + 2 * 2) := hq; omega) ?_
          have b7 : 0 ≤ Z 48 2 ∧ Z 48 2 ≤ 40 := hG.pr 48 2
          refine JgetI (g := 2) (z := Z 48 2) hx (show mx_Sn _ _ 39 (mx_getf 10 2 42) from sn_129 39) a48 s48 rfl rfl rfl ?_
          refine Jicmp_lt (show mx_Sn _ _ 42 (mx_icmp_lt 49 45) from sn_129 42) (by omega) (by omega) (fun q8 => ?_) (fun q8 => ?_)
          · skip
            refine mx_J.step (sn_129 49) (fun _ _ => rfl) ?_
            refine JgetR (g := 10) (b := 34) hx (show mx_Sn _ _ 50 (mx_getf 11 10 53) from sn_129 50) a1 s1 rfl rfl (hG.prr 1 10 rfl) ?_
            refine mx_J.step (sn_129 53) (fun _ _ => rfl) ?_
            refine JaaldR (i := 2) (b := 48) hx (show mx_Sn _ _ 54 (mx_aald 55) from sn_129 54) a34 s34 (by omega) (show Z 34 2 = 48 by have hq := GI_ex hG 34 2; replace hq : ((0 : Int) ≤ 2 → (2 : Int) ≤ 3 → (Z 34 2) = 44 + 2 * 2) := hq; omega) ?_
            refine mx_J.step (sn_129 55) (fun _ _ => rfl) ?_
            refine mx_J.step (sn_129 56) (fun _ _ => rfl) ?_
            obtain ⟨Z9, h9, hc9, hx9, hG9, hf9⟩ := ct_84_48 (d := d + 0) (l := l) (D := D) (b0 := b0) (ad := ad) (Hb := Hb) (tau := tau) hx hG (show (-2147483648) ≤ x1 ∧ x1 ≤ 2147483647 by omega) (show (-9223372036854775808) ≤ x2 ∧ x2 ≤ 9223372036854775807 by omega)
            refine Jcv0 hx (show mx_Sn _ _ 57 (mx_callv 84 3 10 60) from sn_129 57) a48 s48 hc9 rfl rfl rfl ?_
            refine mx_J.step (sn_129 60) (fun _ _ => rfl) ?_
            refine JgetR (g := 10) (b := 34) hx9 (show mx_Sn _ _ 61 (mx_getf 11 10 64) from sn_129 61) a1 s1 rfl rfl (hG9.prr 1 10 rfl) ?_
            refine mx_J.step (sn_129 64) (fun _ _ => rfl) ?_
            refine JaaldR (i := 2) (b := 48) hx9 (show mx_Sn _ _ 65 (mx_aald 66) from sn_129 65) a34 s34 (by omega) (show Z9 34 2 = 48 by have hq := GI_ex hG9 34 2; replace hq : ((0 : Int) ≤ 2 → (2 : Int) ≤ 3 → (Z9 34 2) = 44 + 2 * 2) := hq; omega) ?_
            refine mx_J.step (sn_129 66) (fun _ _ => rfl) ?_
            obtain ⟨z10, hc10, b10⟩ := ct_85_48 (d := d + 0) (l := l) (D := D) (b0 := b0) (ad := ad) (Hb := Hb) (tau := tau) hx9 hG9 (show (-2147483648) ≤ x1 ∧ x1 ≤ 2147483647 by omega)
            refine Jcv hx9 (show mx_Sn _ _ 67 (mx_callv 85 2 10 70) from sn_129 67) a48 s48 hc10 rfl rfl rfl ?_
            exact mx_J.ret (sn_129 70) (fun _ _ => rfl) (hP z10 Z9 h9 hx9 hG9 (fr_tr (M := [(49, (-1))]) fr_rf (hf9) (M1 := []) rfl rfl) (by omega))
          · skip
            exact c45 
      · skip
        refine JcL (z := (-6)) (show mx_Sn _ _ 24 (mx_const (.long (-6)) 27) from sn_129 24) rfl ?_
        exact mx_J.ret (sn_129 27) (fun _ _ => rfl) (hP (-6) Z h hx hG fr_rf (by omega))
    · skip
      exfalso; omega
theorem ct_129_1_i2 {l : Launch} {D : va_G} {b0 : Nat} {ad : Nat → Nat} {Hb : Heap} {tau : Nat → Int64} {d n s : Nat} {S : Nat → xS} {Z : xZ} {h : mx_H} (hx : XH n s S Z h) (hG : GI n S Z) {x1 x2 : Int} (p1 : (-2147483648) ≤ x1 ∧ x1 ≤ 2147483647) (p2 : (-9223372036854775808) ≤ x2 ∧ x2 ≤ 9223372036854775807) : ∃ (z : Int) (Z' : xZ) (h' : mx_H), mx_Ca (tB l D b0 ad Hb tau) (d + 2) 129 [.ref 1, xI 2, xI x1, xL x2] h (some (xL z), h') ∧ XH n s S Z' h' ∧ GI n S Z' ∧ fr' [(49, (-1))] Z Z' ∧ ((-9223372036854775808) ≤ z ∧ z ≤ 9223372036854775807) := by
  obtain ⟨r, hca, z, Z', h', e, q⟩ := Jmt (B := tB l D b0 ad Hb tau) (M := mt_129) (mi := 129) (as := [.ref 1, xI 2, xI x1, xL x2]) (d := d + 1) (ls := [some (.ref 1), some (xI 2), some (xI x1), some (xL x2), none]) rfl rfl rfl rfl rfl rfl (cw_129_1_i2 (l := l) (D := D) (b0 := b0) (ad := ad) (Hb := Hb) (tau := tau) (d := d) (Post := fun r => ∃ (z : Int) (Z' : xZ) (h' : mx_H), r = (some (xL z), h') ∧ XH n s S Z' h' ∧ GI n S Z' ∧ fr' [(49, (-1))] Z Z' ∧ ((-9223372036854775808) ≤ z ∧ z ≤ 9223372036854775807)) hx hG p1 p2 (fun z Z' h' q1 q2 q3 q4 => ⟨z, Z', h', rfl, q1, q2, q3, q4⟩))
  subst e; exact ⟨z, Z', h', hca, q⟩
set_option maxRecDepth 100000 in
theorem cw_129_1_i3 {l : Launch} {D : va_G} {b0 : Nat} {ad : Nat → Nat} {Hb : Heap} {tau : Nat → Int64} {d n s : Nat} {S : Nat → xS} {Z : xZ} {h : mx_H} {Post : mx_R → Prop} (hx : XH n s S Z h) (hG : GI n S Z) {x1 x2 : Int} (p1 : (-2147483648) ≤ x1 ∧ x1 ≤ 2147483647) (p2 : (-9223372036854775808) ≤ x2 ∧ x2 ≤ 9223372036854775807) (hP : ∀ (z : Int) (Z' : xZ) (h' : mx_H), XH n s S Z' h' → GI n S Z' → fr' [(51, (-1))] Z Z' → (-9223372036854775808) ≤ z ∧ z ≤ 9223372036854775807 → Post (some (xL z), h')) : mx_J (tB l D b0 ad Hb tau) mt_129 (d + 1) 0 [some (.ref 1), some (xI 3), some (xI x1), some (xL x2), none] [] h Post := by
    have a1 : 1 < n := lt83 hG.1 rfl
    have s1 : S 1 = .inl (11, [2, 0, 0, 0, 2, 2, 2, 2, 2, 2, 2, 2, 2, 2, 2, 2, 2]) := hG.2.1 1 rfl
    have a34 : 34 < n := lt83 hG.1 rfl
    have s34 : S 34 = .inr ((.object "TitheHeap$Tray"), 4, 2) := hG.2.1 34 rfl
    have a50 : 50 < n := lt83 hG.1 rfl
    have s50 : S 50 = .inl (10, [2, 0, 0, 0]) := hG.2.1 50 rfl
    refine mx_J.step (sn_129 0) (fun _ _ => rfl) ?_
    refine mx_J.step (sn_129 1) (fun _ _ => rfl) ?_
    obtain ⟨z1, hc1, b1⟩ := ct_144_1_y (d := d + 0) (l := l) (D := D) (b0 := b0) (ad := ad) (Hb := Hb) (tau := tau) hx hG (show 0 ≤ 3 ∧ 3 ≤ 3 by omega)
    refine Jcv hx (show mx_Sn _ _ 2 (mx_callv 144 2 11 5) from sn_129 2) a1 s1 hc1 rfl rfl rfl ?_
    refine Jif_eq (show mx_Sn _ _ 5 (mx_if_eq 12 8) from sn_129 5) (by omega) (fun q2 => ?_) (fun q2 => ?_)
    · skip
      refine mx_J.step (sn_129 12) (fun _ _ => rfl) ?_
      refine JgetR (g := 10) (b := 34) hx (show mx_Sn _ _ 13 (mx_getf 11 10 16) from sn_129 13) a1 s1 rfl rfl (hG.prr 1 10 rfl) ?_
      refine mx_J.step (sn_129 16) (fun _ _ => rfl) ?_
      refine JaaldR (i := 3) (b := 50) hx (show mx_Sn _ _ 17 (mx_aald 18) from sn_129 17) a34 s34 (by omega) (show Z 34 3 = 50 by have hq := GI_ex hG 34 3; replace hq : ((0 : Int) ≤ 3 → (3 : Int) ≤ 3 → (Z 34 3) = 44 + 2 * 3) := hq; omega) ?_
      have b3 : 0 ≤ Z 50 3 ∧ Z 50 3 ≤ 1 := hG.pr 50 3
      refine JgetI (g := 3) (z := Z 50 3) hx (show mx_Sn _ _ 18 (mx_getf 10 3 21) from sn_129 18) a50 s50 rfl rfl rfl ?_
      refine Jif_eq (show mx_Sn _ _ 21 (mx_if_eq 28 24) from sn_129 21) (by omega) (fun q4 => ?_) (fun q4 => ?_)
      · skip
        refine mx_J.step (sn_129 28) (fun _ _ => rfl) ?_
        have c45 : mx_J (tB l D b0 ad Hb tau) mt_129 (d + 1) 45 [some (.ref 1), some (xI 3), some (xI x1), some (xL x2), none] [] h Post := by
          refine JcL (z := (-7)) (show mx_Sn _ _ 45 (mx_const (.long (-7)) 48) from sn_129 45) rfl ?_
          exact mx_J.ret (sn_129 48) (fun _ _ => rfl) (hP (-7) Z h hx hG fr_rf (by omega))
        refine Jif_lt (show mx_Sn _ _ 29 (mx_if_lt 45 32) from sn_129 29) (by omega) (fun q6 => ?_) (fun q6 => ?_)
        · skip
          exact c45 
        · skip
          refine mx_J.step (sn_129 32) (fun _ _ => rfl) ?_
          refine mx_J.step (sn_129 33) (fun _ _ => rfl) ?_
          refine JgetR (g := 10) (b := 34) hx (show mx_Sn _ _ 34 (mx_getf 11 10 37) from sn_129 34) a1 s1 rfl rfl (hG.prr 1 10 rfl) ?_
          refine mx_J.step (sn_129 37) (fun _ _ => rfl) ?_
          refine JaaldR (i := 3) (b := 50) hx (show mx_Sn _ _ 38 (mx_aald 39) from sn_129 38) a34 s34 (by omega) (show Z 34 3 = 50 by have hq := GI_ex hG 34 3; replace hq : ((0 : Int) ≤ 3 → (3 : Int) ≤ 3 → (Z 34 3) = 44 + 2 * 3) := hq; omega) ?_
          have b7 : 0 ≤ Z 50 2 ∧ Z 50 2 ≤ 40 := hG.pr 50 2
          refine JgetI (g := 2) (z := Z 50 2) hx (show mx_Sn _ _ 39 (mx_getf 10 2 42) from sn_129 39) a50 s50 rfl rfl rfl ?_
          refine Jicmp_lt (show mx_Sn _ _ 42 (mx_icmp_lt 49 45) from sn_129 42) (by omega) (by omega) (fun q8 => ?_) (fun q8 => ?_)
          · skip
            refine mx_J.step (sn_129 49) (fun _ _ => rfl) ?_
            refine JgetR (g := 10) (b := 34) hx (show mx_Sn _ _ 50 (mx_getf 11 10 53) from sn_129 50) a1 s1 rfl rfl (hG.prr 1 10 rfl) ?_
            refine mx_J.step (sn_129 53) (fun _ _ => rfl) ?_
            refine JaaldR (i := 3) (b := 50) hx (show mx_Sn _ _ 54 (mx_aald 55) from sn_129 54) a34 s34 (by omega) (show Z 34 3 = 50 by have hq := GI_ex hG 34 3; replace hq : ((0 : Int) ≤ 3 → (3 : Int) ≤ 3 → (Z 34 3) = 44 + 2 * 3) := hq; omega) ?_
            refine mx_J.step (sn_129 55) (fun _ _ => rfl) ?_
            refine mx_J.step (sn_129 56) (fun _ _ => rfl) ?_
            obtain ⟨Z9, h9, hc9, hx9, hG9, hf9⟩ := ct_84_50 (d := d + 0) (l := l) (D := D) (b0 := b0) (ad := ad) (Hb := Hb) (tau := tau) hx hG (show (-2147483648) ≤ x1 ∧ x1 ≤ 2147483647 by omega) (show (-9223372036854775808) ≤ x2 ∧ x2 ≤ 9223372036854775807 by omega)
            refine Jcv0 hx (show mx_Sn _ _ 57 (mx_callv 84 3 10 60) from sn_129 57) a50 s50 hc9 rfl rfl rfl ?_
            refine mx_J.step (sn_129 60) (fun _ _ => rfl) ?_
            refine JgetR (g := 10) (b := 34) hx9 (show mx_Sn _ _ 61 (mx_getf 11 10 64) from sn_129 61) a1 s1 rfl rfl (hG9.prr 1 10 rfl) ?_
            refine mx_J.step (sn_129 64) (fun _ _ => rfl) ?_
            refine JaaldR (i := 3) (b := 50) hx9 (show mx_Sn _ _ 65 (mx_aald 66) from sn_129 65) a34 s34 (by omega) (show Z9 34 3 = 50 by have hq := GI_ex hG9 34 3; replace hq : ((0 : Int) ≤ 3 → (3 : Int) ≤ 3 → (Z9 34 3) = 44 + 2 * 3) := hq; omega) ?_
            refine mx_J.step (sn_129 66) (fun _ _ => rfl) ?_
            obtain ⟨z10, hc10, b10⟩ := ct_85_50 (d := d + 0) (l := l) (D := D) (b0 := b0) (ad := ad) (Hb := Hb) (tau := tau) hx9 hG9 (show (-2147483648) ≤ x1 ∧ x1 ≤ 2147483647 by omega)
            refine Jcv hx9 (show mx_Sn _ _ 67 (mx_callv 85 2 10 70) from sn_129 67) a50 s50 hc10 rfl rfl rfl ?_
            exact mx_J.ret (sn_129 70) (fun _ _ => rfl) (hP z10 Z9 h9 hx9 hG9 (fr_tr (M := [(51, (-1))]) fr_rf (hf9) (M1 := []) rfl rfl) (by omega))
          · skip
            exact c45 
      · skip
        refine JcL (z := (-6)) (show mx_Sn _ _ 24 (mx_const (.long (-6)) 27) from sn_129 24) rfl ?_
        exact mx_J.ret (sn_129 27) (fun _ _ => rfl) (hP (-6) Z h hx hG fr_rf (by omega))
    · skip
      exfalso; omega
theorem ct_129_1_i3 {l : Launch} {D : va_G} {b0 : Nat} {ad : Nat → Nat} {Hb : Heap} {tau : Nat → Int64} {d n s : Nat} {S : Nat → xS} {Z : xZ} {h : mx_H} (hx : XH n s S Z h) (hG : GI n S Z) {x1 x2 : Int} (p1 : (-2147483648) ≤ x1 ∧ x1 ≤ 2147483647) (p2 : (-9223372036854775808) ≤ x2 ∧ x2 ≤ 9223372036854775807) : ∃ (z : Int) (Z' : xZ) (h' : mx_H), mx_Ca (tB l D b0 ad Hb tau) (d + 2) 129 [.ref 1, xI 3, xI x1, xL x2] h (some (xL z), h') ∧ XH n s S Z' h' ∧ GI n S Z' ∧ fr' [(51, (-1))] Z Z' ∧ ((-9223372036854775808) ≤ z ∧ z ≤ 9223372036854775807) := by
  obtain ⟨r, hca, z, Z', h', e, q⟩ := Jmt (B := tB l D b0 ad Hb tau) (M := mt_129) (mi := 129) (as := [.ref 1, xI 3, xI x1, xL x2]) (d := d + 1) (ls := [some (.ref 1), some (xI 3), some (xI x1), some (xL x2), none]) rfl rfl rfl rfl rfl rfl (cw_129_1_i3 (l := l) (D := D) (b0 := b0) (ad := ad) (Hb := Hb) (tau := tau) (d := d) (Post := fun r => ∃ (z : Int) (Z' : xZ) (h' : mx_H), r = (some (xL z), h') ∧ XH n s S Z' h' ∧ GI n S Z' ∧ fr' [(51, (-1))] Z Z' ∧ ((-9223372036854775808) ≤ z ∧ z ≤ 9223372036854775807)) hx hG p1 p2 (fun z Z' h' q1 q2 q3 q4 => ⟨z, Z', h', rfl, q1, q2, q3, q4⟩))
  subst e; exact ⟨z, Z', h', hca, q⟩
set_option maxRecDepth 100000 in
theorem cw_129_1_n {l : Launch} {D : va_G} {b0 : Nat} {ad : Nat → Nat} {Hb : Heap} {tau : Nat → Int64} {d n s : Nat} {S : Nat → xS} {Z : xZ} {h : mx_H} {Post : mx_R → Prop} (hx : XH n s S Z h) (hG : GI n S Z) {x0 x1 x2 : Int} (p0 : (-2147483648) ≤ x0 ∧ x0 ≤ (-1)) (p1 : (-2147483648) ≤ x1 ∧ x1 ≤ 2147483647) (p2 : (-9223372036854775808) ≤ x2 ∧ x2 ≤ 9223372036854775807) (hP : ∀ z : Int, (-2) ≤ z ∧ z ≤ (-2) → Post (some (xL z), h)) : mx_J (tB l D b0 ad Hb tau) mt_129 (d + 1) 0 [some (.ref 1), some (xI x0), some (xI x1), some (xL x2), none] [] h Post := by
    have a1 : 1 < n := lt83 hG.1 rfl
    have s1 : S 1 = .inl (11, [2, 0, 0, 0, 2, 2, 2, 2, 2, 2, 2, 2, 2, 2, 2, 2, 2]) := hG.2.1 1 rfl
    refine mx_J.step (sn_129 0) (fun _ _ => rfl) ?_
    refine mx_J.step (sn_129 1) (fun _ _ => rfl) ?_
    obtain ⟨z1, hc1, b1⟩ := ct_144_1_n (d := d + 0) (l := l) (D := D) (b0 := b0) (ad := ad) (Hb := Hb) (tau := tau) hx hG (show (-2147483648) ≤ x0 ∧ x0 ≤ (-1) by omega)
    refine Jcv hx (show mx_Sn _ _ 2 (mx_callv 144 2 11 5) from sn_129 2) a1 s1 hc1 rfl rfl rfl ?_
    refine Jif_eq (show mx_Sn _ _ 5 (mx_if_eq 12 8) from sn_129 5) (by omega) (fun q2 => ?_) (fun q2 => ?_)
    · skip
      exfalso; omega
    · skip
      refine JcL (z := (-2)) (show mx_Sn _ _ 8 (mx_const (.long (-2)) 11) from sn_129 8) rfl ?_
      exact mx_J.ret (sn_129 11) (fun _ _ => rfl) (hP (-2) (by omega))
theorem ct_129_1_n {l : Launch} {D : va_G} {b0 : Nat} {ad : Nat → Nat} {Hb : Heap} {tau : Nat → Int64} {d n s : Nat} {S : Nat → xS} {Z : xZ} {h : mx_H} (hx : XH n s S Z h) (hG : GI n S Z) {x0 x1 x2 : Int} (p0 : (-2147483648) ≤ x0 ∧ x0 ≤ (-1)) (p1 : (-2147483648) ≤ x1 ∧ x1 ≤ 2147483647) (p2 : (-9223372036854775808) ≤ x2 ∧ x2 ≤ 9223372036854775807) : ∃ z : Int, mx_Ca (tB l D b0 ad Hb tau) (d + 2) 129 [.ref 1, xI x0, xI x1, xL x2] h (some (xL z), h) ∧ ((-2) ≤ z ∧ z ≤ (-2)) := by
  obtain ⟨r, hca, z, e, hp⟩ := Jmt (B := tB l D b0 ad Hb tau) (M := mt_129) (mi := 129) (as := [.ref 1, xI x0, xI x1, xL x2]) (d := d + 1) (ls := [some (.ref 1), some (xI x0), some (xI x1), some (xL x2), none]) rfl rfl rfl rfl rfl rfl (cw_129_1_n (l := l) (D := D) (b0 := b0) (ad := ad) (Hb := Hb) (tau := tau) (d := d) (Post := fun r => ∃ z : Int, r = (some (xL z), h) ∧ ((-2) ≤ z ∧ z ≤ (-2))) hx hG p0 p1 p2 (fun z hz => ⟨z, rfl, hz⟩))
  subst e; exact ⟨z, hca, hp⟩
set_option maxRecDepth 100000 in
theorem cw_129_1_p {l : Launch} {D : va_G} {b0 : Nat} {ad : Nat → Nat} {Hb : Heap} {tau : Nat → Int64} {d n s : Nat} {S : Nat → xS} {Z : xZ} {h : mx_H} {Post : mx_R → Prop} (hx : XH n s S Z h) (hG : GI n S Z) {x0 x1 x2 : Int} (p0 : 4 ≤ x0 ∧ x0 ≤ 2147483647) (p1 : (-2147483648) ≤ x1 ∧ x1 ≤ 2147483647) (p2 : (-9223372036854775808) ≤ x2 ∧ x2 ≤ 9223372036854775807) (hP : ∀ z : Int, (-2) ≤ z ∧ z ≤ (-2) → Post (some (xL z), h)) : mx_J (tB l D b0 ad Hb tau) mt_129 (d + 1) 0 [some (.ref 1), some (xI x0), some (xI x1), some (xL x2), none] [] h Post := by
    have a1 : 1 < n := lt83 hG.1 rfl
    have s1 : S 1 = .inl (11, [2, 0, 0, 0, 2, 2, 2, 2, 2, 2, 2, 2, 2, 2, 2, 2, 2]) := hG.2.1 1 rfl
    refine mx_J.step (sn_129 0) (fun _ _ => rfl) ?_
    refine mx_J.step (sn_129 1) (fun _ _ => rfl) ?_
    obtain ⟨z1, hc1, b1⟩ := ct_144_1_p (d := d + 0) (l := l) (D := D) (b0 := b0) (ad := ad) (Hb := Hb) (tau := tau) hx hG (show 4 ≤ x0 ∧ x0 ≤ 2147483647 by omega)
    refine Jcv hx (show mx_Sn _ _ 2 (mx_callv 144 2 11 5) from sn_129 2) a1 s1 hc1 rfl rfl rfl ?_
    refine Jif_eq (show mx_Sn _ _ 5 (mx_if_eq 12 8) from sn_129 5) (by omega) (fun q2 => ?_) (fun q2 => ?_)
    · skip
      exfalso; omega
    · skip
      refine JcL (z := (-2)) (show mx_Sn _ _ 8 (mx_const (.long (-2)) 11) from sn_129 8) rfl ?_
      exact mx_J.ret (sn_129 11) (fun _ _ => rfl) (hP (-2) (by omega))
theorem ct_129_1_p {l : Launch} {D : va_G} {b0 : Nat} {ad : Nat → Nat} {Hb : Heap} {tau : Nat → Int64} {d n s : Nat} {S : Nat → xS} {Z : xZ} {h : mx_H} (hx : XH n s S Z h) (hG : GI n S Z) {x0 x1 x2 : Int} (p0 : 4 ≤ x0 ∧ x0 ≤ 2147483647) (p1 : (-2147483648) ≤ x1 ∧ x1 ≤ 2147483647) (p2 : (-9223372036854775808) ≤ x2 ∧ x2 ≤ 9223372036854775807) : ∃ z : Int, mx_Ca (tB l D b0 ad Hb tau) (d + 2) 129 [.ref 1, xI x0, xI x1, xL x2] h (some (xL z), h) ∧ ((-2) ≤ z ∧ z ≤ (-2)) := by
  obtain ⟨r, hca, z, e, hp⟩ := Jmt (B := tB l D b0 ad Hb tau) (M := mt_129) (mi := 129) (as := [.ref 1, xI x0, xI x1, xL x2]) (d := d + 1) (ls := [some (.ref 1), some (xI x0), some (xI x1), some (xL x2), none]) rfl rfl rfl rfl rfl rfl (cw_129_1_p (l := l) (D := D) (b0 := b0) (ad := ad) (Hb := Hb) (tau := tau) (d := d) (Post := fun r => ∃ z : Int, r = (some (xL z), h) ∧ ((-2) ≤ z ∧ z ≤ (-2))) hx hG p0 p1 p2 (fun z hz => ⟨z, rfl, hz⟩))
  subst e; exact ⟨z, hca, hp⟩
theorem ct_129_1 {l : Launch} {D : va_G} {b0 : Nat} {ad : Nat → Nat} {Hb : Heap} {tau : Nat → Int64} {d n s : Nat} {S : Nat → xS} {Z : xZ} {h : mx_H} (hx : XH n s S Z h) (hG : GI n S Z) {x0 x1 x2 : Int} (p0 : (-2147483648) ≤ x0 ∧ x0 ≤ 2147483647) (p1 : (-2147483648) ≤ x1 ∧ x1 ≤ 2147483647) (p2 : (-9223372036854775808) ≤ x2 ∧ x2 ≤ 9223372036854775807) : ∃ (z : Int) (Z' : xZ) (h' : mx_H), mx_Ca (tB l D b0 ad Hb tau) (d + 2) 129 [.ref 1, xI x0, xI x1, xL x2] h (some (xL z), h') ∧ XH n s S Z' h' ∧ GI n S Z' ∧ fr' [(45, (-1)), (47, (-1)), (49, (-1)), (51, (-1))] Z Z' ∧ ((-9223372036854775808) ≤ z ∧ z ≤ 9223372036854775807) := by
  have hc : x0 = 0 ∨ x0 = 1 ∨ x0 = 2 ∨ x0 = 3 ∨ ((-2147483648) ≤ x0 ∧ x0 ≤ (-1)) ∨ (4 ≤ x0 ∧ x0 ≤ 2147483647) := by omega
  rcases hc with hc | hc | hc | hc | hc | hc
  · subst hc
    obtain ⟨z, Z', h', hca, q1, q2, q3, b⟩ := ct_129_1_i0 (d := d + 0) (l := l) (D := D) (b0 := b0) (ad := ad) (Hb := Hb) (tau := tau) hx hG p1 p2
    exact ⟨z, Z', h', hca, q1, q2, fr_tr (M1 := []) fr_rf q3 rfl rfl, by omega⟩
  · subst hc
    obtain ⟨z, Z', h', hca, q1, q2, q3, b⟩ := ct_129_1_i1 (d := d + 0) (l := l) (D := D) (b0 := b0) (ad := ad) (Hb := Hb) (tau := tau) hx hG p1 p2
    exact ⟨z, Z', h', hca, q1, q2, fr_tr (M1 := []) fr_rf q3 rfl rfl, by omega⟩
  · subst hc
    obtain ⟨z, Z', h', hca, q1, q2, q3, b⟩ := ct_129_1_i2 (d := d + 0) (l := l) (D := D) (b0 := b0) (ad := ad) (Hb := Hb) (tau := tau) hx hG p1 p2
    exact ⟨z, Z', h', hca, q1, q2, fr_tr (M1 := []) fr_rf q3 rfl rfl, by omega⟩
  · subst hc
    obtain ⟨z, Z', h', hca, q1, q2, q3, b⟩ := ct_129_1_i3 (d := d + 0) (l := l) (D := D) (b0 := b0) (ad := ad) (Hb := Hb) (tau := tau) hx hG p1 p2
    exact ⟨z, Z', h', hca, q1, q2, fr_tr (M1 := []) fr_rf q3 rfl rfl, by omega⟩
  · skip
    obtain ⟨z, hca, b⟩ := ct_129_1_n (d := d + 0) (l := l) (D := D) (b0 := b0) (ad := ad) (Hb := Hb) (tau := tau) hx hG hc p1 p2
    exact ⟨z, Z, h, hca, hx, hG, fr_rf, by omega⟩
  · skip
    obtain ⟨z, hca, b⟩ := ct_129_1_p (d := d + 0) (l := l) (D := D) (b0 := b0) (ad := ad) (Hb := Hb) (tau := tau) hx hG hc p1 p2
    exact ⟨z, Z, h, hca, hx, hG, fr_rf, by omega⟩
set_option maxRecDepth 100000 in
theorem cw_130_1_i0 {l : Launch} {D : va_G} {b0 : Nat} {ad : Nat → Nat} {Hb : Heap} {tau : Nat → Int64} {d n s : Nat} {S : Nat → xS} {Z : xZ} {h : mx_H} {Post : mx_R → Prop} (hx : XH n s S Z h) (hG : GI n S Z) {x1 : Int} (p1 : (-2147483648) ≤ x1 ∧ x1 ≤ 2147483647) (hP : ∀ (z : Int) (Z' : xZ) (h' : mx_H), XH n s S Z' h' → GI n S Z' → fr' [(45, (-1))] Z Z' → (-6) ≤ z ∧ z ≤ 18 → Post (some (xI z), h')) : mx_J (tB l D b0 ad Hb tau) mt_130 (d + 2) 0 [some (.ref 1), some (xI 0), some (xI x1), none, none] [] h Post := by
    have a1 : 1 < n := lt83 hG.1 rfl
    have s1 : S 1 = .inl (11, [2, 0, 0, 0, 2, 2, 2, 2, 2, 2, 2, 2, 2, 2, 2, 2, 2]) := hG.2.1 1 rfl
    have a7 : 7 < n := lt83 hG.1 rfl
    have s7 : S 7 = .inl (0, [2, 2, 2, 2, 0, 0]) := hG.2.1 7 rfl
    have a34 : 34 < n := lt83 hG.1 rfl
    have s34 : S 34 = .inr ((.object "TitheHeap$Tray"), 4, 2) := hG.2.1 34 rfl
    have a44 : 44 < n := lt83 hG.1 rfl
    have s44 : S 44 = .inl (10, [2, 0, 0, 0]) := hG.2.1 44 rfl
    refine mx_J.step (sn_130 0) (fun _ _ => rfl) ?_
    refine mx_J.step (sn_130 1) (fun _ _ => rfl) ?_
    obtain ⟨z1, hc1, b1⟩ := ct_144_1_y (d := d + 1) (l := l) (D := D) (b0 := b0) (ad := ad) (Hb := Hb) (tau := tau) hx hG (show 0 ≤ 0 ∧ 0 ≤ 3 by omega)
    refine Jcv hx (show mx_Sn _ _ 2 (mx_callv 144 2 11 5) from sn_130 2) a1 s1 hc1 rfl rfl rfl ?_
    refine Jif_eq (show mx_Sn _ _ 5 (mx_if_eq 11 8) from sn_130 5) (by omega) (fun q2 => ?_) (fun q2 => ?_)
    · skip
      refine mx_J.step (sn_130 11) (fun _ _ => rfl) ?_
      refine JgetR (g := 10) (b := 34) hx (show mx_Sn _ _ 12 (mx_getf 11 10 15) from sn_130 12) a1 s1 rfl rfl (hG.prr 1 10 rfl) ?_
      refine mx_J.step (sn_130 15) (fun _ _ => rfl) ?_
      refine JaaldR (i := 0) (b := 44) hx (show mx_Sn _ _ 16 (mx_aald 17) from sn_130 16) a34 s34 (by omega) (show Z 34 0 = 44 by have hq := GI_ex hG 34 0; replace hq : ((0 : Int) ≤ 0 → (0 : Int) ≤ 3 → (Z 34 0) = 44 + 2 * 0) := hq; omega) ?_
      have b3 : 0 ≤ Z 44 3 ∧ Z 44 3 ≤ 1 := hG.pr 44 3
      refine JgetI (g := 3) (z := Z 44 3) hx (show mx_Sn _ _ 17 (mx_getf 10 3 20) from sn_130 17) a44 s44 rfl rfl rfl ?_
      refine Jif_eq (show mx_Sn _ _ 20 (mx_if_eq 26 23) from sn_130 20) (by omega) (fun q4 => ?_) (fun q4 => ?_)
      · skip
        refine mx_J.step (sn_130 26) (fun _ _ => rfl) ?_
        have c41 : mx_J (tB l D b0 ad Hb tau) mt_130 (d + 2) 41 [some (.ref 1), some (xI 0), some (xI x1), none, none] [] h Post := by
          refine JcI (z := (-3)) (show mx_Sn _ _ 41 (mx_const (.int (-3)) 43) from sn_130 41) rfl ?_
          exact mx_J.ret (sn_130 43) (fun _ _ => rfl) (hP (-3) Z h hx hG fr_rf (by omega))
        refine Jif_lt (show mx_Sn _ _ 27 (mx_if_lt 41 30) from sn_130 27) (by omega) (fun q6 => ?_) (fun q6 => ?_)
        · skip
          exact c41 
        · skip
          refine mx_J.step (sn_130 30) (fun _ _ => rfl) ?_
          refine mx_J.step (sn_130 31) (fun _ _ => rfl) ?_
          refine JgetR (g := 5) (b := 7) hx (show mx_Sn _ _ 32 (mx_getf 11 5 35) from sn_130 32) a1 s1 rfl rfl (hG.prr 1 5 rfl) ?_
          have b7 : 0 ≤ Z 7 5 ∧ Z 7 5 ≤ 385 := hG.pr 7 5
          refine JgetI (g := 5) (z := Z 7 5) hx (show mx_Sn _ _ 35 (mx_getf 0 5 38) from sn_130 35) a7 s7 rfl rfl rfl ?_
          refine Jicmp_lt (show mx_Sn _ _ 38 (mx_icmp_lt 44 41) from sn_130 38) (by omega) (by omega) (fun q8 => ?_) (fun q8 => ?_)
          · skip
            refine mx_J.step (sn_130 44) (fun _ _ => rfl) ?_
            refine JgetR (g := 5) (b := 7) hx (show mx_Sn _ _ 45 (mx_getf 11 5 48) from sn_130 45) a1 s1 rfl rfl (hG.prr 1 5 rfl) ?_
            refine mx_J.step (sn_130 48) (fun _ _ => rfl) ?_
            obtain ⟨z9, hc9, b9⟩ := ct_5_7 (d := d + 1) (l := l) (D := D) (b0 := b0) (ad := ad) (Hb := Hb) (tau := tau) hx hG (show (-2147483648) ≤ x1 ∧ x1 ≤ 2147483647 by omega)
            refine Jcv hx (show mx_Sn _ _ 49 (mx_callv 5 2 0 52) from sn_130 49) a7 s7 hc9 rfl rfl rfl ?_
            refine mx_J.step (sn_130 52) (fun _ _ => rfl) ?_
            refine JgetR (g := 10) (b := 34) hx (show mx_Sn _ _ 53 (mx_getf 11 10 56) from sn_130 53) a1 s1 rfl rfl (hG.prr 1 10 rfl) ?_
            refine mx_J.step (sn_130 56) (fun _ _ => rfl) ?_
            refine JaaldR (i := 0) (b := 44) hx (show mx_Sn _ _ 57 (mx_aald 58) from sn_130 57) a34 s34 (by omega) (show Z 34 0 = 44 by have hq := GI_ex hG 34 0; replace hq : ((0 : Int) ≤ 0 → (0 : Int) ≤ 3 → (Z 34 0) = 44 + 2 * 0) := hq; omega) ?_
            have b10 : 0 ≤ Z 44 2 ∧ Z 44 2 ≤ 40 := hG.pr 44 2
            refine JgetI (g := 2) (z := Z 44 2) hx (show mx_Sn _ _ 58 (mx_getf 10 2 61) from sn_130 58) a44 s44 rfl rfl rfl ?_
            refine Jmmin (show mx_Sn _ _ 61 (mx_mmin 64) from sn_130 61) (by omega) (by omega) ⟨_, rfl⟩ rfl (fun y11 hy11 => ?_)
            refine mx_J.step (ls2 := [some (.ref 1), some (xI 0), some (xI x1), some (xI y11), none]) (sn_130 64) (fun _ _ => rfl) ?_
            refine JcI (z := 0) (show mx_Sn _ _ 65 (mx_const (.int 0) 66) from sn_130 65) rfl ?_
            refine mx_J.step (ls2 := [some (.ref 1), some (xI 0), some (xI x1), some (xI y11), some (xI 0)]) (sn_130 66) (fun _ _ => rfl) ?_
            have c68 : ∀ (m12 : Nat) (w12_4 : Int) (Z13 : xZ) (h13 : mx_H), 18 - w12_4 < (m12 : Int) → 0 ≤ w12_4 ∧ w12_4 ≤ 18 → XH n s S Z13 h13 → GI n S Z13 → fr' [(45, (-1))] Z Z13 → mx_J (tB l D b0 ad Hb tau) mt_130 (d + 2) 68 [some (.ref 1), some (xI 0), some (xI x1), some (xI y11), some (xI w12_4)] [] h13 Post := by
              intro m12
              induction m12 with
              | zero => intro w12_4 Z13 h13 q12 f12_0 hx13 hG13 hf13; exact absurd q12 (by omega)
              | succ m12 ih12 =>
                intro w12_4 Z13 h13 q12 f12_0 hx13 hG13 hf13
                refine mx_J.step (sn_130 68) (fun _ _ => rfl) ?_
                refine mx_J.step (sn_130 70) (fun _ _ => rfl) ?_
                refine Jicmp_ge (show mx_Sn _ _ 71 (mx_icmp_ge 102 74) from sn_130 71) (by omega) (by omega) (fun q14 => ?_) (fun q14 => ?_)
                · skip
                  refine mx_J.step (sn_130 102) (fun _ _ => rfl) ?_
                  exact mx_J.ret (sn_130 103) (fun _ _ => rfl) (hP y11 Z13 h13 hx13 hG13 (fr_tr (M := [(45, (-1))]) fr_rf (hf13) (M1 := []) rfl rfl) (by omega))
                · skip
                  refine mx_J.step (sn_130 74) (fun _ _ => rfl) ?_
                  refine JgetR (g := 10) (b := 34) hx13 (show mx_Sn _ _ 75 (mx_getf 11 10 78) from sn_130 75) a1 s1 rfl rfl (hG13.prr 1 10 rfl) ?_
                  refine mx_J.step (sn_130 78) (fun _ _ => rfl) ?_
                  refine JaaldR (i := 0) (b := 44) hx13 (show mx_Sn _ _ 79 (mx_aald 80) from sn_130 79) a34 s34 (by omega) (show Z13 34 0 = 44 by have hq := GI_ex hG13 34 0; replace hq : ((0 : Int) ≤ 0 → (0 : Int) ≤ 3 → (Z13 34 0) = 44 + 2 * 0) := hq; omega) ?_
                  refine mx_J.step (sn_130 80) (fun _ _ => rfl) ?_
                  refine mx_J.step (sn_130 82) (fun _ _ => rfl) ?_
                  refine JgetR (g := 5) (b := 7) hx13 (show mx_Sn _ _ 83 (mx_getf 11 5 86) from sn_130 83) a1 s1 rfl rfl (hG13.prr 1 5 rfl) ?_
                  refine mx_J.step (sn_130 86) (fun _ _ => rfl) ?_
                  refine mx_J.step (sn_130 87) (fun _ _ => rfl) ?_
                  obtain ⟨z15, hc15, b15⟩ := ct_6_7 (d := d + 0) (l := l) (D := D) (b0 := b0) (ad := ad) (Hb := Hb) (tau := tau) hx13 hG13 (show (-2147483648) ≤ x1 ∧ x1 ≤ 2147483647 by omega) (show (-2147483648) ≤ w12_4 ∧ w12_4 ≤ 2147483647 by omega)
                  have eq16 : Z13 9 (x1 * 18 + w12_4) = Z 9 (x1 * 18 + w12_4) := (hf13 9 (x1 * 18 + w12_4) rfl)
                  refine Jcv hx13 (show mx_Sn _ _ 89 (mx_callv 6 3 0 92) from sn_130 89) a7 s7 hc15 rfl rfl rfl ?_
                  refine Ji2l (show mx_Sn _ _ 92 (mx_i2l 93) from sn_130 92) (by omega) ?_
                  obtain ⟨Z17, h17, hc17, hx17, hG17, hf17⟩ := ct_84_44 (d := d + 1) (l := l) (D := D) (b0 := b0) (ad := ad) (Hb := Hb) (tau := tau) hx13 hG13 (show (-2147483648) ≤ w12_4 ∧ w12_4 ≤ 2147483647 by omega) (show (-9223372036854775808) ≤ z15 ∧ z15 ≤ 9223372036854775807 by omega)
                  refine Jcv0 hx13 (show mx_Sn _ _ 93 (mx_callv 84 3 10 96) from sn_130 93) a44 s44 hc17 rfl rfl rfl ?_
                  refine Jiinc (z := w12_4) (cz := 1) (ls2 := [some (.ref 1), some (xI 0), some (xI x1), some (xI y11), some (xI (w12_4 + 1))]) (show mx_Sn _ _ 96 (mx_iinc 4 1 99) from sn_130 96) rfl rfl rfl rfl ?_
                  refine mx_J.step (sn_130 99) (fun _ _ => rfl) ?_
                  exact ih12 (w12_4 + 1) Z17 h17 (by omega) (by omega) hx17 hG17 (fr_tr (M := [(45, (-1))]) (fr_tr (M := [(45, (-1))]) fr_rf (hf13) (M1 := []) rfl rfl) (hf17) rfl rfl)
            exact c68 (Int.toNat (18 - 0) + 1) 0 Z h (by omega) (by omega) hx hG fr_rf
          · skip
            exact c41 
      · skip
        refine JcI (z := (-6)) (show mx_Sn _ _ 23 (mx_const (.int (-6)) 25) from sn_130 23) rfl ?_
        exact mx_J.ret (sn_130 25) (fun _ _ => rfl) (hP (-6) Z h hx hG fr_rf (by omega))
    · skip
      exfalso; omega
theorem ct_130_1_i0 {l : Launch} {D : va_G} {b0 : Nat} {ad : Nat → Nat} {Hb : Heap} {tau : Nat → Int64} {d n s : Nat} {S : Nat → xS} {Z : xZ} {h : mx_H} (hx : XH n s S Z h) (hG : GI n S Z) {x1 : Int} (p1 : (-2147483648) ≤ x1 ∧ x1 ≤ 2147483647) : ∃ (z : Int) (Z' : xZ) (h' : mx_H), mx_Ca (tB l D b0 ad Hb tau) (d + 3) 130 [.ref 1, xI 0, xI x1] h (some (xI z), h') ∧ XH n s S Z' h' ∧ GI n S Z' ∧ fr' [(45, (-1))] Z Z' ∧ ((-6) ≤ z ∧ z ≤ 18) := by
  obtain ⟨r, hca, z, Z', h', e, q⟩ := Jmt (B := tB l D b0 ad Hb tau) (M := mt_130) (mi := 130) (as := [.ref 1, xI 0, xI x1]) (d := d + 2) (ls := [some (.ref 1), some (xI 0), some (xI x1), none, none]) rfl rfl rfl rfl rfl rfl (cw_130_1_i0 (l := l) (D := D) (b0 := b0) (ad := ad) (Hb := Hb) (tau := tau) (d := d) (Post := fun r => ∃ (z : Int) (Z' : xZ) (h' : mx_H), r = (some (xI z), h') ∧ XH n s S Z' h' ∧ GI n S Z' ∧ fr' [(45, (-1))] Z Z' ∧ ((-6) ≤ z ∧ z ≤ 18)) hx hG p1 (fun z Z' h' q1 q2 q3 q4 => ⟨z, Z', h', rfl, q1, q2, q3, q4⟩))
  subst e; exact ⟨z, Z', h', hca, q⟩
set_option maxRecDepth 100000 in
theorem cw_130_1_i1 {l : Launch} {D : va_G} {b0 : Nat} {ad : Nat → Nat} {Hb : Heap} {tau : Nat → Int64} {d n s : Nat} {S : Nat → xS} {Z : xZ} {h : mx_H} {Post : mx_R → Prop} (hx : XH n s S Z h) (hG : GI n S Z) {x1 : Int} (p1 : (-2147483648) ≤ x1 ∧ x1 ≤ 2147483647) (hP : ∀ (z : Int) (Z' : xZ) (h' : mx_H), XH n s S Z' h' → GI n S Z' → fr' [(47, (-1))] Z Z' → (-6) ≤ z ∧ z ≤ 18 → Post (some (xI z), h')) : mx_J (tB l D b0 ad Hb tau) mt_130 (d + 2) 0 [some (.ref 1), some (xI 1), some (xI x1), none, none] [] h Post := by
    have a1 : 1 < n := lt83 hG.1 rfl
    have s1 : S 1 = .inl (11, [2, 0, 0, 0, 2, 2, 2, 2, 2, 2, 2, 2, 2, 2, 2, 2, 2]) := hG.2.1 1 rfl
    have a7 : 7 < n := lt83 hG.1 rfl
    have s7 : S 7 = .inl (0, [2, 2, 2, 2, 0, 0]) := hG.2.1 7 rfl
    have a34 : 34 < n := lt83 hG.1 rfl
    have s34 : S 34 = .inr ((.object "TitheHeap$Tray"), 4, 2) := hG.2.1 34 rfl
    have a46 : 46 < n := lt83 hG.1 rfl
    have s46 : S 46 = .inl (10, [2, 0, 0, 0]) := hG.2.1 46 rfl
    refine mx_J.step (sn_130 0) (fun _ _ => rfl) ?_
    refine mx_J.step (sn_130 1) (fun _ _ => rfl) ?_
    obtain ⟨z1, hc1, b1⟩ := ct_144_1_y (d := d + 1) (l := l) (D := D) (b0 := b0) (ad := ad) (Hb := Hb) (tau := tau) hx hG (show 0 ≤ 1 ∧ 1 ≤ 3 by omega)
    refine Jcv hx (show mx_Sn _ _ 2 (mx_callv 144 2 11 5) from sn_130 2) a1 s1 hc1 rfl rfl rfl ?_
    refine Jif_eq (show mx_Sn _ _ 5 (mx_if_eq 11 8) from sn_130 5) (by omega) (fun q2 => ?_) (fun q2 => ?_)
    · skip
      refine mx_J.step (sn_130 11) (fun _ _ => rfl) ?_
      refine JgetR (g := 10) (b := 34) hx (show mx_Sn _ _ 12 (mx_getf 11 10 15) from sn_130 12) a1 s1 rfl rfl (hG.prr 1 10 rfl) ?_
      refine mx_J.step (sn_130 15) (fun _ _ => rfl) ?_
      refine JaaldR (i := 1) (b := 46) hx (show mx_Sn _ _ 16 (mx_aald 17) from sn_130 16) a34 s34 (by omega) (show Z 34 1 = 46 by have hq := GI_ex hG 34 1; replace hq : ((0 : Int) ≤ 1 → (1 : Int) ≤ 3 → (Z 34 1) = 44 + 2 * 1) := hq; omega) ?_
      have b3 : 0 ≤ Z 46 3 ∧ Z 46 3 ≤ 1 := hG.pr 46 3
      refine JgetI (g := 3) (z := Z 46 3) hx (show mx_Sn _ _ 17 (mx_getf 10 3 20) from sn_130 17) a46 s46 rfl rfl rfl ?_
      refine Jif_eq (show mx_Sn _ _ 20 (mx_if_eq 26 23) from sn_130 20) (by omega) (fun q4 => ?_) (fun q4 => ?_)
      · skip
        refine mx_J.step (sn_130 26) (fun _ _ => rfl) ?_
        have c41 : mx_J (tB l D b0 ad Hb tau) mt_130 (d + 2) 41 [some (.ref 1), some (xI 1), some (xI x1), none, none] [] h Post := by
          refine JcI (z := (-3)) (show mx_Sn _ _ 41 (mx_const (.int (-3)) 43) from sn_130 41) rfl ?_
          exact mx_J.ret (sn_130 43) (fun _ _ => rfl) (hP (-3) Z h hx hG fr_rf (by omega))
        refine Jif_lt (show mx_Sn _ _ 27 (mx_if_lt 41 30) from sn_130 27) (by omega) (fun q6 => ?_) (fun q6 => ?_)
        · skip
          exact c41 
        · skip
          refine mx_J.step (sn_130 30) (fun _ _ => rfl) ?_
          refine mx_J.step (sn_130 31) (fun _ _ => rfl) ?_
          refine JgetR (g := 5) (b := 7) hx (show mx_Sn _ _ 32 (mx_getf 11 5 35) from sn_130 32) a1 s1 rfl rfl (hG.prr 1 5 rfl) ?_
          have b7 : 0 ≤ Z 7 5 ∧ Z 7 5 ≤ 385 := hG.pr 7 5
          refine JgetI (g := 5) (z := Z 7 5) hx (show mx_Sn _ _ 35 (mx_getf 0 5 38) from sn_130 35) a7 s7 rfl rfl rfl ?_
          refine Jicmp_lt (show mx_Sn _ _ 38 (mx_icmp_lt 44 41) from sn_130 38) (by omega) (by omega) (fun q8 => ?_) (fun q8 => ?_)
          · skip
            refine mx_J.step (sn_130 44) (fun _ _ => rfl) ?_
            refine JgetR (g := 5) (b := 7) hx (show mx_Sn _ _ 45 (mx_getf 11 5 48) from sn_130 45) a1 s1 rfl rfl (hG.prr 1 5 rfl) ?_
            refine mx_J.step (sn_130 48) (fun _ _ => rfl) ?_
            obtain ⟨z9, hc9, b9⟩ := ct_5_7 (d := d + 1) (l := l) (D := D) (b0 := b0) (ad := ad) (Hb := Hb) (tau := tau) hx hG (show (-2147483648) ≤ x1 ∧ x1 ≤ 2147483647 by omega)
            refine Jcv hx (show mx_Sn _ _ 49 (mx_callv 5 2 0 52) from sn_130 49) a7 s7 hc9 rfl rfl rfl ?_
            refine mx_J.step (sn_130 52) (fun _ _ => rfl) ?_
            refine JgetR (g := 10) (b := 34) hx (show mx_Sn _ _ 53 (mx_getf 11 10 56) from sn_130 53) a1 s1 rfl rfl (hG.prr 1 10 rfl) ?_
            refine mx_J.step (sn_130 56) (fun _ _ => rfl) ?_
            refine JaaldR (i := 1) (b := 46) hx (show mx_Sn _ _ 57 (mx_aald 58) from sn_130 57) a34 s34 (by omega) (show Z 34 1 = 46 by have hq := GI_ex hG 34 1; replace hq : ((0 : Int) ≤ 1 → (1 : Int) ≤ 3 → (Z 34 1) = 44 + 2 * 1) := hq; omega) ?_
            have b10 : 0 ≤ Z 46 2 ∧ Z 46 2 ≤ 40 := hG.pr 46 2
            refine JgetI (g := 2) (z := Z 46 2) hx (show mx_Sn _ _ 58 (mx_getf 10 2 61) from sn_130 58) a46 s46 rfl rfl rfl ?_
            refine Jmmin (show mx_Sn _ _ 61 (mx_mmin 64) from sn_130 61) (by omega) (by omega) ⟨_, rfl⟩ rfl (fun y11 hy11 => ?_)
            refine mx_J.step (ls2 := [some (.ref 1), some (xI 1), some (xI x1), some (xI y11), none]) (sn_130 64) (fun _ _ => rfl) ?_
            refine JcI (z := 0) (show mx_Sn _ _ 65 (mx_const (.int 0) 66) from sn_130 65) rfl ?_
            refine mx_J.step (ls2 := [some (.ref 1), some (xI 1), some (xI x1), some (xI y11), some (xI 0)]) (sn_130 66) (fun _ _ => rfl) ?_
            have c68 : ∀ (m12 : Nat) (w12_4 : Int) (Z13 : xZ) (h13 : mx_H), 18 - w12_4 < (m12 : Int) → 0 ≤ w12_4 ∧ w12_4 ≤ 18 → XH n s S Z13 h13 → GI n S Z13 → fr' [(47, (-1))] Z Z13 → mx_J (tB l D b0 ad Hb tau) mt_130 (d + 2) 68 [some (.ref 1), some (xI 1), some (xI x1), some (xI y11), some (xI w12_4)] [] h13 Post := by
              intro m12
              induction m12 with
              | zero => intro w12_4 Z13 h13 q12 f12_0 hx13 hG13 hf13; exact absurd q12 (by omega)
              | succ m12 ih12 =>
                intro w12_4 Z13 h13 q12 f12_0 hx13 hG13 hf13
                refine mx_J.step (sn_130 68) (fun _ _ => rfl) ?_
                refine mx_J.step (sn_130 70) (fun _ _ => rfl) ?_
                refine Jicmp_ge (show mx_Sn _ _ 71 (mx_icmp_ge 102 74) from sn_130 71) (by omega) (by omega) (fun q14 => ?_) (fun q14 => ?_)
                · skip
                  refine mx_J.step (sn_130 102) (fun _ _ => rfl) ?_
                  exact mx_J.ret (sn_130 103) (fun _ _ => rfl) (hP y11 Z13 h13 hx13 hG13 (fr_tr (M := [(47, (-1))]) fr_rf (hf13) (M1 := []) rfl rfl) (by omega))
                · skip
                  refine mx_J.step (sn_130 74) (fun _ _ => rfl) ?_
                  refine JgetR (g := 10) (b := 34) hx13 (show mx_Sn _ _ 75 (mx_getf 11 10 78) from sn_130 75) a1 s1 rfl rfl (hG13.prr 1 10 rfl) ?_
                  refine mx_J.step (sn_130 78) (fun _ _ => rfl) ?_
                  refine JaaldR (i := 1) (b := 46) hx13 (show mx_Sn _ _ 79 (mx_aald 80) from sn_130 79) a34 s34 (by omega) (show Z13 34 1 = 46 by have hq := GI_ex hG13 34 1; replace hq : ((0 : Int) ≤ 1 → (1 : Int) ≤ 3 → (Z13 34 1) = 44 + 2 * 1) := hq; omega) ?_
                  refine mx_J.step (sn_130 80) (fun _ _ => rfl) ?_
                  refine mx_J.step (sn_130 82) (fun _ _ => rfl) ?_
                  refine JgetR (g := 5) (b := 7) hx13 (show mx_Sn _ _ 83 (mx_getf 11 5 86) from sn_130 83) a1 s1 rfl rfl (hG13.prr 1 5 rfl) ?_
                  refine mx_J.step (sn_130 86) (fun _ _ => rfl) ?_
                  refine mx_J.step (sn_130 87) (fun _ _ => rfl) ?_
                  obtain ⟨z15, hc15, b15⟩ := ct_6_7 (d := d + 0) (l := l) (D := D) (b0 := b0) (ad := ad) (Hb := Hb) (tau := tau) hx13 hG13 (show (-2147483648) ≤ x1 ∧ x1 ≤ 2147483647 by omega) (show (-2147483648) ≤ w12_4 ∧ w12_4 ≤ 2147483647 by omega)
                  have eq16 : Z13 9 (x1 * 18 + w12_4) = Z 9 (x1 * 18 + w12_4) := (hf13 9 (x1 * 18 + w12_4) rfl)
                  refine Jcv hx13 (show mx_Sn _ _ 89 (mx_callv 6 3 0 92) from sn_130 89) a7 s7 hc15 rfl rfl rfl ?_
                  refine Ji2l (show mx_Sn _ _ 92 (mx_i2l 93) from sn_130 92) (by omega) ?_
                  obtain ⟨Z17, h17, hc17, hx17, hG17, hf17⟩ := ct_84_46 (d := d + 1) (l := l) (D := D) (b0 := b0) (ad := ad) (Hb := Hb) (tau := tau) hx13 hG13 (show (-2147483648) ≤ w12_4 ∧ w12_4 ≤ 2147483647 by omega) (show (-9223372036854775808) ≤ z15 ∧ z15 ≤ 9223372036854775807 by omega)
                  refine Jcv0 hx13 (show mx_Sn _ _ 93 (mx_callv 84 3 10 96) from sn_130 93) a46 s46 hc17 rfl rfl rfl ?_
                  refine Jiinc (z := w12_4) (cz := 1) (ls2 := [some (.ref 1), some (xI 1), some (xI x1), some (xI y11), some (xI (w12_4 + 1))]) (show mx_Sn _ _ 96 (mx_iinc 4 1 99) from sn_130 96) rfl rfl rfl rfl ?_
                  refine mx_J.step (sn_130 99) (fun _ _ => rfl) ?_
                  exact ih12 (w12_4 + 1) Z17 h17 (by omega) (by omega) hx17 hG17 (fr_tr (M := [(47, (-1))]) (fr_tr (M := [(47, (-1))]) fr_rf (hf13) (M1 := []) rfl rfl) (hf17) rfl rfl)
            exact c68 (Int.toNat (18 - 0) + 1) 0 Z h (by omega) (by omega) hx hG fr_rf
          · skip
            exact c41 
      · skip
        refine JcI (z := (-6)) (show mx_Sn _ _ 23 (mx_const (.int (-6)) 25) from sn_130 23) rfl ?_
        exact mx_J.ret (sn_130 25) (fun _ _ => rfl) (hP (-6) Z h hx hG fr_rf (by omega))
    · skip
      exfalso; omega
theorem ct_130_1_i1 {l : Launch} {D : va_G} {b0 : Nat} {ad : Nat → Nat} {Hb : Heap} {tau : Nat → Int64} {d n s : Nat} {S : Nat → xS} {Z : xZ} {h : mx_H} (hx : XH n s S Z h) (hG : GI n S Z) {x1 : Int} (p1 : (-2147483648) ≤ x1 ∧ x1 ≤ 2147483647) : ∃ (z : Int) (Z' : xZ) (h' : mx_H), mx_Ca (tB l D b0 ad Hb tau) (d + 3) 130 [.ref 1, xI 1, xI x1] h (some (xI z), h') ∧ XH n s S Z' h' ∧ GI n S Z' ∧ fr' [(47, (-1))] Z Z' ∧ ((-6) ≤ z ∧ z ≤ 18) := by
  obtain ⟨r, hca, z, Z', h', e, q⟩ := Jmt (B := tB l D b0 ad Hb tau) (M := mt_130) (mi := 130) (as := [.ref 1, xI 1, xI x1]) (d := d + 2) (ls := [some (.ref 1), some (xI 1), some (xI x1), none, none]) rfl rfl rfl rfl rfl rfl (cw_130_1_i1 (l := l) (D := D) (b0 := b0) (ad := ad) (Hb := Hb) (tau := tau) (d := d) (Post := fun r => ∃ (z : Int) (Z' : xZ) (h' : mx_H), r = (some (xI z), h') ∧ XH n s S Z' h' ∧ GI n S Z' ∧ fr' [(47, (-1))] Z Z' ∧ ((-6) ≤ z ∧ z ≤ 18)) hx hG p1 (fun z Z' h' q1 q2 q3 q4 => ⟨z, Z', h', rfl, q1, q2, q3, q4⟩))
  subst e; exact ⟨z, Z', h', hca, q⟩
set_option maxRecDepth 100000 in
theorem cw_130_1_i2 {l : Launch} {D : va_G} {b0 : Nat} {ad : Nat → Nat} {Hb : Heap} {tau : Nat → Int64} {d n s : Nat} {S : Nat → xS} {Z : xZ} {h : mx_H} {Post : mx_R → Prop} (hx : XH n s S Z h) (hG : GI n S Z) {x1 : Int} (p1 : (-2147483648) ≤ x1 ∧ x1 ≤ 2147483647) (hP : ∀ (z : Int) (Z' : xZ) (h' : mx_H), XH n s S Z' h' → GI n S Z' → fr' [(49, (-1))] Z Z' → (-6) ≤ z ∧ z ≤ 18 → Post (some (xI z), h')) : mx_J (tB l D b0 ad Hb tau) mt_130 (d + 2) 0 [some (.ref 1), some (xI 2), some (xI x1), none, none] [] h Post := by
    have a1 : 1 < n := lt83 hG.1 rfl
    have s1 : S 1 = .inl (11, [2, 0, 0, 0, 2, 2, 2, 2, 2, 2, 2, 2, 2, 2, 2, 2, 2]) := hG.2.1 1 rfl
    have a7 : 7 < n := lt83 hG.1 rfl
    have s7 : S 7 = .inl (0, [2, 2, 2, 2, 0, 0]) := hG.2.1 7 rfl
    have a34 : 34 < n := lt83 hG.1 rfl
    have s34 : S 34 = .inr ((.object "TitheHeap$Tray"), 4, 2) := hG.2.1 34 rfl
    have a48 : 48 < n := lt83 hG.1 rfl
    have s48 : S 48 = .inl (10, [2, 0, 0, 0]) := hG.2.1 48 rfl
    refine mx_J.step (sn_130 0) (fun _ _ => rfl) ?_
    refine mx_J.step (sn_130 1) (fun _ _ => rfl) ?_
    obtain ⟨z1, hc1, b1⟩ := ct_144_1_y (d := d + 1) (l := l) (D := D) (b0 := b0) (ad := ad) (Hb := Hb) (tau := tau) hx hG (show 0 ≤ 2 ∧ 2 ≤ 3 by omega)
    refine Jcv hx (show mx_Sn _ _ 2 (mx_callv 144 2 11 5) from sn_130 2) a1 s1 hc1 rfl rfl rfl ?_
    refine Jif_eq (show mx_Sn _ _ 5 (mx_if_eq 11 8) from sn_130 5) (by omega) (fun q2 => ?_) (fun q2 => ?_)
    · skip
      refine mx_J.step (sn_130 11) (fun _ _ => rfl) ?_
      refine JgetR (g := 10) (b := 34) hx (show mx_Sn _ _ 12 (mx_getf 11 10 15) from sn_130 12) a1 s1 rfl rfl (hG.prr 1 10 rfl) ?_
      refine mx_J.step (sn_130 15) (fun _ _ => rfl) ?_
      refine JaaldR (i := 2) (b := 48) hx (show mx_Sn _ _ 16 (mx_aald 17) from sn_130 16) a34 s34 (by omega) (show Z 34 2 = 48 by have hq := GI_ex hG 34 2; replace hq : ((0 : Int) ≤ 2 → (2 : Int) ≤ 3 → (Z 34 2) = 44 + 2 * 2) := hq; omega) ?_
      have b3 : 0 ≤ Z 48 3 ∧ Z 48 3 ≤ 1 := hG.pr 48 3
      refine JgetI (g := 3) (z := Z 48 3) hx (show mx_Sn _ _ 17 (mx_getf 10 3 20) from sn_130 17) a48 s48 rfl rfl rfl ?_
      refine Jif_eq (show mx_Sn _ _ 20 (mx_if_eq 26 23) from sn_130 20) (by omega) (fun q4 => ?_) (fun q4 => ?_)
      · skip
        refine mx_J.step (sn_130 26) (fun _ _ => rfl) ?_
        have c41 : mx_J (tB l D b0 ad Hb tau) mt_130 (d + 2) 41 [some (.ref 1), some (xI 2), some (xI x1), none, none] [] h Post := by
          refine JcI (z := (-3)) (show mx_Sn _ _ 41 (mx_const (.int (-3)) 43) from sn_130 41) rfl ?_
          exact mx_J.ret (sn_130 43) (fun _ _ => rfl) (hP (-3) Z h hx hG fr_rf (by omega))
        refine Jif_lt (show mx_Sn _ _ 27 (mx_if_lt 41 30) from sn_130 27) (by omega) (fun q6 => ?_) (fun q6 => ?_)
        · skip
          exact c41 
        · skip
          refine mx_J.step (sn_130 30) (fun _ _ => rfl) ?_
          refine mx_J.step (sn_130 31) (fun _ _ => rfl) ?_
          refine JgetR (g := 5) (b := 7) hx (show mx_Sn _ _ 32 (mx_getf 11 5 35) from sn_130 32) a1 s1 rfl rfl (hG.prr 1 5 rfl) ?_
          have b7 : 0 ≤ Z 7 5 ∧ Z 7 5 ≤ 385 := hG.pr 7 5
          refine JgetI (g := 5) (z := Z 7 5) hx (show mx_Sn _ _ 35 (mx_getf 0 5 38) from sn_130 35) a7 s7 rfl rfl rfl ?_
          refine Jicmp_lt (show mx_Sn _ _ 38 (mx_icmp_lt 44 41) from sn_130 38) (by omega) (by omega) (fun q8 => ?_) (fun q8 => ?_)
          · skip
            refine mx_J.step (sn_130 44) (fun _ _ => rfl) ?_
            refine JgetR (g := 5) (b := 7) hx (show mx_Sn _ _ 45 (mx_getf 11 5 48) from sn_130 45) a1 s1 rfl rfl (hG.prr 1 5 rfl) ?_
            refine mx_J.step (sn_130 48) (fun _ _ => rfl) ?_
            obtain ⟨z9, hc9, b9⟩ := ct_5_7 (d := d + 1) (l := l) (D := D) (b0 := b0) (ad := ad) (Hb := Hb) (tau := tau) hx hG (show (-2147483648) ≤ x1 ∧ x1 ≤ 2147483647 by omega)
            refine Jcv hx (show mx_Sn _ _ 49 (mx_callv 5 2 0 52) from sn_130 49) a7 s7 hc9 rfl rfl rfl ?_
            refine mx_J.step (sn_130 52) (fun _ _ => rfl) ?_
            refine JgetR (g := 10) (b := 34) hx (show mx_Sn _ _ 53 (mx_getf 11 10 56) from sn_130 53) a1 s1 rfl rfl (hG.prr 1 10 rfl) ?_
            refine mx_J.step (sn_130 56) (fun _ _ => rfl) ?_
            refine JaaldR (i := 2) (b := 48) hx (show mx_Sn _ _ 57 (mx_aald 58) from sn_130 57) a34 s34 (by omega) (show Z 34 2 = 48 by have hq := GI_ex hG 34 2; replace hq : ((0 : Int) ≤ 2 → (2 : Int) ≤ 3 → (Z 34 2) = 44 + 2 * 2) := hq; omega) ?_
            have b10 : 0 ≤ Z 48 2 ∧ Z 48 2 ≤ 40 := hG.pr 48 2
            refine JgetI (g := 2) (z := Z 48 2) hx (show mx_Sn _ _ 58 (mx_getf 10 2 61) from sn_130 58) a48 s48 rfl rfl rfl ?_
            refine Jmmin (show mx_Sn _ _ 61 (mx_mmin 64) from sn_130 61) (by omega) (by omega) ⟨_, rfl⟩ rfl (fun y11 hy11 => ?_)
            refine mx_J.step (ls2 := [some (.ref 1), some (xI 2), some (xI x1), some (xI y11), none]) (sn_130 64) (fun _ _ => rfl) ?_
            refine JcI (z := 0) (show mx_Sn _ _ 65 (mx_const (.int 0) 66) from sn_130 65) rfl ?_
            refine mx_J.step (ls2 := [some (.ref 1), some (xI 2), some (xI x1), some (xI y11), some (xI 0)]) (sn_130 66) (fun _ _ => rfl) ?_
            have c68 : ∀ (m12 : Nat) (w12_4 : Int) (Z13 : xZ) (h13 : mx_H), 18 - w12_4 < (m12 : Int) → 0 ≤ w12_4 ∧ w12_4 ≤ 18 → XH n s S Z13 h13 → GI n S Z13 → fr' [(49, (-1))] Z Z13 → mx_J (tB l D b0 ad Hb tau) mt_130 (d + 2) 68 [some (.ref 1), some (xI 2), some (xI x1), some (xI y11), some (xI w12_4)] [] h13 Post := by
              intro m12
              induction m12 with
              | zero => intro w12_4 Z13 h13 q12 f12_0 hx13 hG13 hf13; exact absurd q12 (by omega)
              | succ m12 ih12 =>
                intro w12_4 Z13 h13 q12 f12_0 hx13 hG13 hf13
                refine mx_J.step (sn_130 68) (fun _ _ => rfl) ?_
                refine mx_J.step (sn_130 70) (fun _ _ => rfl) ?_
                refine Jicmp_ge (show mx_Sn _ _ 71 (mx_icmp_ge 102 74) from sn_130 71) (by omega) (by omega) (fun q14 => ?_) (fun q14 => ?_)
                · skip
                  refine mx_J.step (sn_130 102) (fun _ _ => rfl) ?_
                  exact mx_J.ret (sn_130 103) (fun _ _ => rfl) (hP y11 Z13 h13 hx13 hG13 (fr_tr (M := [(49, (-1))]) fr_rf (hf13) (M1 := []) rfl rfl) (by omega))
                · skip
                  refine mx_J.step (sn_130 74) (fun _ _ => rfl) ?_
                  refine JgetR (g := 10) (b := 34) hx13 (show mx_Sn _ _ 75 (mx_getf 11 10 78) from sn_130 75) a1 s1 rfl rfl (hG13.prr 1 10 rfl) ?_
                  refine mx_J.step (sn_130 78) (fun _ _ => rfl) ?_
                  refine JaaldR (i := 2) (b := 48) hx13 (show mx_Sn _ _ 79 (mx_aald 80) from sn_130 79) a34 s34 (by omega) (show Z13 34 2 = 48 by have hq := GI_ex hG13 34 2; replace hq : ((0 : Int) ≤ 2 → (2 : Int) ≤ 3 → (Z13 34 2) = 44 + 2 * 2) := hq; omega) ?_
                  refine mx_J.step (sn_130 80) (fun _ _ => rfl) ?_
                  refine mx_J.step (sn_130 82) (fun _ _ => rfl) ?_
                  refine JgetR (g := 5) (b := 7) hx13 (show mx_Sn _ _ 83 (mx_getf 11 5 86) from sn_130 83) a1 s1 rfl rfl (hG13.prr 1 5 rfl) ?_
                  refine mx_J.step (sn_130 86) (fun _ _ => rfl) ?_
                  refine mx_J.step (sn_130 87) (fun _ _ => rfl) ?_
                  obtain ⟨z15, hc15, b15⟩ := ct_6_7 (d := d + 0) (l := l) (D := D) (b0 := b0) (ad := ad) (Hb := Hb) (tau := tau) hx13 hG13 (show (-2147483648) ≤ x1 ∧ x1 ≤ 2147483647 by omega) (show (-2147483648) ≤ w12_4 ∧ w12_4 ≤ 2147483647 by omega)
                  have eq16 : Z13 9 (x1 * 18 + w12_4) = Z 9 (x1 * 18 + w12_4) := (hf13 9 (x1 * 18 + w12_4) rfl)
                  refine Jcv hx13 (show mx_Sn _ _ 89 (mx_callv 6 3 0 92) from sn_130 89) a7 s7 hc15 rfl rfl rfl ?_
                  refine Ji2l (show mx_Sn _ _ 92 (mx_i2l 93) from sn_130 92) (by omega) ?_
                  obtain ⟨Z17, h17, hc17, hx17, hG17, hf17⟩ := ct_84_48 (d := d + 1) (l := l) (D := D) (b0 := b0) (ad := ad) (Hb := Hb) (tau := tau) hx13 hG13 (show (-2147483648) ≤ w12_4 ∧ w12_4 ≤ 2147483647 by omega) (show (-9223372036854775808) ≤ z15 ∧ z15 ≤ 9223372036854775807 by omega)
                  refine Jcv0 hx13 (show mx_Sn _ _ 93 (mx_callv 84 3 10 96) from sn_130 93) a48 s48 hc17 rfl rfl rfl ?_
                  refine Jiinc (z := w12_4) (cz := 1) (ls2 := [some (.ref 1), some (xI 2), some (xI x1), some (xI y11), some (xI (w12_4 + 1))]) (show mx_Sn _ _ 96 (mx_iinc 4 1 99) from sn_130 96) rfl rfl rfl rfl ?_
                  refine mx_J.step (sn_130 99) (fun _ _ => rfl) ?_
                  exact ih12 (w12_4 + 1) Z17 h17 (by omega) (by omega) hx17 hG17 (fr_tr (M := [(49, (-1))]) (fr_tr (M := [(49, (-1))]) fr_rf (hf13) (M1 := []) rfl rfl) (hf17) rfl rfl)
            exact c68 (Int.toNat (18 - 0) + 1) 0 Z h (by omega) (by omega) hx hG fr_rf
          · skip
            exact c41 
      · skip
        refine JcI (z := (-6)) (show mx_Sn _ _ 23 (mx_const (.int (-6)) 25) from sn_130 23) rfl ?_
        exact mx_J.ret (sn_130 25) (fun _ _ => rfl) (hP (-6) Z h hx hG fr_rf (by omega))
    · skip
      exfalso; omega
theorem ct_130_1_i2 {l : Launch} {D : va_G} {b0 : Nat} {ad : Nat → Nat} {Hb : Heap} {tau : Nat → Int64} {d n s : Nat} {S : Nat → xS} {Z : xZ} {h : mx_H} (hx : XH n s S Z h) (hG : GI n S Z) {x1 : Int} (p1 : (-2147483648) ≤ x1 ∧ x1 ≤ 2147483647) : ∃ (z : Int) (Z' : xZ) (h' : mx_H), mx_Ca (tB l D b0 ad Hb tau) (d + 3) 130 [.ref 1, xI 2, xI x1] h (some (xI z), h') ∧ XH n s S Z' h' ∧ GI n S Z' ∧ fr' [(49, (-1))] Z Z' ∧ ((-6) ≤ z ∧ z ≤ 18) := by
  obtain ⟨r, hca, z, Z', h', e, q⟩ := Jmt (B := tB l D b0 ad Hb tau) (M := mt_130) (mi := 130) (as := [.ref 1, xI 2, xI x1]) (d := d + 2) (ls := [some (.ref 1), some (xI 2), some (xI x1), none, none]) rfl rfl rfl rfl rfl rfl (cw_130_1_i2 (l := l) (D := D) (b0 := b0) (ad := ad) (Hb := Hb) (tau := tau) (d := d) (Post := fun r => ∃ (z : Int) (Z' : xZ) (h' : mx_H), r = (some (xI z), h') ∧ XH n s S Z' h' ∧ GI n S Z' ∧ fr' [(49, (-1))] Z Z' ∧ ((-6) ≤ z ∧ z ≤ 18)) hx hG p1 (fun z Z' h' q1 q2 q3 q4 => ⟨z, Z', h', rfl, q1, q2, q3, q4⟩))
  subst e; exact ⟨z, Z', h', hca, q⟩
set_option maxRecDepth 100000 in
theorem cw_130_1_i3 {l : Launch} {D : va_G} {b0 : Nat} {ad : Nat → Nat} {Hb : Heap} {tau : Nat → Int64} {d n s : Nat} {S : Nat → xS} {Z : xZ} {h : mx_H} {Post : mx_R → Prop} (hx : XH n s S Z h) (hG : GI n S Z) {x1 : Int} (p1 : (-2147483648) ≤ x1 ∧ x1 ≤ 2147483647) (hP : ∀ (z : Int) (Z' : xZ) (h' : mx_H), XH n s S Z' h' → GI n S Z' → fr' [(51, (-1))] Z Z' → (-6) ≤ z ∧ z ≤ 18 → Post (some (xI z), h')) : mx_J (tB l D b0 ad Hb tau) mt_130 (d + 2) 0 [some (.ref 1), some (xI 3), some (xI x1), none, none] [] h Post := by
    have a1 : 1 < n := lt83 hG.1 rfl
    have s1 : S 1 = .inl (11, [2, 0, 0, 0, 2, 2, 2, 2, 2, 2, 2, 2, 2, 2, 2, 2, 2]) := hG.2.1 1 rfl
    have a7 : 7 < n := lt83 hG.1 rfl
    have s7 : S 7 = .inl (0, [2, 2, 2, 2, 0, 0]) := hG.2.1 7 rfl
    have a34 : 34 < n := lt83 hG.1 rfl
    have s34 : S 34 = .inr ((.object "TitheHeap$Tray"), 4, 2) := hG.2.1 34 rfl
    have a50 : 50 < n := lt83 hG.1 rfl
    have s50 : S 50 = .inl (10, [2, 0, 0, 0]) := hG.2.1 50 rfl
    refine mx_J.step (sn_130 0) (fun _ _ => rfl) ?_
    refine mx_J.step (sn_130 1) (fun _ _ => rfl) ?_
    obtain ⟨z1, hc1, b1⟩ := ct_144_1_y (d := d + 1) (l := l) (D := D) (b0 := b0) (ad := ad) (Hb := Hb) (tau := tau) hx hG (show 0 ≤ 3 ∧ 3 ≤ 3 by omega)
    refine Jcv hx (show mx_Sn _ _ 2 (mx_callv 144 2 11 5) from sn_130 2) a1 s1 hc1 rfl rfl rfl ?_
    refine Jif_eq (show mx_Sn _ _ 5 (mx_if_eq 11 8) from sn_130 5) (by omega) (fun q2 => ?_) (fun q2 => ?_)
    · skip
      refine mx_J.step (sn_130 11) (fun _ _ => rfl) ?_
      refine JgetR (g := 10) (b := 34) hx (show mx_Sn _ _ 12 (mx_getf 11 10 15) from sn_130 12) a1 s1 rfl rfl (hG.prr 1 10 rfl) ?_
      refine mx_J.step (sn_130 15) (fun _ _ => rfl) ?_
      refine JaaldR (i := 3) (b := 50) hx (show mx_Sn _ _ 16 (mx_aald 17) from sn_130 16) a34 s34 (by omega) (show Z 34 3 = 50 by have hq := GI_ex hG 34 3; replace hq : ((0 : Int) ≤ 3 → (3 : Int) ≤ 3 → (Z 34 3) = 44 + 2 * 3) := hq; omega) ?_
      have b3 : 0 ≤ Z 50 3 ∧ Z 50 3 ≤ 1 := hG.pr 50 3
      refine JgetI (g := 3) (z := Z 50 3) hx (show mx_Sn _ _ 17 (mx_getf 10 3 20) from sn_130 17) a50 s50 rfl rfl rfl ?_
      refine Jif_eq (show mx_Sn _ _ 20 (mx_if_eq 26 23) from sn_130 20) (by omega) (fun q4 => ?_) (fun q4 => ?_)
      · skip
        refine mx_J.step (sn_130 26) (fun _ _ => rfl) ?_
        have c41 : mx_J (tB l D b0 ad Hb tau) mt_130 (d + 2) 41 [some (.ref 1), some (xI 3), some (xI x1), none, none] [] h Post := by
          refine JcI (z := (-3)) (show mx_Sn _ _ 41 (mx_const (.int (-3)) 43) from sn_130 41) rfl ?_
          exact mx_J.ret (sn_130 43) (fun _ _ => rfl) (hP (-3) Z h hx hG fr_rf (by omega))
        refine Jif_lt (show mx_Sn _ _ 27 (mx_if_lt 41 30) from sn_130 27) (by omega) (fun q6 => ?_) (fun q6 => ?_)
        · skip
          exact c41 
        · skip
          refine mx_J.step (sn_130 30) (fun _ _ => rfl) ?_
          refine mx_J.step (sn_130 31) (fun _ _ => rfl) ?_
          refine JgetR (g := 5) (b := 7) hx (show mx_Sn _ _ 32 (mx_getf 11 5 35) from sn_130 32) a1 s1 rfl rfl (hG.prr 1 5 rfl) ?_
          have b7 : 0 ≤ Z 7 5 ∧ Z 7 5 ≤ 385 := hG.pr 7 5
          refine JgetI (g := 5) (z := Z 7 5) hx (show mx_Sn _ _ 35 (mx_getf 0 5 38) from sn_130 35) a7 s7 rfl rfl rfl ?_
          refine Jicmp_lt (show mx_Sn _ _ 38 (mx_icmp_lt 44 41) from sn_130 38) (by omega) (by omega) (fun q8 => ?_) (fun q8 => ?_)
          · skip
            refine mx_J.step (sn_130 44) (fun _ _ => rfl) ?_
            refine JgetR (g := 5) (b := 7) hx (show mx_Sn _ _ 45 (mx_getf 11 5 48) from sn_130 45) a1 s1 rfl rfl (hG.prr 1 5 rfl) ?_
            refine mx_J.step (sn_130 48) (fun _ _ => rfl) ?_
            obtain ⟨z9, hc9, b9⟩ := ct_5_7 (d := d + 1) (l := l) (D := D) (b0 := b0) (ad := ad) (Hb := Hb) (tau := tau) hx hG (show (-2147483648) ≤ x1 ∧ x1 ≤ 2147483647 by omega)
            refine Jcv hx (show mx_Sn _ _ 49 (mx_callv 5 2 0 52) from sn_130 49) a7 s7 hc9 rfl rfl rfl ?_
            refine mx_J.step (sn_130 52) (fun _ _ => rfl) ?_
            refine JgetR (g := 10) (b := 34) hx (show mx_Sn _ _ 53 (mx_getf 11 10 56) from sn_130 53) a1 s1 rfl rfl (hG.prr 1 10 rfl) ?_
            refine mx_J.step (sn_130 56) (fun _ _ => rfl) ?_
            refine JaaldR (i := 3) (b := 50) hx (show mx_Sn _ _ 57 (mx_aald 58) from sn_130 57) a34 s34 (by omega) (show Z 34 3 = 50 by have hq := GI_ex hG 34 3; replace hq : ((0 : Int) ≤ 3 → (3 : Int) ≤ 3 → (Z 34 3) = 44 + 2 * 3) := hq; omega) ?_
            have b10 : 0 ≤ Z 50 2 ∧ Z 50 2 ≤ 40 := hG.pr 50 2
            refine JgetI (g := 2) (z := Z 50 2) hx (show mx_Sn _ _ 58 (mx_getf 10 2 61) from sn_130 58) a50 s50 rfl rfl rfl ?_
            refine Jmmin (show mx_Sn _ _ 61 (mx_mmin 64) from sn_130 61) (by omega) (by omega) ⟨_, rfl⟩ rfl (fun y11 hy11 => ?_)
            refine mx_J.step (ls2 := [some (.ref 1), some (xI 3), some (xI x1), some (xI y11), none]) (sn_130 64) (fun _ _ => rfl) ?_
            refine JcI (z := 0) (show mx_Sn _ _ 65 (mx_const (.int 0) 66) from sn_130 65) rfl ?_
            refine mx_J.step (ls2 := [some (.ref 1), some (xI 3), some (xI x1), some (xI y11), some (xI 0)]) (sn_130 66) (fun _ _ => rfl) ?_
            have c68 : ∀ (m12 : Nat) (w12_4 : Int) (Z13 : xZ) (h13 : mx_H), 18 - w12_4 < (m12 : Int) → 0 ≤ w12_4 ∧ w12_4 ≤ 18 → XH n s S Z13 h13 → GI n S Z13 → fr' [(51, (-1))] Z Z13 → mx_J (tB l D b0 ad Hb tau) mt_130 (d + 2) 68 [some (.ref 1), some (xI 3), some (xI x1), some (xI y11), some (xI w12_4)] [] h13 Post := by
              intro m12
              induction m12 with
              | zero => intro w12_4 Z13 h13 q12 f12_0 hx13 hG13 hf13; exact absurd q12 (by omega)
              | succ m12 ih12 =>
                intro w12_4 Z13 h13 q12 f12_0 hx13 hG13 hf13
                refine mx_J.step (sn_130 68) (fun _ _ => rfl) ?_
                refine mx_J.step (sn_130 70) (fun _ _ => rfl) ?_
                refine Jicmp_ge (show mx_Sn _ _ 71 (mx_icmp_ge 102 74) from sn_130 71) (by omega) (by omega) (fun q14 => ?_) (fun q14 => ?_)
                · skip
                  refine mx_J.step (sn_130 102) (fun _ _ => rfl) ?_
                  exact mx_J.ret (sn_130 103) (fun _ _ => rfl) (hP y11 Z13 h13 hx13 hG13 (fr_tr (M := [(51, (-1))]) fr_rf (hf13) (M1 := []) rfl rfl) (by omega))
                · skip
                  refine mx_J.step (sn_130 74) (fun _ _ => rfl) ?_
                  refine JgetR (g := 10) (b := 34) hx13 (show mx_Sn _ _ 75 (mx_getf 11 10 78) from sn_130 75) a1 s1 rfl rfl (hG13.prr 1 10 rfl) ?_
                  refine mx_J.step (sn_130 78) (fun _ _ => rfl) ?_
                  refine JaaldR (i := 3) (b := 50) hx13 (show mx_Sn _ _ 79 (mx_aald 80) from sn_130 79) a34 s34 (by omega) (show Z13 34 3 = 50 by have hq := GI_ex hG13 34 3; replace hq : ((0 : Int) ≤ 3 → (3 : Int) ≤ 3 → (Z13 34 3) = 44 + 2 * 3) := hq; omega) ?_
                  refine mx_J.step (sn_130 80) (fun _ _ => rfl) ?_
                  refine mx_J.step (sn_130 82) (fun _ _ => rfl) ?_
                  refine JgetR (g := 5) (b := 7) hx13 (show mx_Sn _ _ 83 (mx_getf 11 5 86) from sn_130 83) a1 s1 rfl rfl (hG13.prr 1 5 rfl) ?_
                  refine mx_J.step (sn_130 86) (fun _ _ => rfl) ?_
                  refine mx_J.step (sn_130 87) (fun _ _ => rfl) ?_
                  obtain ⟨z15, hc15, b15⟩ := ct_6_7 (d := d + 0) (l := l) (D := D) (b0 := b0) (ad := ad) (Hb := Hb) (tau := tau) hx13 hG13 (show (-2147483648) ≤ x1 ∧ x1 ≤ 2147483647 by omega) (show (-2147483648) ≤ w12_4 ∧ w12_4 ≤ 2147483647 by omega)
                  have eq16 : Z13 9 (x1 * 18 + w12_4) = Z 9 (x1 * 18 + w12_4) := (hf13 9 (x1 * 18 + w12_4) rfl)
                  refine Jcv hx13 (show mx_Sn _ _ 89 (mx_callv 6 3 0 92) from sn_130 89) a7 s7 hc15 rfl rfl rfl ?_
                  refine Ji2l (show mx_Sn _ _ 92 (mx_i2l 93) from sn_130 92) (by omega) ?_
                  obtain ⟨Z17, h17, hc17, hx17, hG17, hf17⟩ := ct_84_50 (d := d + 1) (l := l) (D := D) (b0 := b0) (ad := ad) (Hb := Hb) (tau := tau) hx13 hG13 (show (-2147483648) ≤ w12_4 ∧ w12_4 ≤ 2147483647 by omega) (show (-9223372036854775808) ≤ z15 ∧ z15 ≤ 9223372036854775807 by omega)
                  refine Jcv0 hx13 (show mx_Sn _ _ 93 (mx_callv 84 3 10 96) from sn_130 93) a50 s50 hc17 rfl rfl rfl ?_
                  refine Jiinc (z := w12_4) (cz := 1) (ls2 := [some (.ref 1), some (xI 3), some (xI x1), some (xI y11), some (xI (w12_4 + 1))]) (show mx_Sn _ _ 96 (mx_iinc 4 1 99) from sn_130 96) rfl rfl rfl rfl ?_
                  refine mx_J.step (sn_130 99) (fun _ _ => rfl) ?_
                  exact ih12 (w12_4 + 1) Z17 h17 (by omega) (by omega) hx17 hG17 (fr_tr (M := [(51, (-1))]) (fr_tr (M := [(51, (-1))]) fr_rf (hf13) (M1 := []) rfl rfl) (hf17) rfl rfl)
            exact c68 (Int.toNat (18 - 0) + 1) 0 Z h (by omega) (by omega) hx hG fr_rf
          · skip
            exact c41 
      · skip
        refine JcI (z := (-6)) (show mx_Sn _ _ 23 (mx_const (.int (-6)) 25) from sn_130 23) rfl ?_
        exact mx_J.ret (sn_130 25) (fun _ _ => rfl) (hP (-6) Z h hx hG fr_rf (by omega))
    · skip
      exfalso; omega
theorem ct_130_1_i3 {l : Launch} {D : va_G} {b0 : Nat} {ad : Nat → Nat} {Hb : Heap} {tau : Nat → Int64} {d n s : Nat} {S : Nat → xS} {Z : xZ} {h : mx_H} (hx : XH n s S Z h) (hG : GI n S Z) {x1 : Int} (p1 : (-2147483648) ≤ x1 ∧ x1 ≤ 2147483647) : ∃ (z : Int) (Z' : xZ) (h' : mx_H), mx_Ca (tB l D b0 ad Hb tau) (d + 3) 130 [.ref 1, xI 3, xI x1] h (some (xI z), h') ∧ XH n s S Z' h' ∧ GI n S Z' ∧ fr' [(51, (-1))] Z Z' ∧ ((-6) ≤ z ∧ z ≤ 18) := by
  obtain ⟨r, hca, z, Z', h', e, q⟩ := Jmt (B := tB l D b0 ad Hb tau) (M := mt_130) (mi := 130) (as := [.ref 1, xI 3, xI x1]) (d := d + 2) (ls := [some (.ref 1), some (xI 3), some (xI x1), none, none]) rfl rfl rfl rfl rfl rfl (cw_130_1_i3 (l := l) (D := D) (b0 := b0) (ad := ad) (Hb := Hb) (tau := tau) (d := d) (Post := fun r => ∃ (z : Int) (Z' : xZ) (h' : mx_H), r = (some (xI z), h') ∧ XH n s S Z' h' ∧ GI n S Z' ∧ fr' [(51, (-1))] Z Z' ∧ ((-6) ≤ z ∧ z ≤ 18)) hx hG p1 (fun z Z' h' q1 q2 q3 q4 => ⟨z, Z', h', rfl, q1, q2, q3, q4⟩))
  subst e; exact ⟨z, Z', h', hca, q⟩
set_option maxRecDepth 100000 in
theorem cw_130_1_n {l : Launch} {D : va_G} {b0 : Nat} {ad : Nat → Nat} {Hb : Heap} {tau : Nat → Int64} {d n s : Nat} {S : Nat → xS} {Z : xZ} {h : mx_H} {Post : mx_R → Prop} (hx : XH n s S Z h) (hG : GI n S Z) {x0 x1 : Int} (p0 : (-2147483648) ≤ x0 ∧ x0 ≤ (-1)) (p1 : (-2147483648) ≤ x1 ∧ x1 ≤ 2147483647) (hP : ∀ z : Int, (-2) ≤ z ∧ z ≤ (-2) → Post (some (xI z), h)) : mx_J (tB l D b0 ad Hb tau) mt_130 (d + 1) 0 [some (.ref 1), some (xI x0), some (xI x1), none, none] [] h Post := by
    have a1 : 1 < n := lt83 hG.1 rfl
    have s1 : S 1 = .inl (11, [2, 0, 0, 0, 2, 2, 2, 2, 2, 2, 2, 2, 2, 2, 2, 2, 2]) := hG.2.1 1 rfl
    refine mx_J.step (sn_130 0) (fun _ _ => rfl) ?_
    refine mx_J.step (sn_130 1) (fun _ _ => rfl) ?_
    obtain ⟨z1, hc1, b1⟩ := ct_144_1_n (d := d + 0) (l := l) (D := D) (b0 := b0) (ad := ad) (Hb := Hb) (tau := tau) hx hG (show (-2147483648) ≤ x0 ∧ x0 ≤ (-1) by omega)
    refine Jcv hx (show mx_Sn _ _ 2 (mx_callv 144 2 11 5) from sn_130 2) a1 s1 hc1 rfl rfl rfl ?_
    refine Jif_eq (show mx_Sn _ _ 5 (mx_if_eq 11 8) from sn_130 5) (by omega) (fun q2 => ?_) (fun q2 => ?_)
    · skip
      exfalso; omega
    · skip
      refine JcI (z := (-2)) (show mx_Sn _ _ 8 (mx_const (.int (-2)) 10) from sn_130 8) rfl ?_
      exact mx_J.ret (sn_130 10) (fun _ _ => rfl) (hP (-2) (by omega))
theorem ct_130_1_n {l : Launch} {D : va_G} {b0 : Nat} {ad : Nat → Nat} {Hb : Heap} {tau : Nat → Int64} {d n s : Nat} {S : Nat → xS} {Z : xZ} {h : mx_H} (hx : XH n s S Z h) (hG : GI n S Z) {x0 x1 : Int} (p0 : (-2147483648) ≤ x0 ∧ x0 ≤ (-1)) (p1 : (-2147483648) ≤ x1 ∧ x1 ≤ 2147483647) : ∃ z : Int, mx_Ca (tB l D b0 ad Hb tau) (d + 2) 130 [.ref 1, xI x0, xI x1] h (some (xI z), h) ∧ ((-2) ≤ z ∧ z ≤ (-2)) := by
  obtain ⟨r, hca, z, e, hp⟩ := Jmt (B := tB l D b0 ad Hb tau) (M := mt_130) (mi := 130) (as := [.ref 1, xI x0, xI x1]) (d := d + 1) (ls := [some (.ref 1), some (xI x0), some (xI x1), none, none]) rfl rfl rfl rfl rfl rfl (cw_130_1_n (l := l) (D := D) (b0 := b0) (ad := ad) (Hb := Hb) (tau := tau) (d := d) (Post := fun r => ∃ z : Int, r = (some (xI z), h) ∧ ((-2) ≤ z ∧ z ≤ (-2))) hx hG p0 p1 (fun z hz => ⟨z, rfl, hz⟩))
  subst e; exact ⟨z, hca, hp⟩
set_option maxRecDepth 100000 in
theorem cw_130_1_p {l : Launch} {D : va_G} {b0 : Nat} {ad : Nat → Nat} {Hb : Heap} {tau : Nat → Int64} {d n s : Nat} {S : Nat → xS} {Z : xZ} {h : mx_H} {Post : mx_R → Prop} (hx : XH n s S Z h) (hG : GI n S Z) {x0 x1 : Int} (p0 : 4 ≤ x0 ∧ x0 ≤ 2147483647) (p1 : (-2147483648) ≤ x1 ∧ x1 ≤ 2147483647) (hP : ∀ z : Int, (-2) ≤ z ∧ z ≤ (-2) → Post (some (xI z), h)) : mx_J (tB l D b0 ad Hb tau) mt_130 (d + 1) 0 [some (.ref 1), some (xI x0), some (xI x1), none, none] [] h Post := by
    have a1 : 1 < n := lt83 hG.1 rfl
    have s1 : S 1 = .inl (11, [2, 0, 0, 0, 2, 2, 2, 2, 2, 2, 2, 2, 2, 2, 2, 2, 2]) := hG.2.1 1 rfl
    refine mx_J.step (sn_130 0) (fun _ _ => rfl) ?_
    refine mx_J.step (sn_130 1) (fun _ _ => rfl) ?_
    obtain ⟨z1, hc1, b1⟩ := ct_144_1_p (d := d + 0) (l := l) (D := D) (b0 := b0) (ad := ad) (Hb := Hb) (tau := tau) hx hG (show 4 ≤ x0 ∧ x0 ≤ 2147483647 by omega)
    refine Jcv hx (show mx_Sn _ _ 2 (mx_callv 144 2 11 5) from sn_130 2) a1 s1 hc1 rfl rfl rfl ?_
    refine Jif_eq (show mx_Sn _ _ 5 (mx_if_eq 11 8) from sn_130 5) (by omega) (fun q2 => ?_) (fun q2 => ?_)
    · skip
      exfalso; omega
    · skip
      refine JcI (z := (-2)) (show mx_Sn _ _ 8 (mx_const (.int (-2)) 10) from sn_130 8) rfl ?_
      exact mx_J.ret (sn_130 10) (fun _ _ => rfl) (hP (-2) (by omega))
theorem ct_130_1_p {l : Launch} {D : va_G} {b0 : Nat} {ad : Nat → Nat} {Hb : Heap} {tau : Nat → Int64} {d n s : Nat} {S : Nat → xS} {Z : xZ} {h : mx_H} (hx : XH n s S Z h) (hG : GI n S Z) {x0 x1 : Int} (p0 : 4 ≤ x0 ∧ x0 ≤ 2147483647) (p1 : (-2147483648) ≤ x1 ∧ x1 ≤ 2147483647) : ∃ z : Int, mx_Ca (tB l D b0 ad Hb tau) (d + 2) 130 [.ref 1, xI x0, xI x1] h (some (xI z), h) ∧ ((-2) ≤ z ∧ z ≤ (-2)) := by
  obtain ⟨r, hca, z, e, hp⟩ := Jmt (B := tB l D b0 ad Hb tau) (M := mt_130) (mi := 130) (as := [.ref 1, xI x0, xI x1]) (d := d + 1) (ls := [some (.ref 1), some (xI x0), some (xI x1), none, none]) rfl rfl rfl rfl rfl rfl (cw_130_1_p (l := l) (D := D) (b0 := b0) (ad := ad) (Hb := Hb) (tau := tau) (d := d) (Post := fun r => ∃ z : Int, r = (some (xI z), h) ∧ ((-2) ≤ z ∧ z ≤ (-2))) hx hG p0 p1 (fun z hz => ⟨z, rfl, hz⟩))
  subst e; exact ⟨z, hca, hp⟩
theorem ct_130_1 {l : Launch} {D : va_G} {b0 : Nat} {ad : Nat → Nat} {Hb : Heap} {tau : Nat → Int64} {d n s : Nat} {S : Nat → xS} {Z : xZ} {h : mx_H} (hx : XH n s S Z h) (hG : GI n S Z) {x0 x1 : Int} (p0 : (-2147483648) ≤ x0 ∧ x0 ≤ 2147483647) (p1 : (-2147483648) ≤ x1 ∧ x1 ≤ 2147483647) : ∃ (z : Int) (Z' : xZ) (h' : mx_H), mx_Ca (tB l D b0 ad Hb tau) (d + 3) 130 [.ref 1, xI x0, xI x1] h (some (xI z), h') ∧ XH n s S Z' h' ∧ GI n S Z' ∧ fr' [(45, (-1)), (47, (-1)), (49, (-1)), (51, (-1))] Z Z' ∧ ((-6) ≤ z ∧ z ≤ 18) := by
  have hc : x0 = 0 ∨ x0 = 1 ∨ x0 = 2 ∨ x0 = 3 ∨ ((-2147483648) ≤ x0 ∧ x0 ≤ (-1)) ∨ (4 ≤ x0 ∧ x0 ≤ 2147483647) := by omega
  rcases hc with hc | hc | hc | hc | hc | hc
  · subst hc
    obtain ⟨z, Z', h', hca, q1, q2, q3, b⟩ := ct_130_1_i0 (d := d + 0) (l := l) (D := D) (b0 := b0) (ad := ad) (Hb := Hb) (tau := tau) hx hG p1
    exact ⟨z, Z', h', hca, q1, q2, fr_tr (M1 := []) fr_rf q3 rfl rfl, by omega⟩
  · subst hc
    obtain ⟨z, Z', h', hca, q1, q2, q3, b⟩ := ct_130_1_i1 (d := d + 0) (l := l) (D := D) (b0 := b0) (ad := ad) (Hb := Hb) (tau := tau) hx hG p1
    exact ⟨z, Z', h', hca, q1, q2, fr_tr (M1 := []) fr_rf q3 rfl rfl, by omega⟩
  · subst hc
    obtain ⟨z, Z', h', hca, q1, q2, q3, b⟩ := ct_130_1_i2 (d := d + 0) (l := l) (D := D) (b0 := b0) (ad := ad) (Hb := Hb) (tau := tau) hx hG p1
    exact ⟨z, Z', h', hca, q1, q2, fr_tr (M1 := []) fr_rf q3 rfl rfl, by omega⟩
  · subst hc
    obtain ⟨z, Z', h', hca, q1, q2, q3, b⟩ := ct_130_1_i3 (d := d + 0) (l := l) (D := D) (b0 := b0) (ad := ad) (Hb := Hb) (tau := tau) hx hG p1
    exact ⟨z, Z', h', hca, q1, q2, fr_tr (M1 := []) fr_rf q3 rfl rfl, by omega⟩
  · skip
    obtain ⟨z, hca, b⟩ := ct_130_1_n (d := d + 1) (l := l) (D := D) (b0 := b0) (ad := ad) (Hb := Hb) (tau := tau) hx hG hc p1
    exact ⟨z, Z, h, hca, hx, hG, fr_rf, by omega⟩
  · skip
    obtain ⟨z, hca, b⟩ := ct_130_1_p (d := d + 1) (l := l) (D := D) (b0 := b0) (ad := ad) (Hb := Hb) (tau := tau) hx hG hc p1
    exact ⟨z, Z, h, hca, hx, hG, fr_rf, by omega⟩
