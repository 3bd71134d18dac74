set_option maxRecDepth 100000 in
theorem cw_2_7 {l : Launch} {D : va_G} {b0 : Nat} {ad : Nat → Nat} {Hb : Heap} {tau : Nat → Int64} {d n s : Nat} {S : Nat → xS} {Z : xZ} {h : mx_H} {Post : mx_R → Prop} (hx : XH n s S Z h) (hG : GI n S Z) {x0 x1 : Int} (p0 : 0 ≤ x0 ∧ x0 ≤ 18) (p1 : 0 ≤ x1 ∧ x1 ≤ 18) (hP : ∀ z : Int, 0 ≤ z ∧ z ≤ 385 ∧ z = wy (x0 * 19 + x1) → Post (some (xI z), h)) : mx_J (tB l D b0 ad Hb tau) mt_2 (d + 0) 0 [some (.ref 7), some (xI x0), some (xI x1)] [] h Post := by
    have a7 : 7 < n := lt83 hG.1 rfl
    have s7 : S 7 = .inl (0, [2, 2, 2, 2, 0, 0]) := hG.2.1 7 rfl
    have a8 : 8 < n := lt83 hG.1 rfl
    have s8 : S 8 = .inr (.int, 361, 0) := hG.2.1 8 rfl
    refine mx_J.step (sn_2 0) (fun _ _ => rfl) ?_
    refine JgetR (g := 0) (b := 8) hx (show mx_Sn _ _ 1 (mx_getf 0 0 4) from sn_2 1) a7 s7 rfl rfl (hG.prr 7 0 rfl) ?_
    refine mx_J.step (sn_2 4) (fun _ _ => rfl) ?_
    refine JcI (z := 19) (show mx_Sn _ _ 5 (mx_const (.int 19) 7) from sn_2 5) rfl ?_
    refine Jimul (show mx_Sn _ _ 7 (mx_imul 8) from sn_2 7) ?_
    refine mx_J.step (sn_2 8) (fun _ _ => rfl) ?_
    refine Jiadd (show mx_Sn _ _ 9 (mx_iadd 10) from sn_2 9) ?_
    have b1 : 0 ≤ Z 8 ((x0 * 19) + x1) ∧ Z 8 ((x0 * 19) + x1) ≤ 385 := hG.pr 8 ((x0 * 19) + x1)
    have b2 : (0 ≤ ((x0 * 19) + x1) → ((x0 * 19) + x1) ≤ 360 → (Z 8 ((x0 * 19) + x1)) = wy ((x0 * 19) + x1)) := GI_ex hG 8 ((x0 * 19) + x1)
    refine JialdI (z := Z 8 ((x0 * 19) + x1)) hx (show mx_Sn _ _ 10 (mx_iald 11) from sn_2 10) a8 s8 (by omega) rfl ?_
    exact mx_J.ret (sn_2 11) (fun _ _ => rfl) (hP (Z 8 ((x0 * 19) + x1)) (by omega))
theorem ct_2_7 {l : Launch} {D : va_G} {b0 : Nat} {ad : Nat → Nat} {Hb : Heap} {tau : Nat → Int64} {d n s : Nat} {S : Nat → xS} {Z : xZ} {h : mx_H} (hx : XH n s S Z h) (hG : GI n S Z) {x0 x1 : Int} (p0 : 0 ≤ x0 ∧ x0 ≤ 18) (p1 : 0 ≤ x1 ∧ x1 ≤ 18) : ∃ z : Int, mx_Ca (tB l D b0 ad Hb tau) (d + 1) 2 [.ref 7, xI x0, xI x1] h (some (xI z), h) ∧ (0 ≤ z ∧ z ≤ 385 ∧ z = wy (x0 * 19 + x1)) := by
  obtain ⟨r, hca, z, e, hp⟩ := Jmt (B := tB l D b0 ad Hb tau) (M := mt_2) (mi := 2) (as := [.ref 7, xI x0, xI x1]) (d := d + 0) (ls := [some (.ref 7), some (xI x0), some (xI x1)]) rfl rfl rfl rfl rfl rfl (cw_2_7 (l := l) (D := D) (b0 := b0) (ad := ad) (Hb := Hb) (tau := tau) (d := d) (Post := fun r => ∃ z : Int, r = (some (xI z), h) ∧ (0 ≤ z ∧ z ≤ 385 ∧ z = wy (x0 * 19 + x1))) hx hG p0 p1 (fun z hz => ⟨z, rfl, hz⟩))
  subst e; exact ⟨z, hca, hp⟩
set_option maxRecDepth 100000 in
theorem cw_5_7 {l : Launch} {D : va_G} {b0 : Nat} {ad : Nat → Nat} {Hb : Heap} {tau : Nat → Int64} {d n s : Nat} {S : Nat → xS} {Z : xZ} {h : mx_H} {Post : mx_R → Prop} (hx : XH n s S Z h) (hG : GI n S Z) {x0 : Int} (p0 : (-2147483648) ≤ x0 ∧ x0 ≤ 2147483647) (hP : ∀ z : Int, 0 ≤ z ∧ z ≤ 18 ∧ (z = 0 ∨ (0 ≤ x0 ∧ x0 < Z 7 5 ∧ x0 ≤ 384 ∧ z = Z 10 x0)) → Post (some (xI z), h)) : mx_J (tB l D b0 ad Hb tau) mt_5 (d + 0) 0 [some (.ref 7), some (xI x0)] [] h Post := by
    have a7 : 7 < n := lt83 hG.1 rfl
    have s7 : S 7 = .inl (0, [2, 2, 2, 2, 0, 0]) := hG.2.1 7 rfl
    have a10 : 10 < n := lt83 hG.1 rfl
    have s10 : S 10 = .inr (.byte, 385, 0) := hG.2.1 10 rfl
    refine mx_J.step (sn_5 0) (fun _ _ => rfl) ?_
    have c22 : ∀ (k1_0 : Int), 0 ≤ k1_0 ∧ k1_0 ≤ 18 → (k1_0 = 0 ∨ (0 ≤ x0 ∧ x0 < Z 7 5 ∧ x0 ≤ 384 ∧ k1_0 = Z 10 x0)) → mx_J (tB l D b0 ad Hb tau) mt_5 (d + 0) 22 [some (.ref 7), some (xI x0)] [xI k1_0] h Post := by
      intro k1_0 f1_0 f1_1
      exact mx_J.ret (sn_5 22) (fun _ _ => rfl) (hP k1_0 (by omega))
    have c12 : mx_J (tB l D b0 ad Hb tau) mt_5 (d + 0) 12 [some (.ref 7), some (xI x0)] [] h Post := by
      refine JcI (z := 0) (show mx_Sn _ _ 12 (mx_const (.int 0) 13) from sn_5 12) rfl ?_
      refine mx_J.step (sn_5 13) (fun _ _ => rfl) ?_
      exact c22 0 (by omega) (by omega)
    refine Jif_lt (show mx_Sn _ _ 1 (mx_if_lt 12 4) from sn_5 1) (by omega) (fun q3 => ?_) (fun q3 => ?_)
    · skip
      exact c12 
    · skip
      refine mx_J.step (sn_5 4) (fun _ _ => rfl) ?_
      refine mx_J.step (sn_5 5) (fun _ _ => rfl) ?_
      have b4 : 0 ≤ Z 7 5 ∧ Z 7 5 ≤ 385 := hG.pr 7 5
      refine JgetI (g := 5) (z := Z 7 5) hx (show mx_Sn _ _ 6 (mx_getf 0 5 9) from sn_5 6) a7 s7 rfl rfl rfl ?_
      refine Jicmp_lt (show mx_Sn _ _ 9 (mx_icmp_lt 16 12) from sn_5 9) (by omega) (by omega) (fun q5 => ?_) (fun q5 => ?_)
      · skip
        refine mx_J.step (sn_5 16) (fun _ _ => rfl) ?_
        refine JgetR (g := 2) (b := 10) hx (show mx_Sn _ _ 17 (mx_getf 0 2 20) from sn_5 17) a7 s7 rfl rfl (hG.prr 7 2 rfl) ?_
        refine mx_J.step (sn_5 20) (fun _ _ => rfl) ?_
        have b6 : 0 ≤ Z 10 x0 ∧ Z 10 x0 ≤ 18 := hG.pr 10 x0
        refine JbaldI (z := Z 10 x0) hx (show mx_Sn _ _ 21 (mx_bald 22) from sn_5 21) a10 s10 (by omega) rfl ?_
        exact c22 (Z 10 x0) (by omega) (by omega)
      · skip
        exact c12 
theorem ct_5_7 {l : Launch} {D : va_G} {b0 : Nat} {ad : Nat → Nat} {Hb : Heap} {tau : Nat → Int64} {d n s : Nat} {S : Nat → xS} {Z : xZ} {h : mx_H} (hx : XH n s S Z h) (hG : GI n S Z) {x0 : Int} (p0 : (-2147483648) ≤ x0 ∧ x0 ≤ 2147483647) : ∃ z : Int, mx_Ca (tB l D b0 ad Hb tau) (d + 1) 5 [.ref 7, xI x0] h (some (xI z), h) ∧ (0 ≤ z ∧ z ≤ 18 ∧ (z = 0 ∨ (0 ≤ x0 ∧ x0 < Z 7 5 ∧ x0 ≤ 384 ∧ z = Z 10 x0))) := by
  obtain ⟨r, hca, z, e, hp⟩ := Jmt (B := tB l D b0 ad Hb tau) (M := mt_5) (mi := 5) (as := [.ref 7, xI x0]) (d := d + 0) (ls := [some (.ref 7), some (xI x0)]) rfl rfl rfl rfl rfl rfl (cw_5_7 (l := l) (D := D) (b0 := b0) (ad := ad) (Hb := Hb) (tau := tau) (d := d) (Post := fun r => ∃ z : Int, r = (some (xI z), h) ∧ (0 ≤ z ∧ z ≤ 18 ∧ (z = 0 ∨ (0 ≤ x0 ∧ x0 < Z 7 5 ∧ x0 ≤ 384 ∧ z = Z 10 x0)))) hx hG p0 (fun z hz => ⟨z, rfl, hz⟩))
  subst e; exact ⟨z, hca, hp⟩
set_option maxRecDepth 100000 in
theorem cw_6_7 {l : Launch} {D : va_G} {b0 : Nat} {ad : Nat → Nat} {Hb : Heap} {tau : Nat → Int64} {d n s : Nat} {S : Nat → xS} {Z : xZ} {h : mx_H} {Post : mx_R → Prop} (hx : XH n s S Z h) (hG : GI n S Z) {x0 x1 : Int} (p0 : (-2147483648) ≤ x0 ∧ x0 ≤ 2147483647) (p1 : (-2147483648) ≤ x1 ∧ x1 ≤ 2147483647) (hP : ∀ z : Int, 0 ≤ z ∧ z ≤ 18 ∧ (z = 0 ∨ z = Z 9 (x0 * 18 + x1)) → Post (some (xI z), h)) : mx_J (tB l D b0 ad Hb tau) mt_6 (d + 1) 0 [some (.ref 7), some (xI x0), some (xI x1)] [] h Post := by
    have a7 : 7 < n := lt83 hG.1 rfl
    have s7 : S 7 = .inl (0, [2, 2, 2, 2, 0, 0]) := hG.2.1 7 rfl
    have a9 : 9 < n := lt83 hG.1 rfl
    have s9 : S 9 = .inr (.byte, 6930, 0) := hG.2.1 9 rfl
    refine mx_J.step (sn_6 0) (fun _ _ => rfl) ?_
    have c28 : ∀ (k1_0 : Int), 0 ≤ k1_0 ∧ k1_0 ≤ 18 → (k1_0 = 0 ∨ k1_0 = Z 9 (x0 * 18 + x1)) → mx_J (tB l D b0 ad Hb tau) mt_6 (d + 1) 28 [some (.ref 7), some (xI x0), some (xI x1)] [xI k1_0] h Post := by
      intro k1_0 f1_0 f1_1
      exact mx_J.ret (sn_6 28) (fun _ _ => rfl) (hP k1_0 (by omega))
    have c13 : mx_J (tB l D b0 ad Hb tau) mt_6 (d + 1) 13 [some (.ref 7), some (xI x0), some (xI x1)] [] h Post := by
      refine JcI (z := 0) (show mx_Sn _ _ 13 (mx_const (.int 0) 14) from sn_6 13) rfl ?_
      refine mx_J.step (sn_6 14) (fun _ _ => rfl) ?_
      exact c28 0 (by omega) (by omega)
    refine Jif_lt (show mx_Sn _ _ 1 (mx_if_lt 13 4) from sn_6 1) (by omega) (fun q3 => ?_) (fun q3 => ?_)
    · skip
      exact c13 
    · skip
      refine mx_J.step (sn_6 4) (fun _ _ => rfl) ?_
      refine mx_J.step (sn_6 5) (fun _ _ => rfl) ?_
      refine mx_J.step (sn_6 6) (fun _ _ => rfl) ?_
      obtain ⟨z4, hc4, b4⟩ := ct_5_7 (d := d + 0) (l := l) (D := D) (b0 := b0) (ad := ad) (Hb := Hb) (tau := tau) hx hG (show (-2147483648) ≤ x0 ∧ x0 ≤ 2147483647 by omega)
      refine Jcv hx (show mx_Sn _ _ 7 (mx_callv 5 2 0 10) from sn_6 7) a7 s7 hc4 rfl rfl rfl ?_
      refine Jicmp_lt (show mx_Sn _ _ 10 (mx_icmp_lt 17 13) from sn_6 10) (by omega) (by omega) (fun q5 => ?_) (fun q5 => ?_)
      · skip
        refine mx_J.step (sn_6 17) (fun _ _ => rfl) ?_
        refine JgetR (g := 1) (b := 9) hx (show mx_Sn _ _ 18 (mx_getf 0 1 21) from sn_6 18) a7 s7 rfl rfl (hG.prr 7 1 rfl) ?_
        refine mx_J.step (sn_6 21) (fun _ _ => rfl) ?_
        refine JcI (z := 18) (show mx_Sn _ _ 22 (mx_const (.int 18) 24) from sn_6 22) rfl ?_
        refine Jimul (show mx_Sn _ _ 24 (mx_imul 25) from sn_6 24) ?_
        refine mx_J.step (sn_6 25) (fun _ _ => rfl) ?_
        refine Jiadd (show mx_Sn _ _ 26 (mx_iadd 27) from sn_6 26) ?_
        have b6 : 0 ≤ Z 9 ((x0 * 18) + x1) ∧ Z 9 ((x0 * 18) + x1) ≤ 18 := hG.pr 9 ((x0 * 18) + x1)
        refine JbaldI (z := Z 9 ((x0 * 18) + x1)) hx (show mx_Sn _ _ 27 (mx_bald 28) from sn_6 27) a9 s9 (by omega) rfl ?_
        exact c28 (Z 9 ((x0 * 18) + x1)) (by omega) (by omega)
      · skip
        exact c13 
theorem ct_6_7 {l : Launch} {D : va_G} {b0 : Nat} {ad : Nat → Nat} {Hb : Heap} {tau : Nat → Int64} {d n s : Nat} {S : Nat → xS} {Z : xZ} {h : mx_H} (hx : XH n s S Z h) (hG : GI n S Z) {x0 x1 : Int} (p0 : (-2147483648) ≤ x0 ∧ x0 ≤ 2147483647) (p1 : (-2147483648) ≤ x1 ∧ x1 ≤ 2147483647) : ∃ z : Int, mx_Ca (tB l D b0 ad Hb tau) (d + 2) 6 [.ref 7, xI x0, xI x1] h (some (xI z), h) ∧ (0 ≤ z ∧ z ≤ 18 ∧ (z = 0 ∨ z = Z 9 (x0 * 18 + x1))) := by
  obtain ⟨r, hca, z, e, hp⟩ := Jmt (B := tB l D b0 ad Hb tau) (M := mt_6) (mi := 6) (as := [.ref 7, xI x0, xI x1]) (d := d + 1) (ls := [some (.ref 7), some (xI x0), some (xI x1)]) rfl rfl rfl rfl rfl rfl (cw_6_7 (l := l) (D := D) (b0 := b0) (ad := ad) (Hb := Hb) (tau := tau) (d := d) (Post := fun r => ∃ z : Int, r = (some (xI z), h) ∧ (0 ≤ z ∧ z ≤ 18 ∧ (z = 0 ∨ z = Z 9 (x0 * 18 + x1)))) hx hG p0 p1 (fun z hz => ⟨z, rfl, hz⟩))
  subst e; exact ⟨z, hca, hp⟩
set_option maxRecDepth 100000 in
theorem cw_7_7 {l : Launch} {D : va_G} {b0 : Nat} {ad : Nat → Nat} {Hb : Heap} {tau : Nat → Int64} {d n s : Nat} {S : Nat → xS} {Z : xZ} {h : mx_H} {Post : mx_R → Prop} (hx : XH n s S Z h) (hG : GI n S Z) {x0 x1 : Int} (p0 : (-2147483648) ≤ x0 ∧ x0 ≤ 2147483647) (p1 : (-2147483648) ≤ x1 ∧ x1 ≤ 2147483647) (hP : ∀ z : Int, (-1) ≤ z ∧ z ≤ 17 → Post (some (xI z), h)) : mx_J (tB l D b0 ad Hb tau) mt_7 (d + 1) 0 [some (.ref 7), some (xI x0), some (xI x1), none, none] [] h Post := by
    have a7 : 7 < n := lt83 hG.1 rfl
    have s7 : S 7 = .inl (0, [2, 2, 2, 2, 0, 0]) := hG.2.1 7 rfl
    have a9 : 9 < n := lt83 hG.1 rfl
    have s9 : S 9 = .inr (.byte, 6930, 0) := hG.2.1 9 rfl
    refine mx_J.step (sn_7 0) (fun _ _ => rfl) ?_
    refine mx_J.step (sn_7 1) (fun _ _ => rfl) ?_
    obtain ⟨z1, hc1, b1⟩ := ct_5_7 (d := d + 0) (l := l) (D := D) (b0 := b0) (ad := ad) (Hb := Hb) (tau := tau) hx hG (show (-2147483648) ≤ x0 ∧ x0 ≤ 2147483647 by omega)
    refine Jcv hx (show mx_Sn _ _ 2 (mx_callv 5 2 0 5) from sn_7 2) a7 s7 hc1 rfl rfl rfl ?_
    refine mx_J.step (ls2 := [some (.ref 7), some (xI x0), some (xI x1), some (xI z1), none]) (sn_7 5) (fun _ _ => rfl) ?_
    refine JcI (z := 0) (show mx_Sn _ _ 6 (mx_const (.int 0) 7) from sn_7 6) rfl ?_
    refine mx_J.step (ls2 := [some (.ref 7), some (xI x0), some (xI x1), some (xI z1), some (xI 0)]) (sn_7 7) (fun _ _ => rfl) ?_
    have c9 : ∀ (m2 : Nat) (w2_4 : Int), 18 - w2_4 < (m2 : Int) → 0 ≤ w2_4 ∧ w2_4 ≤ 18 → mx_J (tB l D b0 ad Hb tau) mt_7 (d + 1) 9 [some (.ref 7), some (xI x0), some (xI x1), some (xI z1), some (xI w2_4)] [] h Post := by
      intro m2
      induction m2 with
      | zero => intro w2_4 q2 f2_0; exact absurd q2 (by omega)
      | succ m2 ih2 =>
        intro w2_4 q2 f2_0
        refine mx_J.step (sn_7 9) (fun _ _ => rfl) ?_
        refine mx_J.step (sn_7 11) (fun _ _ => rfl) ?_
        refine Jicmp_ge (show mx_Sn _ _ 12 (mx_icmp_ge 40 15) from sn_7 12) (by omega) (by omega) (fun q3 => ?_) (fun q3 => ?_)
        · skip
          refine JcI (z := (-1)) (show mx_Sn _ _ 40 (mx_const (.int (-1)) 41) from sn_7 40) rfl ?_
          exact mx_J.ret (sn_7 41) (fun _ _ => rfl) (hP (-1) (by omega))
        · skip
          refine mx_J.step (sn_7 15) (fun _ _ => rfl) ?_
          refine JgetR (g := 1) (b := 9) hx (show mx_Sn _ _ 16 (mx_getf 0 1 19) from sn_7 16) a7 s7 rfl rfl (hG.prr 7 1 rfl) ?_
          refine mx_J.step (sn_7 19) (fun _ _ => rfl) ?_
          refine JcI (z := 18) (show mx_Sn _ _ 20 (mx_const (.int 18) 22) from sn_7 20) rfl ?_
          refine Jimul (show mx_Sn _ _ 22 (mx_imul 23) from sn_7 22) ?_
          refine mx_J.step (sn_7 23) (fun _ _ => rfl) ?_
          refine Jiadd (show mx_Sn _ _ 25 (mx_iadd 26) from sn_7 25) ?_
          have b4 : 0 ≤ Z 9 ((x0 * 18) + w2_4) ∧ Z 9 ((x0 * 18) + w2_4) ≤ 18 := hG.pr 9 ((x0 * 18) + w2_4)
          refine JbaldI (z := Z 9 ((x0 * 18) + w2_4)) hx (show mx_Sn _ _ 26 (mx_bald 27) from sn_7 26) a9 s9 (by omega) rfl ?_
          refine mx_J.step (sn_7 27) (fun _ _ => rfl) ?_
          refine Jicmp_ne (show mx_Sn _ _ 28 (mx_icmp_ne 34 31) from sn_7 28) (by omega) (by omega) (fun q5 => ?_) (fun q5 => ?_)
          · skip
            refine Jiinc (z := w2_4) (cz := 1) (ls2 := [some (.ref 7), some (xI x0), some (xI x1), some (xI z1), some (xI (w2_4 + 1))]) (show mx_Sn _ _ 34 (mx_iinc 4 1 37) from sn_7 34) rfl rfl rfl rfl ?_
            refine mx_J.step (sn_7 37) (fun _ _ => rfl) ?_
            exact ih2 (w2_4 + 1) (by omega) (by omega)
          · skip
            refine mx_J.step (sn_7 31) (fun _ _ => rfl) ?_
            exact mx_J.ret (sn_7 33) (fun _ _ => rfl) (hP w2_4 (by omega))
    exact c9 (Int.toNat (18 - 0) + 1) 0 (by omega) (by omega)
theorem ct_7_7 {l : Launch} {D : va_G} {b0 : Nat} {ad : Nat → Nat} {Hb : Heap} {tau : Nat → Int64} {d n s : Nat} {S : Nat → xS} {Z : xZ} {h : mx_H} (hx : XH n s S Z h) (hG : GI n S Z) {x0 x1 : Int} (p0 : (-2147483648) ≤ x0 ∧ x0 ≤ 2147483647) (p1 : (-2147483648) ≤ x1 ∧ x1 ≤ 2147483647) : ∃ z : Int, mx_Ca (tB l D b0 ad Hb tau) (d + 2) 7 [.ref 7, xI x0, xI x1] h (some (xI z), h) ∧ ((-1) ≤ z ∧ z ≤ 17) := by
  obtain ⟨r, hca, z, e, hp⟩ := Jmt (B := tB l D b0 ad Hb tau) (M := mt_7) (mi := 7) (as := [.ref 7, xI x0, xI x1]) (d := d + 1) (ls := [some (.ref 7), some (xI x0), some (xI x1), none, none]) rfl rfl rfl rfl rfl rfl (cw_7_7 (l := l) (D := D) (b0 := b0) (ad := ad) (Hb := Hb) (tau := tau) (d := d) (Post := fun r => ∃ z : Int, r = (some (xI z), h) ∧ ((-1) ≤ z ∧ z ≤ 17)) hx hG p0 p1 (fun z hz => ⟨z, rfl, hz⟩))
  subst e; exact ⟨z, hca, hp⟩
set_option maxRecDepth 100000 in
theorem cw_10_7 {l : Launch} {D : va_G} {b0 : Nat} {ad : Nat → Nat} {Hb : Heap} {tau : Nat → Int64} {d n s : Nat} {S : Nat → xS} {Z : xZ} {h : mx_H} {Post : mx_R → Prop} (hx : XH n s S Z h) (hG : GI n S Z) {x0 x1 : Int} (p0 : (-2147483648) ≤ x0 ∧ x0 ≤ 2147483647) (p1 : (-2147483648) ≤ x1 ∧ x1 ≤ 2147483647) (hP : ∀ z : Int, 0 ≤ z ∧ z ≤ 1 → Post (some (xI z), h)) : mx_J (tB l D b0 ad Hb tau) mt_10 (d + 2) 0 [some (.ref 7), some (xI x0), some (xI x1), none, none] [] h Post := by
    have a7 : 7 < n := lt83 hG.1 rfl
    have s7 : S 7 = .inl (0, [2, 2, 2, 2, 0, 0]) := hG.2.1 7 rfl
    refine JcI (z := 0) (show mx_Sn _ _ 0 (mx_const (.int 0) 1) from sn_10 0) rfl ?_
    refine mx_J.step (ls2 := [some (.ref 7), some (xI x0), some (xI x1), some (xI 0), none]) (sn_10 1) (fun _ _ => rfl) ?_
    refine JcI (z := 0) (show mx_Sn _ _ 2 (mx_const (.int 0) 3) from sn_10 2) rfl ?_
    refine mx_J.step (ls2 := [some (.ref 7), some (xI x0), some (xI x1), some (xI 0), some (xI 0)]) (sn_10 3) (fun _ _ => rfl) ?_
    have c5 : ∀ (m1 : Nat) (w1_3 : Int) (w1_4 : Int), 18 - w1_4 < (m1 : Int) → 0 ≤ w1_3 ∧ w1_3 ≤ 2147483647 → 0 ≤ w1_4 ∧ w1_4 ≤ 18 → mx_J (tB l D b0 ad Hb tau) mt_10 (d + 2) 5 [some (.ref 7), some (xI x0), some (xI x1), some (xI w1_3), some (xI w1_4)] [] h Post := by
      intro m1
      induction m1 with
      | zero => intro w1_3 w1_4 q1 f1_0 f1_1; exact absurd q1 (by omega)
      | succ m1 ih1 =>
        intro w1_3 w1_4 q1 f1_0 f1_1
        refine mx_J.step (sn_10 5) (fun _ _ => rfl) ?_
        refine JcI (z := 18) (show mx_Sn _ _ 7 (mx_const (.int 18) 9) from sn_10 7) rfl ?_
        refine Jicmp_ge (show mx_Sn _ _ 9 (mx_icmp_ge 42 12) from sn_10 9) (by omega) (by omega) (fun q2 => ?_) (fun q2 => ?_)
        · skip
          refine JcI (z := 1) (show mx_Sn _ _ 42 (mx_const (.int 1) 43) from sn_10 42) rfl ?_
          exact mx_J.ret (show mx_Sn _ _ 43 (mx_zret) from sn_10 43) (fun _ _ => zr_ok (by omega)) (hP 1 (by omega))
        · skip
          refine mx_J.step (sn_10 12) (fun _ _ => rfl) ?_
          refine mx_J.step (sn_10 13) (fun _ _ => rfl) ?_
          refine mx_J.step (sn_10 14) (fun _ _ => rfl) ?_
          refine mx_J.step (sn_10 15) (fun _ _ => rfl) ?_
          obtain ⟨z3, hc3, b3⟩ := ct_6_7 (d := d + 0) (l := l) (D := D) (b0 := b0) (ad := ad) (Hb := Hb) (tau := tau) hx hG (show (-2147483648) ≤ x1 ∧ x1 ≤ 2147483647 by omega) (show (-2147483648) ≤ w1_4 ∧ w1_4 ≤ 2147483647 by omega)
          refine Jcv hx (show mx_Sn _ _ 17 (mx_callv 6 3 0 20) from sn_10 17) a7 s7 hc3 rfl rfl rfl ?_
          refine mx_J.step (sn_10 20) (fun _ _ => rfl) ?_
          refine mx_J.step (sn_10 21) (fun _ _ => rfl) ?_
          refine mx_J.step (sn_10 22) (fun _ _ => rfl) ?_
          obtain ⟨z4, hc4, b4⟩ := ct_6_7 (d := d + 0) (l := l) (D := D) (b0 := b0) (ad := ad) (Hb := Hb) (tau := tau) hx hG (show (-2147483648) ≤ x0 ∧ x0 ≤ 2147483647 by omega) (show (-2147483648) ≤ w1_4 ∧ w1_4 ≤ 2147483647 by omega)
          refine Jcv hx (show mx_Sn _ _ 24 (mx_callv 6 3 0 27) from sn_10 24) a7 s7 hc4 rfl rfl rfl ?_
          refine Jisub (show mx_Sn _ _ 27 (mx_isub 28) from sn_10 27) ?_
          refine JiaddN (show mx_Sn _ _ 28 (mx_iadd 29) from sn_10 28) (fun y5 hy5 hq5 => ?_)
          refine mx_J.step (ls2 := [some (.ref 7), some (xI x0), some (xI x1), some (xI y5), some (xI w1_4)]) (sn_10 29) (fun _ _ => rfl) ?_
          refine mx_J.step (sn_10 30) (fun _ _ => rfl) ?_
          refine Jif_ge (show mx_Sn _ _ 31 (mx_if_ge 36 34) from sn_10 31) (by omega) (fun q6 => ?_) (fun q6 => ?_)
          · skip
            refine Jiinc (z := w1_4) (cz := 1) (ls2 := [some (.ref 7), some (xI x0), some (xI x1), some (xI y5), some (xI (w1_4 + 1))]) (show mx_Sn _ _ 36 (mx_iinc 4 1 39) from sn_10 36) rfl rfl rfl rfl ?_
            refine mx_J.step (sn_10 39) (fun _ _ => rfl) ?_
            exact ih1 y5 (w1_4 + 1) (by omega) (by omega) (by omega)
          · skip
            refine JcI (z := 0) (show mx_Sn _ _ 34 (mx_const (.int 0) 35) from sn_10 34) rfl ?_
            exact mx_J.ret (show mx_Sn _ _ 35 (mx_zret) from sn_10 35) (fun _ _ => zr_ok (by omega)) (hP 0 (by omega))
    exact c5 (Int.toNat (18 - 0) + 1) 0 0 (by omega) (by omega) (by omega)
theorem ct_10_7 {l : Launch} {D : va_G} {b0 : Nat} {ad : Nat → Nat} {Hb : Heap} {tau : Nat → Int64} {d n s : Nat} {S : Nat → xS} {Z : xZ} {h : mx_H} (hx : XH n s S Z h) (hG : GI n S Z) {x0 x1 : Int} (p0 : (-2147483648) ≤ x0 ∧ x0 ≤ 2147483647) (p1 : (-2147483648) ≤ x1 ∧ x1 ≤ 2147483647) : ∃ z : Int, mx_Ca (tB l D b0 ad Hb tau) (d + 3) 10 [.ref 7, xI x0, xI x1] h (some (xI z), h) ∧ (0 ≤ z ∧ z ≤ 1) := by
  obtain ⟨r, hca, z, e, hp⟩ := Jmt (B := tB l D b0 ad Hb tau) (M := mt_10) (mi := 10) (as := [.ref 7, xI x0, xI x1]) (d := d + 2) (ls := [some (.ref 7), some (xI x0), some (xI x1), none, none]) rfl rfl rfl rfl rfl rfl (cw_10_7 (l := l) (D := D) (b0 := b0) (ad := ad) (Hb := Hb) (tau := tau) (d := d) (Post := fun r => ∃ z : Int, r = (some (xI z), h) ∧ (0 ≤ z ∧ z ≤ 1)) hx hG p0 p1 (fun z hz => ⟨z, rfl, hz⟩))
  subst e; exact ⟨z, hca, hp⟩
set_option maxRecDepth 100000 in
theorem cw_66_ {l : Launch} {D : va_G} {b0 : Nat} {ad : Nat → Nat} {Hb : Heap} {tau : Nat → Int64} {d n s : Nat} {S : Nat → xS} {Z : xZ} {h : mx_H} {Post : mx_R → Prop} (hx : XH n s S Z h) (hG : GI n S Z) {x0 x1 : Int} (p0 : (-2147483648) ≤ x0 ∧ x0 ≤ 2147483647) (p1 : (-2147483648) ≤ x1 ∧ x1 ≤ 2147483647) (hP : ∀ z : Int, 0 ≤ z ∧ z ≤ 1 → Post (some (xI z), h)) : mx_J (tB l D b0 ad Hb tau) mt_66 (d + 0) 0 [some (xI x0), some (xI x1)] [] h Post := by
    refine mx_J.step (sn_66 0) (fun _ _ => rfl) ?_
    have c14 : ∀ (k1_0 : Int), 0 ≤ k1_0 ∧ k1_0 ≤ 1 → mx_J (tB l D b0 ad Hb tau) mt_66 (d + 0) 14 [some (xI x0), some (xI x1)] [xI k1_0] h Post := by
      intro k1_0 f1_0
      exact mx_J.ret (show mx_Sn _ _ 14 (mx_zret) from sn_66 14) (fun _ _ => zr_ok (by omega)) (hP k1_0 (by omega))
    have c13 : mx_J (tB l D b0 ad Hb tau) mt_66 (d + 0) 13 [some (xI x0), some (xI x1)] [] h Post := by
      refine JcI (z := 0) (show mx_Sn _ _ 13 (mx_const (.int 0) 14) from sn_66 13) rfl ?_
      exact c14 0 (by omega)
    refine Jif_lt (show mx_Sn _ _ 1 (mx_if_lt 13 4) from sn_66 1) (by omega) (fun q3 => ?_) (fun q3 => ?_)
    · skip
      exact c13 
    · skip
      refine mx_J.step (sn_66 4) (fun _ _ => rfl) ?_
      refine mx_J.step (sn_66 5) (fun _ _ => rfl) ?_
      refine Jicmp_ge (show mx_Sn _ _ 6 (mx_icmp_ge 13 9) from sn_66 6) (by omega) (by omega) (fun q4 => ?_) (fun q4 => ?_)
      · skip
        exact c13 
      · skip
        refine JcI (z := 1) (show mx_Sn _ _ 9 (mx_const (.int 1) 10) from sn_66 9) rfl ?_
        refine mx_J.step (sn_66 10) (fun _ _ => rfl) ?_
        exact c14 1 (by omega)
theorem ct_66_ {l : Launch} {D : va_G} {b0 : Nat} {ad : Nat → Nat} {Hb : Heap} {tau : Nat → Int64} {d n s : Nat} {S : Nat → xS} {Z : xZ} {h : mx_H} (hx : XH n s S Z h) (hG : GI n S Z) {x0 x1 : Int} (p0 : (-2147483648) ≤ x0 ∧ x0 ≤ 2147483647) (p1 : (-2147483648) ≤ x1 ∧ x1 ≤ 2147483647) : ∃ z : Int, mx_Ca (tB l D b0 ad Hb tau) (d + 1) 66 [xI x0, xI x1] h (some (xI z), h) ∧ (0 ≤ z ∧ z ≤ 1) := by
  obtain ⟨r, hca, z, e, hp⟩ := Jmt (B := tB l D b0 ad Hb tau) (M := mt_66) (mi := 66) (as := [xI x0, xI x1]) (d := d + 0) (ls := [some (xI x0), some (xI x1)]) rfl rfl rfl rfl rfl rfl (cw_66_ (l := l) (D := D) (b0 := b0) (ad := ad) (Hb := Hb) (tau := tau) (d := d) (Post := fun r => ∃ z : Int, r = (some (xI z), h) ∧ (0 ≤ z ∧ z ≤ 1)) hx hG p0 p1 (fun z hz => ⟨z, rfl, hz⟩))
  subst e; exact ⟨z, hca, hp⟩
set_option maxRecDepth 100000 in
theorem cw_144_1_n {l : Launch} {D : va_G} {b0 : Nat} {ad : Nat → Nat} {Hb : Heap} {tau : Nat → Int64} {d n s : Nat} {S : Nat → xS} {Z : xZ} {h : mx_H} {Post : mx_R → Prop} (hx : XH n s S Z h) (hG : GI n S Z) {x0 : Int} (p0 : (-2147483648) ≤ x0 ∧ x0 ≤ (-1)) (hP : ∀ z : Int, 1 ≤ z ∧ z ≤ 1 → Post (some (xI z), h)) : mx_J (tB l D b0 ad Hb tau) mt_144 (d + 0) 0 [some (.ref 1), some (xI x0)] [] h Post := by
    refine mx_J.step (sn_144 0) (fun _ _ => rfl) ?_
    refine Jif_lt (show mx_Sn _ _ 1 (mx_if_lt 9 4) from sn_144 1) (by omega) (fun q1 => ?_) (fun q1 => ?_)
    · skip
      refine JcI (z := 1) (show mx_Sn _ _ 9 (mx_const (.int 1) 10) from sn_144 9) rfl ?_
      refine mx_J.step (sn_144 10) (fun _ _ => rfl) ?_
      exact mx_J.ret (show mx_Sn _ _ 14 (mx_zret) from sn_144 14) (fun _ _ => zr_ok (by omega)) (hP 1 (by omega))
    · skip
      exfalso; omega
theorem ct_144_1_n {l : Launch} {D : va_G} {b0 : Nat} {ad : Nat → Nat} {Hb : Heap} {tau : Nat → Int64} {d n s : Nat} {S : Nat → xS} {Z : xZ} {h : mx_H} (hx : XH n s S Z h) (hG : GI n S Z) {x0 : Int} (p0 : (-2147483648) ≤ x0 ∧ x0 ≤ (-1)) : ∃ z : Int, mx_Ca (tB l D b0 ad Hb tau) (d + 1) 144 [.ref 1, xI x0] h (some (xI z), h) ∧ (1 ≤ z ∧ z ≤ 1) := by
  obtain ⟨r, hca, z, e, hp⟩ := Jmt (B := tB l D b0 ad Hb tau) (M := mt_144) (mi := 144) (as := [.ref 1, xI x0]) (d := d + 0) (ls := [some (.ref 1), some (xI x0)]) rfl rfl rfl rfl rfl rfl (cw_144_1_n (l := l) (D := D) (b0 := b0) (ad := ad) (Hb := Hb) (tau := tau) (d := d) (Post := fun r => ∃ z : Int, r = (some (xI z), h) ∧ (1 ≤ z ∧ z ≤ 1)) hx hG p0 (fun z hz => ⟨z, rfl, hz⟩))
  subst e; exact ⟨z, hca, hp⟩
set_option maxRecDepth 100000 in
theorem cw_144_1_p {l : Launch} {D : va_G} {b0 : Nat} {ad : Nat → Nat} {Hb : Heap} {tau : Nat → Int64} {d n s : Nat} {S : Nat → xS} {Z : xZ} {h : mx_H} {Post : mx_R → Prop} (hx : XH n s S Z h) (hG : GI n S Z) {x0 : Int} (p0 : 4 ≤ x0 ∧ x0 ≤ 2147483647) (hP : ∀ z : Int, 1 ≤ z ∧ z ≤ 1 → Post (some (xI z), h)) : mx_J (tB l D b0 ad Hb tau) mt_144 (d + 0) 0 [some (.ref 1), some (xI x0)] [] h Post := by
    refine mx_J.step (sn_144 0) (fun _ _ => rfl) ?_
    have c9 : mx_J (tB l D b0 ad Hb tau) mt_144 (d + 0) 9 [some (.ref 1), some (xI x0)] [] h Post := by
      refine JcI (z := 1) (show mx_Sn _ _ 9 (mx_const (.int 1) 10) from sn_144 9) rfl ?_
      refine mx_J.step (sn_144 10) (fun _ _ => rfl) ?_
      exact mx_J.ret (show mx_Sn _ _ 14 (mx_zret) from sn_144 14) (fun _ _ => zr_ok (by omega)) (hP 1 (by omega))
    refine Jif_lt (show mx_Sn _ _ 1 (mx_if_lt 9 4) from sn_144 1) (by omega) (fun q2 => ?_) (fun q2 => ?_)
    · skip
      exact c9 
    · skip
      refine mx_J.step (sn_144 4) (fun _ _ => rfl) ?_
      refine JcI (z := 4) (show mx_Sn _ _ 5 (mx_const (.int 4) 6) from sn_144 5) rfl ?_
      refine Jicmp_lt (show mx_Sn _ _ 6 (mx_icmp_lt 13 9) from sn_144 6) (by omega) (by omega) (fun q3 => ?_) (fun q3 => ?_)
      · skip
        exfalso; omega
      · skip
        exact c9 
theorem ct_144_1_p {l : Launch} {D : va_G} {b0 : Nat} {ad : Nat → Nat} {Hb : Heap} {tau : Nat → Int64} {d n s : Nat} {S : Nat → xS} {Z : xZ} {h : mx_H} (hx : XH n s S Z h) (hG : GI n S Z) {x0 : Int} (p0 : 4 ≤ x0 ∧ x0 ≤ 2147483647) : ∃ z : Int, mx_Ca (tB l D b0 ad Hb tau) (d + 1) 144 [.ref 1, xI x0] h (some (xI z), h) ∧ (1 ≤ z ∧ z ≤ 1) := by
  obtain ⟨r, hca, z, e, hp⟩ := Jmt (B := tB l D b0 ad Hb tau) (M := mt_144) (mi := 144) (as := [.ref 1, xI x0]) (d := d + 0) (ls := [some (.ref 1), some (xI x0)]) rfl rfl rfl rfl rfl rfl (cw_144_1_p (l := l) (D := D) (b0 := b0) (ad := ad) (Hb := Hb) (tau := tau) (d := d) (Post := fun r => ∃ z : Int, r = (some (xI z), h) ∧ (1 ≤ z ∧ z ≤ 1)) hx hG p0 (fun z hz => ⟨z, rfl, hz⟩))
  subst e; exact ⟨z, hca, hp⟩
set_option maxRecDepth 100000 in
theorem cw_144_1_y {l : Launch} {D : va_G} {b0 : Nat} {ad : Nat → Nat} {Hb : Heap} {tau : Nat → Int64} {d n s : Nat} {S : Nat → xS} {Z : xZ} {h : mx_H} {Post : mx_R → Prop} (hx : XH n s S Z h) (hG : GI n S Z) {x0 : Int} (p0 : 0 ≤ x0 ∧ x0 ≤ 3) (hP : ∀ z : Int, 0 ≤ z ∧ z ≤ 0 → Post (some (xI z), h)) : mx_J (tB l D b0 ad Hb tau) mt_144 (d + 0) 0 [some (.ref 1), some (xI x0)] [] h Post := by
    refine mx_J.step (sn_144 0) (fun _ _ => rfl) ?_
    refine Jif_lt (show mx_Sn _ _ 1 (mx_if_lt 9 4) from sn_144 1) (by omega) (fun q1 => ?_) (fun q1 => ?_)
    · skip
      exfalso; omega
    · skip
      refine mx_J.step (sn_144 4) (fun _ _ => rfl) ?_
      refine JcI (z := 4) (show mx_Sn _ _ 5 (mx_const (.int 4) 6) from sn_144 5) rfl ?_
      refine Jicmp_lt (show mx_Sn _ _ 6 (mx_icmp_lt 13 9) from sn_144 6) (by omega) (by omega) (fun q2 => ?_) (fun q2 => ?_)
      · skip
        refine JcI (z := 0) (show mx_Sn _ _ 13 (mx_const (.int 0) 14) from sn_144 13) rfl ?_
        exact mx_J.ret (show mx_Sn _ _ 14 (mx_zret) from sn_144 14) (fun _ _ => zr_ok (by omega)) (hP 0 (by omega))
      · skip
        exfalso; omega
theorem ct_144_1_y {l : Launch} {D : va_G} {b0 : Nat} {ad : Nat → Nat} {Hb : Heap} {tau : Nat → Int64} {d n s : Nat} {S : Nat → xS} {Z : xZ} {h : mx_H} (hx : XH n s S Z h) (hG : GI n S Z) {x0 : Int} (p0 : 0 ≤ x0 ∧ x0 ≤ 3) : ∃ z : Int, mx_Ca (tB l D b0 ad Hb tau) (d + 1) 144 [.ref 1, xI x0] h (some (xI z), h) ∧ (0 ≤ z ∧ z ≤ 0) := by
  obtain ⟨r, hca, z, e, hp⟩ := Jmt (B := tB l D b0 ad Hb tau) (M := mt_144) (mi := 144) (as := [.ref 1, xI x0]) (d := d + 0) (ls := [some (.ref 1), some (xI x0)]) rfl rfl rfl rfl rfl rfl (cw_144_1_y (l := l) (D := D) (b0 := b0) (ad := ad) (Hb := Hb) (tau := tau) (d := d) (Post := fun r => ∃ z : Int, r = (some (xI z), h) ∧ (0 ≤ z ∧ z ≤ 0)) hx hG p0 (fun z hz => ⟨z, rfl, hz⟩))
  subst e; exact ⟨z, hca, hp⟩
set_option maxRecDepth 100000 in
theorem cw_85_44 {l : Launch} {D : va_G} {b0 : Nat} {ad : Nat → Nat} {Hb : Heap} {tau : Nat → Int64} {d n s : Nat} {S : Nat → xS} {Z : xZ} {h : mx_H} {Post : mx_R → Prop} (hx : XH n s S Z h) (hG : GI n S Z) {x0 : Int} (p0 : (-2147483648) ≤ x0 ∧ x0 ≤ 2147483647) (hP : ∀ z : Int, (-9223372036854775808) ≤ z ∧ z ≤ 9223372036854775807 → Post (some (xL z), h)) : mx_J (tB l D b0 ad Hb tau) mt_85 (d + 0) 0 [some (.ref 44), some (xI x0)] [] h Post := by
    have a44 : 44 < n := lt83 hG.1 rfl
    have s44 : S 44 = .inl (10, [2, 0, 0, 0]) := hG.2.1 44 rfl
    have a45 : 45 < n := lt83 hG.1 rfl
    have s45 : S 45 = .inr (.long, 40, 1) := hG.2.1 45 rfl
    refine mx_J.step (sn_85 0) (fun _ _ => rfl) ?_
    have c20 : ∀ (k1_0 : Int), (-9223372036854775808) ≤ k1_0 ∧ k1_0 ≤ 9223372036854775807 → mx_J (tB l D b0 ad Hb tau) mt_85 (d + 0) 20 [some (.ref 44), some (xI x0)] [xL k1_0] h Post := by
      intro k1_0 f1_0
      exact mx_J.ret (sn_85 20) (fun _ _ => rfl) (hP k1_0 (by omega))
    have c10 : mx_J (tB l D b0 ad Hb tau) mt_85 (d + 0) 10 [some (.ref 44), some (xI x0)] [] h Post := by
      refine JcL (z := 0) (show mx_Sn _ _ 10 (mx_const (.long 0) 11) from sn_85 10) rfl ?_
      refine mx_J.step (sn_85 11) (fun _ _ => rfl) ?_
      exact c20 0 (by omega)
    refine Jif_lt (show mx_Sn _ _ 1 (mx_if_lt 10 4) from sn_85 1) (by omega) (fun q3 => ?_) (fun q3 => ?_)
    · skip
      exact c10 
    · skip
      refine mx_J.step (sn_85 4) (fun _ _ => rfl) ?_
      refine JcI (z := 40) (show mx_Sn _ _ 5 (mx_const (.int 40) 7) from sn_85 5) rfl ?_
      refine Jicmp_lt (show mx_Sn _ _ 7 (mx_icmp_lt 14 10) from sn_85 7) (by omega) (by omega) (fun q4 => ?_) (fun q4 => ?_)
      · skip
        refine mx_J.step (sn_85 14) (fun _ _ => rfl) ?_
        refine JgetR (g := 0) (b := 45) hx (show mx_Sn _ _ 15 (mx_getf 10 0 18) from sn_85 15) a44 s44 rfl rfl (hG.prr 44 0 rfl) ?_
        refine mx_J.step (sn_85 18) (fun _ _ => rfl) ?_
        have b5 : (-9223372036854775808) ≤ Z 45 x0 ∧ Z 45 x0 ≤ 9223372036854775807 := hG.pr 45 x0
        refine JlaldL (z := Z 45 x0) hx (show mx_Sn _ _ 19 (mx_lald 20) from sn_85 19) a45 s45 (by omega) rfl ?_
        exact c20 (Z 45 x0) (by omega)
      · skip
        exact c10 
theorem ct_85_44 {l : Launch} {D : va_G} {b0 : Nat} {ad : Nat → Nat} {Hb : Heap} {tau : Nat → Int64} {d n s : Nat} {S : Nat → xS} {Z : xZ} {h : mx_H} (hx : XH n s S Z h) (hG : GI n S Z) {x0 : Int} (p0 : (-2147483648) ≤ x0 ∧ x0 ≤ 2147483647) : ∃ z : Int, mx_Ca (tB l D b0 ad Hb tau) (d + 1) 85 [.ref 44, xI x0] h (some (xL z), h) ∧ ((-9223372036854775808) ≤ z ∧ z ≤ 9223372036854775807) := by
  obtain ⟨r, hca, z, e, hp⟩ := Jmt (B := tB l D b0 ad Hb tau) (M := mt_85) (mi := 85) (as := [.ref 44, xI x0]) (d := d + 0) (ls := [some (.ref 44), some (xI x0)]) rfl rfl rfl rfl rfl rfl (cw_85_44 (l := l) (D := D) (b0 := b0) (ad := ad) (Hb := Hb) (tau := tau) (d := d) (Post := fun r => ∃ z : Int, r = (some (xL z), h) ∧ ((-9223372036854775808) ≤ z ∧ z ≤ 9223372036854775807)) hx hG p0 (fun z hz => ⟨z, rfl, hz⟩))
  subst e; exact ⟨z, hca, hp⟩
set_option maxRecDepth 100000 in
theorem cw_86_44 {l : Launch} {D : va_G} {b0 : Nat} {ad : Nat → Nat} {Hb : Heap} {tau : Nat → Int64} {d n s : Nat} {S : Nat → xS} {Z : xZ} {h : mx_H} {Post : mx_R → Prop} (hx : XH n s S Z h) (hG : GI n S Z) {x0 x1 : Int} (p0 : (-9223372036854775808) ≤ x0 ∧ x0 ≤ 9223372036854775807) (p1 : (-9223372036854775808) ≤ x1 ∧ x1 ≤ 9223372036854775807) (hP : ∀ z : Int, 0 ≤ z ∧ z ≤ 1 → Post (some (xI z), h)) : mx_J (tB l D b0 ad Hb tau) mt_86 (d + 0) 0 [some (.ref 44), some (xL x0), none, some (xL x1), none, none] [] h Post := by
    have a44 : 44 < n := lt83 hG.1 rfl
    have s44 : S 44 = .inl (10, [2, 0, 0, 0]) := hG.2.1 44 rfl
    have a45 : 45 < n := lt83 hG.1 rfl
    have s45 : S 45 = .inr (.long, 40, 1) := hG.2.1 45 rfl
    refine JcI (z := 0) (show mx_Sn _ _ 0 (mx_const (.int 0) 1) from sn_86 0) rfl ?_
    refine mx_J.step (ls2 := [some (.ref 44), some (xL x0), none, some (xL x1), none, some (xI 0)]) (sn_86 1) (fun _ _ => rfl) ?_
    have c3 : ∀ (m1 : Nat) (w1_5 : Int), 40 - w1_5 < (m1 : Int) → 0 ≤ w1_5 ∧ w1_5 ≤ 40 → mx_J (tB l D b0 ad Hb tau) mt_86 (d + 0) 3 [some (.ref 44), some (xL x0), none, some (xL x1), none, some (xI w1_5)] [] h Post := by
      intro m1
      induction m1 with
      | zero => intro w1_5 q1 f1_0; exact absurd q1 (by omega)
      | succ m1 ih1 =>
        intro w1_5 q1 f1_0
        refine mx_J.step (sn_86 3) (fun _ _ => rfl) ?_
        refine mx_J.step (sn_86 5) (fun _ _ => rfl) ?_
        have b2 : 0 ≤ Z 44 2 ∧ Z 44 2 ≤ 40 := hG.pr 44 2
        refine JgetI (g := 2) (z := Z 44 2) hx (show mx_Sn _ _ 6 (mx_getf 10 2 9) from sn_86 6) a44 s44 rfl rfl rfl ?_
        refine Jicmp_ge (show mx_Sn _ _ 9 (mx_icmp_ge 44 12) from sn_86 9) (by omega) (by omega) (fun q3 => ?_) (fun q3 => ?_)
        · skip
          refine JcI (z := 1) (show mx_Sn _ _ 44 (mx_const (.int 1) 45) from sn_86 44) rfl ?_
          exact mx_J.ret (show mx_Sn _ _ 45 (mx_zret) from sn_86 45) (fun _ _ => zr_ok (by omega)) (hP 1 (by omega))
        · skip
          refine mx_J.step (sn_86 12) (fun _ _ => rfl) ?_
          refine JgetR (g := 0) (b := 45) hx (show mx_Sn _ _ 13 (mx_getf 10 0 16) from sn_86 13) a44 s44 rfl rfl (hG.prr 44 0 rfl) ?_
          refine mx_J.step (sn_86 16) (fun _ _ => rfl) ?_
          have b4 : (-9223372036854775808) ≤ Z 45 w1_5 ∧ Z 45 w1_5 ≤ 9223372036854775807 := hG.pr 45 w1_5
          refine JlaldL (z := Z 45 w1_5) hx (show mx_Sn _ _ 18 (mx_lald 19) from sn_86 18) a45 s45 (by omega) rfl ?_
          refine mx_J.step (sn_86 19) (fun _ _ => rfl) ?_
          have c36 : mx_J (tB l D b0 ad Hb tau) mt_86 (d + 0) 36 [some (.ref 44), some (xL x0), none, some (xL x1), none, some (xI w1_5)] [] h Post := by
            refine JcI (z := 0) (show mx_Sn _ _ 36 (mx_const (.int 0) 37) from sn_86 36) rfl ?_
            exact mx_J.ret (show mx_Sn _ _ 37 (mx_zret) from sn_86 37) (fun _ _ => zr_ok (by omega)) (hP 0 (by omega))
          refine Jlif_lt (show mx_Sn _ _ 20 (mx_lif_lt 36 24) from sn_86 20) (by omega) (by omega) (fun q6 => ?_) (fun q6 => ?_)
          · skip
            exact c36 
          · skip
            refine mx_J.step (sn_86 24) (fun _ _ => rfl) ?_
            refine JgetR (g := 0) (b := 45) hx (show mx_Sn _ _ 25 (mx_getf 10 0 28) from sn_86 25) a44 s44 rfl rfl (hG.prr 44 0 rfl) ?_
            refine mx_J.step (sn_86 28) (fun _ _ => rfl) ?_
            have b7 : (-9223372036854775808) ≤ Z 45 w1_5 ∧ Z 45 w1_5 ≤ 9223372036854775807 := hG.pr 45 w1_5
            refine JlaldL (z := Z 45 w1_5) hx (show mx_Sn _ _ 30 (mx_lald 31) from sn_86 30) a45 s45 (by omega) rfl ?_
            refine mx_J.step (sn_86 31) (fun _ _ => rfl) ?_
            refine Jlif_le (show mx_Sn _ _ 32 (mx_lif_le 38 36) from sn_86 32) (by omega) (by omega) (fun q8 => ?_) (fun q8 => ?_)
            · skip
              refine Jiinc (z := w1_5) (cz := 1) (ls2 := [some (.ref 44), some (xL x0), none, some (xL x1), none, some (xI (w1_5 + 1))]) (show mx_Sn _ _ 38 (mx_iinc 5 1 41) from sn_86 38) rfl rfl rfl rfl ?_
              refine mx_J.step (sn_86 41) (fun _ _ => rfl) ?_
              exact ih1 (w1_5 + 1) (by omega) (by omega)
            · skip
              exact c36 
    exact c3 (Int.toNat (40 - 0) + 1) 0 (by omega) (by omega)
theorem ct_86_44 {l : Launch} {D : va_G} {b0 : Nat} {ad : Nat → Nat} {Hb : Heap} {tau : Nat → Int64} {d n s : Nat} {S : Nat → xS} {Z : xZ} {h : mx_H} (hx : XH n s S Z h) (hG : GI n S Z) {x0 x1 : Int} (p0 : (-9223372036854775808) ≤ x0 ∧ x0 ≤ 9223372036854775807) (p1 : (-9223372036854775808) ≤ x1 ∧ x1 ≤ 9223372036854775807) : ∃ z : Int, mx_Ca (tB l D b0 ad Hb tau) (d + 1) 86 [.ref 44, xL x0, xL x1] h (some (xI z), h) ∧ (0 ≤ z ∧ z ≤ 1) := by
  obtain ⟨r, hca, z, e, hp⟩ := Jmt (B := tB l D b0 ad Hb tau) (M := mt_86) (mi := 86) (as := [.ref 44, xL x0, xL x1]) (d := d + 0) (ls := [some (.ref 44), some (xL x0), none, some (xL x1), none, none]) rfl rfl rfl rfl rfl rfl (cw_86_44 (l := l) (D := D) (b0 := b0) (ad := ad) (Hb := Hb) (tau := tau) (d := d) (Post := fun r => ∃ z : Int, r = (some (xI z), h) ∧ (0 ≤ z ∧ z ≤ 1)) hx hG p0 p1 (fun z hz => ⟨z, rfl, hz⟩))
  subst e; exact ⟨z, hca, hp⟩
set_option maxRecDepth 100000 in
theorem cw_87_44 {l : Launch} {D : va_G} {b0 : Nat} {ad : Nat → Nat} {Hb : Heap} {tau : Nat → Int64} {d n s : Nat} {S : Nat → xS} {Z : xZ} {h : mx_H} {Post : mx_R → Prop} (hx : XH n s S Z h) (hG : GI n S Z) {x0 : Int} (p0 : (-9223372036854775808) ≤ x0 ∧ x0 ≤ 9223372036854775807) (hP : ∀ z : Int, 0 ≤ z ∧ z ≤ 1 → Post (some (xI z), h)) : mx_J (tB l D b0 ad Hb tau) mt_87 (d + 0) 0 [some (.ref 44), some (xL x0), none, none] [] h Post := by
    have a44 : 44 < n := lt83 hG.1 rfl
    have s44 : S 44 = .inl (10, [2, 0, 0, 0]) := hG.2.1 44 rfl
    have a45 : 45 < n := lt83 hG.1 rfl
    have s45 : S 45 = .inr (.long, 40, 1) := hG.2.1 45 rfl
    refine JcI (z := 0) (show mx_Sn _ _ 0 (mx_const (.int 0) 1) from sn_87 0) rfl ?_
    refine mx_J.step (ls2 := [some (.ref 44), some (xL x0), none, some (xI 0)]) (sn_87 1) (fun _ _ => rfl) ?_
    have c2 : ∀ (m1 : Nat) (w1_3 : Int), 40 - w1_3 < (m1 : Int) → 0 ≤ w1_3 ∧ w1_3 ≤ 40 → mx_J (tB l D b0 ad Hb tau) mt_87 (d + 0) 2 [some (.ref 44), some (xL x0), none, some (xI w1_3)] [] h Post := by
      intro m1
      induction m1 with
      | zero => intro w1_3 q1 f1_0; exact absurd q1 (by omega)
      | succ m1 ih1 =>
        intro w1_3 q1 f1_0
        refine mx_J.step (sn_87 2) (fun _ _ => rfl) ?_
        refine mx_J.step (sn_87 3) (fun _ _ => rfl) ?_
        have b2 : 0 ≤ Z 44 2 ∧ Z 44 2 ≤ 40 := hG.pr 44 2
        refine JgetI (g := 2) (z := Z 44 2) hx (show mx_Sn _ _ 4 (mx_getf 10 2 7) from sn_87 4) a44 s44 rfl rfl rfl ?_
        refine Jicmp_ge (show mx_Sn _ _ 7 (mx_icmp_ge 29 10) from sn_87 7) (by omega) (by omega) (fun q3 => ?_) (fun q3 => ?_)
        · skip
          refine JcI (z := 0) (show mx_Sn _ _ 29 (mx_const (.int 0) 30) from sn_87 29) rfl ?_
          exact mx_J.ret (show mx_Sn _ _ 30 (mx_zret) from sn_87 30) (fun _ _ => zr_ok (by omega)) (hP 0 (by omega))
        · skip
          refine mx_J.step (sn_87 10) (fun _ _ => rfl) ?_
          refine JgetR (g := 0) (b := 45) hx (show mx_Sn _ _ 11 (mx_getf 10 0 14) from sn_87 11) a44 s44 rfl rfl (hG.prr 44 0 rfl) ?_
          refine mx_J.step (sn_87 14) (fun _ _ => rfl) ?_
          have b4 : (-9223372036854775808) ≤ Z 45 w1_3 ∧ Z 45 w1_3 ≤ 9223372036854775807 := hG.pr 45 w1_3
          refine JlaldL (z := Z 45 w1_3) hx (show mx_Sn _ _ 15 (mx_lald 16) from sn_87 15) a45 s45 (by omega) rfl ?_
          refine mx_J.step (sn_87 16) (fun _ _ => rfl) ?_
          refine Jlif_ne (show mx_Sn _ _ 17 (mx_lif_ne 23 21) from sn_87 17) (by omega) (by omega) (fun q5 => ?_) (fun q5 => ?_)
          · skip
            refine Jiinc (z := w1_3) (cz := 1) (ls2 := [some (.ref 44), some (xL x0), none, some (xI (w1_3 + 1))]) (show mx_Sn _ _ 23 (mx_iinc 3 1 26) from sn_87 23) rfl rfl rfl rfl ?_
            refine mx_J.step (sn_87 26) (fun _ _ => rfl) ?_
            exact ih1 (w1_3 + 1) (by omega) (by omega)
          · skip
            refine JcI (z := 1) (show mx_Sn _ _ 21 (mx_const (.int 1) 22) from sn_87 21) rfl ?_
            exact mx_J.ret (show mx_Sn _ _ 22 (mx_zret) from sn_87 22) (fun _ _ => zr_ok (by omega)) (hP 1 (by omega))
    exact c2 (Int.toNat (40 - 0) + 1) 0 (by omega) (by omega)
theorem ct_87_44 {l : Launch} {D : va_G} {b0 : Nat} {ad : Nat → Nat} {Hb : Heap} {tau : Nat → Int64} {d n s : Nat} {S : Nat → xS} {Z : xZ} {h : mx_H} (hx : XH n s S Z h) (hG : GI n S Z) {x0 : Int} (p0 : (-9223372036854775808) ≤ x0 ∧ x0 ≤ 9223372036854775807) : ∃ z : Int, mx_Ca (tB l D b0 ad Hb tau) (d + 1) 87 [.ref 44, xL x0] h (some (xI z), h) ∧ (0 ≤ z ∧ z ≤ 1) := by
  obtain ⟨r, hca, z, e, hp⟩ := Jmt (B := tB l D b0 ad Hb tau) (M := mt_87) (mi := 87) (as := [.ref 44, xL x0]) (d := d + 0) (ls := [some (.ref 44), some (xL x0), none, none]) rfl rfl rfl rfl rfl rfl (cw_87_44 (l := l) (D := D) (b0 := b0) (ad := ad) (Hb := Hb) (tau := tau) (d := d) (Post := fun r => ∃ z : Int, r = (some (xI z), h) ∧ (0 ≤ z ∧ z ≤ 1)) hx hG p0 (fun z hz => ⟨z, rfl, hz⟩))
  subst e; exact ⟨z, hca, hp⟩
set_option maxRecDepth 100000 in
theorem cw_84_44 {l : Launch} {D : va_G} {b0 : Nat} {ad : Nat → Nat} {Hb : Heap} {tau : Nat → Int64} {d n s : Nat} {S : Nat → xS} {Z : xZ} {h : mx_H} {Post : mx_R → Prop} (hx : XH n s S Z h) (hG : GI n S Z) {x0 x1 : Int} (p0 : (-2147483648) ≤ x0 ∧ x0 ≤ 2147483647) (p1 : (-9223372036854775808) ≤ x1 ∧ x1 ≤ 9223372036854775807) (hP : ∀ (Z' : xZ) (h' : mx_H), XH n s S Z' h' → GI n S Z' → fr' [(45, (-1))] Z Z' → Post (none, h')) : mx_J (tB l D b0 ad Hb tau) mt_84 (d + 0) 0 [some (.ref 44), some (xI x0), some (xL x1), none] [] h Post := by
    have a44 : 44 < n := lt83 hG.1 rfl
    have s44 : S 44 = .inl (10, [2, 0, 0, 0]) := hG.2.1 44 rfl
    have a45 : 45 < n := lt83 hG.1 rfl
    have s45 : S 45 = .inr (.long, 40, 1) := hG.2.1 45 rfl
    refine mx_J.step (sn_84 0) (fun _ _ => rfl) ?_
    have c10 : mx_J (tB l D b0 ad Hb tau) mt_84 (d + 0) 10 [some (.ref 44), some (xI x0), some (xL x1), none] [] h Post := by
      exact mx_J.ret (sn_84 10) (fun _ _ => rfl) (hP Z h hx hG fr_rf)
    refine Jif_lt (show mx_Sn _ _ 1 (mx_if_lt 10 4) from sn_84 1) (by omega) (fun q2 => ?_) (fun q2 => ?_)
    · skip
      exact c10 
    · skip
      refine mx_J.step (sn_84 4) (fun _ _ => rfl) ?_
      refine JcI (z := 40) (show mx_Sn _ _ 5 (mx_const (.int 40) 7) from sn_84 5) rfl ?_
      refine Jicmp_lt (show mx_Sn _ _ 7 (mx_icmp_lt 11 10) from sn_84 7) (by omega) (by omega) (fun q3 => ?_) (fun q3 => ?_)
      · skip
        refine mx_J.step (sn_84 11) (fun _ _ => rfl) ?_
        have b4 : 0 ≤ Z 44 1 ∧ Z 44 1 ≤ 3 := hG.pr 44 1
        refine JgetI (g := 1) (z := Z 44 1) hx (show mx_Sn _ _ 12 (mx_getf 10 1 15) from sn_84 12) a44 s44 rfl rfl rfl ?_
        have c85 : ∀  (Z6 : xZ) (h6 : mx_H), XH n s S Z6 h6 → GI n S Z6 → fr' [(45, (-1))] Z Z6 → mx_J (tB l D b0 ad Hb tau) mt_84 (d + 0) 85 [some (.ref 44), some (xI x0), some (xL x1), none] [] h6 Post := by
          intro Z6 h6 hx6 hG6 hf6
          exact mx_J.ret (sn_84 85) (fun _ _ => rfl) (hP Z6 h6 hx6 hG6 (fr_tr (M := [(45, (-1))]) fr_rf (hf6) (M1 := []) rfl rfl))
        refine Jtsw (z := Z 44 1) (show mx_Sn _ _ 15 (mx_tsw 0 2 [40, 53, 66] 78) from sn_84 15) (by omega) (fun q7 => ?_) (fun q7 => ?_)
        · skip
          refine mx_J.step (sn_84 78) (fun _ _ => rfl) ?_
          refine JgetR (g := 0) (b := 45) hx (show mx_Sn _ _ 79 (mx_getf 10 0 82) from sn_84 79) a44 s44 rfl rfl (hG.prr 44 0 rfl) ?_
          refine mx_J.step (sn_84 82) (fun _ _ => rfl) ?_
          refine mx_J.step (sn_84 83) (fun _ _ => rfl) ?_
          refine JlastL hx (show mx_Sn _ _ 84 (mx_last 1 85) from sn_84 84) a45 s45 rfl (by omega) (fun Z8 h8 hx8 hE8 => ?_)
          have hG8 := GI_up hG hE8 (show (-9223372036854775808) ≤ x1 ∧ x1 ≤ 9223372036854775807 by omega) trivial rfl
          exact c85 Z8 h8 hx8 hG8 (fr_tr (M := [(45, (-1))]) fr_rf (fr_ua hE8) (M1 := []) rfl rfl)
        · skip
          have e7 : Z 44 1 = 0 ∨ Z 44 1 = 1 ∨ Z 44 1 = 2 := by omega
          rcases e7 with e7 | e7 | e7
          · refine ⟨40, by rw [e7]; rfl, ?_⟩
            refine mx_J.step (sn_84 40) (fun _ _ => rfl) ?_
            refine JgetR (g := 0) (b := 45) hx (show mx_Sn _ _ 41 (mx_getf 10 0 44) from sn_84 41) a44 s44 rfl rfl (hG.prr 44 0 rfl) ?_
            refine mx_J.step (sn_84 44) (fun _ _ => rfl) ?_
            refine mx_J.step (sn_84 45) (fun _ _ => rfl) ?_
            refine Jl2i (show mx_Sn _ _ 46 (mx_l2i 47) from sn_84 46) (Jnorm fun y9 hy9 hq9 => ?_)
            refine Ji2bX (show mx_Sn _ _ 47 (mx_i2b 48) from sn_84 47) (fun y10 hy10 => ?_)
            refine Ji2l (show mx_Sn _ _ 48 (mx_i2l 49) from sn_84 48) (by omega) ?_
            refine JlastL hx (show mx_Sn _ _ 49 (mx_last 1 50) from sn_84 49) a45 s45 rfl (by omega) (fun Z11 h11 hx11 hE11 => ?_)
            have hG11 := GI_up hG hE11 (show (-9223372036854775808) ≤ y10 ∧ y10 ≤ 9223372036854775807 by omega) trivial rfl
            refine mx_J.step (sn_84 50) (fun _ _ => rfl) ?_
            exact c85 Z11 h11 hx11 hG11 (fr_tr (M := [(45, (-1))]) fr_rf (fr_ua hE11) (M1 := []) rfl rfl)
          · refine ⟨53, by rw [e7]; rfl, ?_⟩
            refine mx_J.step (sn_84 53) (fun _ _ => rfl) ?_
            refine JgetR (g := 0) (b := 45) hx (show mx_Sn _ _ 54 (mx_getf 10 0 57) from sn_84 54) a44 s44 rfl rfl (hG.prr 44 0 rfl) ?_
            refine mx_J.step (sn_84 57) (fun _ _ => rfl) ?_
            refine mx_J.step (sn_84 58) (fun _ _ => rfl) ?_
            refine Jl2i (show mx_Sn _ _ 59 (mx_l2i 60) from sn_84 59) (Jnorm fun y12 hy12 hq12 => ?_)
            refine Ji2sX (show mx_Sn _ _ 60 (mx_i2s 61) from sn_84 60) (fun y13 hy13 => ?_)
            refine Ji2l (show mx_Sn _ _ 61 (mx_i2l 62) from sn_84 61) (by omega) ?_
            refine JlastL hx (show mx_Sn _ _ 62 (mx_last 1 63) from sn_84 62) a45 s45 rfl (by omega) (fun Z14 h14 hx14 hE14 => ?_)
            have hG14 := GI_up hG hE14 (show (-9223372036854775808) ≤ y13 ∧ y13 ≤ 9223372036854775807 by omega) trivial rfl
            refine mx_J.step (sn_84 63) (fun _ _ => rfl) ?_
            exact c85 Z14 h14 hx14 hG14 (fr_tr (M := [(45, (-1))]) fr_rf (fr_ua hE14) (M1 := []) rfl rfl)
          · refine ⟨66, by rw [e7]; rfl, ?_⟩
            refine mx_J.step (sn_84 66) (fun _ _ => rfl) ?_
            refine JgetR (g := 0) (b := 45) hx (show mx_Sn _ _ 67 (mx_getf 10 0 70) from sn_84 67) a44 s44 rfl rfl (hG.prr 44 0 rfl) ?_
            refine mx_J.step (sn_84 70) (fun _ _ => rfl) ?_
            refine mx_J.step (sn_84 71) (fun _ _ => rfl) ?_
            refine Jl2i (show mx_Sn _ _ 72 (mx_l2i 73) from sn_84 72) (Jnorm fun y15 hy15 hq15 => ?_)
            refine Ji2l (show mx_Sn _ _ 73 (mx_i2l 74) from sn_84 73) (by omega) ?_
            refine JlastL hx (show mx_Sn _ _ 74 (mx_last 1 75) from sn_84 74) a45 s45 rfl (by omega) (fun Z16 h16 hx16 hE16 => ?_)
            have hG16 := GI_up hG hE16 (show (-9223372036854775808) ≤ y15 ∧ y15 ≤ 9223372036854775807 by omega) trivial rfl
            refine mx_J.step (sn_84 75) (fun _ _ => rfl) ?_
            exact c85 Z16 h16 hx16 hG16 (fr_tr (M := [(45, (-1))]) fr_rf (fr_ua hE16) (M1 := []) rfl rfl)
      · skip
        exact c10 
theorem ct_84_44 {l : Launch} {D : va_G} {b0 : Nat} {ad : Nat → Nat} {Hb : Heap} {tau : Nat → Int64} {d n s : Nat} {S : Nat → xS} {Z : xZ} {h : mx_H} (hx : XH n s S Z h) (hG : GI n S Z) {x0 x1 : Int} (p0 : (-2147483648) ≤ x0 ∧ x0 ≤ 2147483647) (p1 : (-9223372036854775808) ≤ x1 ∧ x1 ≤ 9223372036854775807) : ∃ (Z' : xZ) (h' : mx_H), mx_Ca (tB l D b0 ad Hb tau) (d + 1) 84 [.ref 44, xI x0, xL x1] h (none, h') ∧ XH n s S Z' h' ∧ GI n S Z' ∧ fr' [(45, (-1))] Z Z' := by
  obtain ⟨r, hca, Z', h', e, q⟩ := Jmt (B := tB l D b0 ad Hb tau) (M := mt_84) (mi := 84) (as := [.ref 44, xI x0, xL x1]) (d := d + 0) (ls := [some (.ref 44), some (xI x0), some (xL x1), none]) rfl rfl rfl rfl rfl rfl (cw_84_44 (l := l) (D := D) (b0 := b0) (ad := ad) (Hb := Hb) (tau := tau) (d := d) (Post := fun r => ∃ (Z' : xZ) (h' : mx_H), r = (none, h') ∧ XH n s S Z' h' ∧ GI n S Z' ∧ fr' [(45, (-1))] Z Z') hx hG p0 p1 (fun Z' h' q1 q2 q3 => ⟨Z', h', rfl, q1, q2, q3⟩))
  subst e; exact ⟨Z', h', hca, q⟩
set_option maxRecDepth 100000 in
theorem cw_285_45 {l : Launch} {D : va_G} {b0 : Nat} {ad : Nat → Nat} {Hb : Heap} {tau : Nat → Int64} {d n s : Nat} {S : Nat → xS} {Z : xZ} {h : mx_H} {Post : mx_R → Prop} (hx : XH n s S Z h) (hG : GI n S Z) {x0 : Int} (p0 : (-9223372036854775808) ≤ x0 ∧ x0 ≤ 9223372036854775807) (hP : ∀ (Z' : xZ) (h' : mx_H), XH n s S Z' h' → GI n S Z' → fr' [(45, (-1))] Z Z' → Post (none, h')) : mx_J (tB l D b0 ad Hb tau) mt_285 (d + 0) 0 [some (.ref 45), some (xL x0), none, none, none] [] h Post := by
    have a45 : 45 < n := lt83 hG.1 rfl
    have s45 : S 45 = .inr (.long, 40, 1) := hG.2.1 45 rfl
    refine JcI (z := 0) (show mx_Sn _ _ 0 (mx_const (.int 0) 1) from sn_285 0) rfl ?_
    refine mx_J.step (ls2 := [some (.ref 45), some (xL x0), none, some (xI 0), none]) (sn_285 1) (fun _ _ => rfl) ?_
    refine mx_J.step (sn_285 2) (fun _ _ => rfl) ?_
    refine JalenI (z := 40) hx (show mx_Sn _ _ 3 (mx_alen 4) from sn_285 3) a45 s45 (by decide) rfl ?_
    refine mx_J.step (ls2 := [some (.ref 45), some (xL x0), none, some (xI 0), some (xI 40)]) (sn_285 4) (fun _ _ => rfl) ?_
    have c6 : ∀ (m1 : Nat) (w1_3 : Int) (Z2 : xZ) (h2 : mx_H), 40 - w1_3 < (m1 : Int) → 0 ≤ w1_3 ∧ w1_3 ≤ 40 → XH n s S Z2 h2 → GI n S Z2 → fr' [(45, (-1))] Z Z2 → mx_J (tB l D b0 ad Hb tau) mt_285 (d + 0) 6 [some (.ref 45), some (xL x0), none, some (xI w1_3), some (xI 40)] [] h2 Post := by
      intro m1
      induction m1 with
      | zero => intro w1_3 Z2 h2 q1 f1_0 hx2 hG2 hf2; exact absurd q1 (by omega)
      | succ m1 ih1 =>
        intro w1_3 Z2 h2 q1 f1_0 hx2 hG2 hf2
        refine mx_J.step (sn_285 6) (fun _ _ => rfl) ?_
        refine mx_J.step (sn_285 7) (fun _ _ => rfl) ?_
        refine Jicmp_ge (show mx_Sn _ _ 9 (mx_icmp_ge 22 12) from sn_285 9) (by omega) (by omega) (fun q3 => ?_) (fun q3 => ?_)
        · skip
          exact mx_J.ret (sn_285 22) (fun _ _ => rfl) (hP Z2 h2 hx2 hG2 (fr_tr (M := [(45, (-1))]) fr_rf (hf2) (M1 := []) rfl rfl))
        · skip
          refine mx_J.step (sn_285 12) (fun _ _ => rfl) ?_
          refine mx_J.step (sn_285 13) (fun _ _ => rfl) ?_
          refine mx_J.step (sn_285 14) (fun _ _ => rfl) ?_
          refine JlastL hx2 (show mx_Sn _ _ 15 (mx_last 1 16) from sn_285 15) a45 s45 rfl (by omega) (fun Z4 h4 hx4 hE4 => ?_)
          have hG4 := GI_up hG2 hE4 (show (-9223372036854775808) ≤ x0 ∧ x0 ≤ 9223372036854775807 by omega) trivial rfl
          refine Jiinc (z := w1_3) (cz := 1) (ls2 := [some (.ref 45), some (xL x0), none, some (xI (w1_3 + 1)), some (xI 40)]) (show mx_Sn _ _ 16 (mx_iinc 3 1 19) from sn_285 16) rfl rfl rfl rfl ?_
          refine mx_J.step (sn_285 19) (fun _ _ => rfl) ?_
          exact ih1 (w1_3 + 1) Z4 h4 (by omega) (by omega) hx4 hG4 (fr_tr (M := [(45, (-1))]) (fr_tr (M := [(45, (-1))]) fr_rf (hf2) (M1 := []) rfl rfl) (fr_ua hE4) rfl rfl)
    exact c6 (Int.toNat (40 - 0) + 1) 0 Z h (by omega) (by omega) hx hG fr_rf
theorem ct_285_45 {l : Launch} {D : va_G} {b0 : Nat} {ad : Nat → Nat} {Hb : Heap} {tau : Nat → Int64} {d n s : Nat} {S : Nat → xS} {Z : xZ} {h : mx_H} (hx : XH n s S Z h) (hG : GI n S Z) {x0 : Int} (p0 : (-9223372036854775808) ≤ x0 ∧ x0 ≤ 9223372036854775807) : ∃ (Z' : xZ) (h' : mx_H), mx_Ca (tB l D b0 ad Hb tau) (d + 1) 285 [.ref 45, xL x0] h (none, h') ∧ XH n s S Z' h' ∧ GI n S Z' ∧ fr' [(45, (-1))] Z Z' := by
  obtain ⟨r, hca, Z', h', e, q⟩ := Jmt (B := tB l D b0 ad Hb tau) (M := mt_285) (mi := 285) (as := [.ref 45, xL x0]) (d := d + 0) (ls := [some (.ref 45), some (xL x0), none, none, none]) rfl rfl rfl rfl rfl rfl (cw_285_45 (l := l) (D := D) (b0 := b0) (ad := ad) (Hb := Hb) (tau := tau) (d := d) (Post := fun r => ∃ (Z' : xZ) (h' : mx_H), r = (none, h') ∧ XH n s S Z' h' ∧ GI n S Z' ∧ fr' [(45, (-1))] Z Z') hx hG p0 (fun Z' h' q1 q2 q3 => ⟨Z', h', rfl, q1, q2, q3⟩))
  subst e; exact ⟨Z', h', hca, q⟩
set_option maxRecDepth 100000 in
theorem cw_83_44 {l : Launch} {D : va_G} {b0 : Nat} {ad : Nat → Nat} {Hb : Heap} {tau : Nat → Int64} {d n s : Nat} {S : Nat → xS} {Z : xZ} {h : mx_H} {Post : mx_R → Prop} (hx : XH n s S Z h) (hG : GI n S Z) {x0 x1 : Int} (p0 : 0 ≤ x0 ∧ x0 ≤ 3) (p1 : 0 ≤ x1 ∧ x1 ≤ 40) (hP : ∀ (Z' : xZ) (h' : mx_H), XH n s S Z' h' → GI n S Z' → fr' [(44, 1), (44, 2), (44, 3), (45, (-1))] Z Z' → Post (none, h')) : mx_J (tB l D b0 ad Hb tau) mt_83 (d + 1) 0 [some (.ref 44), some (xI x0), some (xI x1)] [] h Post := by
    have a44 : 44 < n := lt83 hG.1 rfl
    have s44 : S 44 = .inl (10, [2, 0, 0, 0]) := hG.2.1 44 rfl
    refine mx_J.step (sn_83 0) (fun _ _ => rfl) ?_
    refine mx_J.step (sn_83 1) (fun _ _ => rfl) ?_
    refine JputI (g := 1) hx (show mx_Sn _ _ 2 (mx_putf 1 10 1 (.int) 5) from sn_83 2) a44 s44 rfl rfl rfl rfl (fun Z1 h1 hx1 hE1 => ?_)
    have hG1 := GI_up hG hE1 (show 0 ≤ x0 ∧ x0 ≤ 3 by omega) trivial rfl
    refine mx_J.step (sn_83 5) (fun _ _ => rfl) ?_
    refine mx_J.step (sn_83 6) (fun _ _ => rfl) ?_
    refine JputI (g := 2) hx1 (show mx_Sn _ _ 7 (mx_putf 1 10 2 (.int) 10) from sn_83 7) a44 s44 rfl rfl rfl rfl (fun Z2 h2 hx2 hE2 => ?_)
    have hG2 := GI_up hG1 hE2 (show 0 ≤ x1 ∧ x1 ≤ 40 by omega) trivial rfl
    refine mx_J.step (sn_83 10) (fun _ _ => rfl) ?_
    refine JcI (z := 0) (show mx_Sn _ _ 11 (mx_const (.int 0) 12) from sn_83 11) rfl ?_
    refine JputI (g := 3) hx2 (show mx_Sn _ _ 12 (mx_putf 1 10 3 (.boolean) 15) from sn_83 12) a44 s44 rfl rfl (fit_z (by omega)) rfl (fun Z3 h3 hx3 hE3 => ?_)
    have hG3 := GI_up hG2 hE3 (show 0 ≤ 0 ∧ 0 ≤ 1 by omega) trivial rfl
    refine mx_J.step (sn_83 15) (fun _ _ => rfl) ?_
    refine JgetR (g := 0) (b := 45) hx3 (show mx_Sn _ _ 16 (mx_getf 10 0 19) from sn_83 16) a44 s44 rfl rfl (hG3.prr 44 0 rfl) ?_
    refine JcL (z := 0) (show mx_Sn _ _ 19 (mx_const (.long 0) 20) from sn_83 19) rfl ?_
    obtain ⟨Z4, h4, hc4, hx4, hG4, hf4⟩ := ct_285_45 (d := d + 0) (l := l) (D := D) (b0 := b0) (ad := ad) (Hb := Hb) (tau := tau) hx3 hG3 (show (-9223372036854775808) ≤ 0 ∧ 0 ≤ 9223372036854775807 by omega)
    refine Jcs0 (show mx_Sn _ _ 20 (mx_calls 285 2 23) from sn_83 20) hc4 rfl rfl rfl ?_
    exact mx_J.ret (sn_83 23) (fun _ _ => rfl) (hP Z4 h4 hx4 hG4 (fr_tr (M := [(44, 1), (44, 2), (44, 3), (45, (-1))]) (fr_tr (M := [(44, 1), (44, 2), (44, 3), (45, (-1))]) (fr_tr (M := [(44, 1), (44, 2), (44, 3), (45, (-1))]) (fr_tr (M := [(44, 1), (44, 2), (44, 3), (45, (-1))]) fr_rf (fr_up hE1) (M1 := []) rfl rfl) (fr_up hE2) rfl rfl) (fr_up hE3) rfl rfl) (hf4) rfl rfl))
theorem ct_83_44 {l : Launch} {D : va_G} {b0 : Nat} {ad : Nat → Nat} {Hb : Heap} {tau : Nat → Int64} {d n s : Nat} {S : Nat → xS} {Z : xZ} {h : mx_H} (hx : XH n s S Z h) (hG : GI n S Z) {x0 x1 : Int} (p0 : 0 ≤ x0 ∧ x0 ≤ 3) (p1 : 0 ≤ x1 ∧ x1 ≤ 40) : ∃ (Z' : xZ) (h' : mx_H), mx_Ca (tB l D b0 ad Hb tau) (d + 2) 83 [.ref 44, xI x0, xI x1] h (none, h') ∧ XH n s S Z' h' ∧ GI n S Z' ∧ fr' [(44, 1), (44, 2), (44, 3), (45, (-1))] Z Z' := by
  obtain ⟨r, hca, Z', h', e, q⟩ := Jmt (B := tB l D b0 ad Hb tau) (M := mt_83) (mi := 83) (as := [.ref 44, xI x0, xI x1]) (d := d + 1) (ls := [some (.ref 44), some (xI x0), some (xI x1)]) rfl rfl rfl rfl rfl rfl (cw_83_44 (l := l) (D := D) (b0 := b0) (ad := ad) (Hb := Hb) (tau := tau) (d := d) (Post := fun r => ∃ (Z' : xZ) (h' : mx_H), r = (none, h') ∧ XH n s S Z' h' ∧ GI n S Z' ∧ fr' [(44, 1), (44, 2), (44, 3), (45, (-1))] Z Z') hx hG p0 p1 (fun Z' h' q1 q2 q3 => ⟨Z', h', rfl, q1, q2, q3⟩))
  subst e; exact ⟨Z', h', hca, q⟩
set_option maxRecDepth 100000 in
theorem cw_85_46 {l : Launch} {D : va_G} {b0 : Nat} {ad : Nat → Nat} {Hb : Heap} {tau : Nat → Int64} {d n s : Nat} {S : Nat → xS} {Z : xZ} {h : mx_H} {Post : mx_R → Prop} (hx : XH n s S Z h) (hG : GI n S Z) {x0 : Int} (p0 : (-2147483648) ≤ x0 ∧ x0 ≤ 2147483647) (hP : ∀ z : Int, (-9223372036854775808) ≤ z ∧ z ≤ 9223372036854775807 → Post (some (xL z), h)) : mx_J (tB l D b0 ad Hb tau) mt_85 (d + 0) 0 [some (.ref 46), some (xI x0)] [] h Post := by
    have a46 : 46 < n := lt83 hG.1 rfl
    have s46 : S 46 = .inl (10, [2, 0, 0, 0]) := hG.2.1 46 rfl
    have a47 : 47 < n := lt83 hG.1 rfl
    have s47 : S 47 = .inr (.long, 40, 1) := hG.2.1 47 rfl
    refine mx_J.step (sn_85 0) (fun _ _ => rfl) ?_
    have c20 : ∀ (k1_0 : Int), (-9223372036854775808) ≤ k1_0 ∧ k1_0 ≤ 9223372036854775807 → mx_J (tB l D b0 ad Hb tau) mt_85 (d + 0) 20 [some (.ref 46), some (xI x0)] [xL k1_0] h Post := by
      intro k1_0 f1_0
      exact mx_J.ret (sn_85 20) (fun _ _ => rfl) (hP k1_0 (by omega))
    have c10 : mx_J (tB l D b0 ad Hb tau) mt_85 (d + 0) 10 [some (.ref 46), some (xI x0)] [] h Post := by
      refine JcL (z := 0) (show mx_Sn _ _ 10 (mx_const (.long 0) 11) from sn_85 10) rfl ?_
      refine mx_J.step (sn_85 11) (fun _ _ => rfl) ?_
      exact c20 0 (by omega)
    refine Jif_lt (show mx_Sn _ _ 1 (mx_if_lt 10 4) from sn_85 1) (by omega) (fun q3 => ?_) (fun q3 => ?_)
    · skip
      exact c10 
    · skip
      refine mx_J.step (sn_85 4) (fun _ _ => rfl) ?_
      refine JcI (z := 40) (show mx_Sn _ _ 5 (mx_const (.int 40) 7) from sn_85 5) rfl ?_
      refine Jicmp_lt (show mx_Sn _ _ 7 (mx_icmp_lt 14 10) from sn_85 7) (by omega) (by omega) (fun q4 => ?_) (fun q4 => ?_)
      · skip
        refine mx_J.step (sn_85 14) (fun _ _ => rfl) ?_
        refine JgetR (g := 0) (b := 47) hx (show mx_Sn _ _ 15 (mx_getf 10 0 18) from sn_85 15) a46 s46 rfl rfl (hG.prr 46 0 rfl) ?_
        refine mx_J.step (sn_85 18) (fun _ _ => rfl) ?_
        have b5 : (-9223372036854775808) ≤ Z 47 x0 ∧ Z 47 x0 ≤ 9223372036854775807 := hG.pr 47 x0
        refine JlaldL (z := Z 47 x0) hx (show mx_Sn _ _ 19 (mx_lald 20) from sn_85 19) a47 s47 (by omega) rfl ?_
        exact c20 (Z 47 x0) (by omega)
      · skip
        exact c10 
theorem ct_85_46 {l : Launch} {D : va_G} {b0 : Nat} {ad : Nat → Nat} {Hb : Heap} {tau : Nat → Int64} {d n s : Nat} {S : Nat → xS} {Z : xZ} {h : mx_H} (hx : XH n s S Z h) (hG : GI n S Z) {x0 : Int} (p0 : (-2147483648) ≤ x0 ∧ x0 ≤ 2147483647) : ∃ z : Int, mx_Ca (tB l D b0 ad Hb tau) (d + 1) 85 [.ref 46, xI x0] h (some (xL z), h) ∧ ((-9223372036854775808) ≤ z ∧ z ≤ 9223372036854775807) := by
  obtain ⟨r, hca, z, e, hp⟩ := Jmt (B := tB l D b0 ad Hb tau) (M := mt_85) (mi := 85) (as := [.ref 46, xI x0]) (d := d + 0) (ls := [some (.ref 46), some (xI x0)]) rfl rfl rfl rfl rfl rfl (cw_85_46 (l := l) (D := D) (b0 := b0) (ad := ad) (Hb := Hb) (tau := tau) (d := d) (Post := fun r => ∃ z : Int, r = (some (xL z), h) ∧ ((-9223372036854775808) ≤ z ∧ z ≤ 9223372036854775807)) hx hG p0 (fun z hz => ⟨z, rfl, hz⟩))
  subst e; exact ⟨z, hca, hp⟩
set_option maxRecDepth 100000 in
theorem cw_86_46 {l : Launch} {D : va_G} {b0 : Nat} {ad : Nat → Nat} {Hb : Heap} {tau : Nat → Int64} {d n s : Nat} {S : Nat → xS} {Z : xZ} {h : mx_H} {Post : mx_R → Prop} (hx : XH n s S Z h) (hG : GI n S Z) {x0 x1 : Int} (p0 : (-9223372036854775808) ≤ x0 ∧ x0 ≤ 9223372036854775807) (p1 : (-9223372036854775808) ≤ x1 ∧ x1 ≤ 9223372036854775807) (hP : ∀ z : Int, 0 ≤ z ∧ z ≤ 1 → Post (some (xI z), h)) : mx_J (tB l D b0 ad Hb tau) mt_86 (d + 0) 0 [some (.ref 46), some (xL x0), none, some (xL x1), none, none] [] h Post := by
    have a46 : 46 < n := lt83 hG.1 rfl
    have s46 : S 46 = .inl (10, [2, 0, 0, 0]) := hG.2.1 46 rfl
    have a47 : 47 < n := lt83 hG.1 rfl
    have s47 : S 47 = .inr (.long, 40, 1) := hG.2.1 47 rfl
    refine JcI (z := 0) (show mx_Sn _ _ 0 (mx_const (.int 0) 1) from sn_86 0) rfl ?_
    refine mx_J.step (ls2 := [some (.ref 46), some (xL x0), none, some (xL x1), none, some (xI 0)]) (sn_86 1) (fun _ _ => rfl) ?_
    have c3 : ∀ (m1 : Nat) (w1_5 : Int), 40 - w1_5 < (m1 : Int) → 0 ≤ w1_5 ∧ w1_5 ≤ 40 → mx_J (tB l D b0 ad Hb tau) mt_86 (d + 0) 3 [some (.ref 46), some (xL x0), none, some (xL x1), none, some (xI w1_5)] [] h Post := by
      intro m1
      induction m1 with
      | zero => intro w1_5 q1 f1_0; exact absurd q1 (by omega)
      | succ m1 ih1 =>
        intro w1_5 q1 f1_0
        refine mx_J.step (sn_86 3) (fun _ _ => rfl) ?_
        refine mx_J.step (sn_86 5) (fun _ _ => rfl) ?_
        have b2 : 0 ≤ Z 46 2 ∧ Z 46 2 ≤ 40 := hG.pr 46 2
        refine JgetI (g := 2) (z := Z 46 2) hx (show mx_Sn _ _ 6 (mx_getf 10 2 9) from sn_86 6) a46 s46 rfl rfl rfl ?_
        refine Jicmp_ge (show mx_Sn _ _ 9 (mx_icmp_ge 44 12) from sn_86 9) (by omega) (by omega) (fun q3 => ?_) (fun q3 => ?_)
        · skip
          refine JcI (z := 1) (show mx_Sn _ _ 44 (mx_const (.int 1) 45) from sn_86 44) rfl ?_
          exact mx_J.ret (show mx_Sn _ _ 45 (mx_zret) from sn_86 45) (fun _ _ => zr_ok (by omega)) (hP 1 (by omega))
        · skip
          refine mx_J.step (sn_86 12) (fun _ _ => rfl) ?_
          refine JgetR (g := 0) (b := 47) hx (show mx_Sn _ _ 13 (mx_getf 10 0 16) from sn_86 13) a46 s46 rfl rfl (hG.prr 46 0 rfl) ?_
          refine mx_J.step (sn_86 16) (fun _ _ => rfl) ?_
          have b4 : (-9223372036854775808) ≤ Z 47 w1_5 ∧ Z 47 w1_5 ≤ 9223372036854775807 := hG.pr 47 w1_5
          refine JlaldL (z := Z 47 w1_5) hx (show mx_Sn _ _ 18 (mx_lald 19) from sn_86 18) a47 s47 (by omega) rfl ?_
          refine mx_J.step (sn_86 19) (fun _ _ => rfl) ?_
          have c36 : mx_J (tB l D b0 ad Hb tau) mt_86 (d + 0) 36 [some (.ref 46), some (xL x0), none, some (xL x1), none, some (xI w1_5)] [] h Post := by
            refine JcI (z := 0) (show mx_Sn _ _ 36 (mx_const (.int 0) 37) from sn_86 36) rfl ?_
            exact mx_J.ret (show mx_Sn _ _ 37 (mx_zret) from sn_86 37) (fun _ _ => zr_ok (by omega)) (hP 0 (by omega))
          refine Jlif_lt (show mx_Sn _ _ 20 (mx_lif_lt 36 24) from sn_86 20) (by omega) (by omega) (fun q6 => ?_) (fun q6 => ?_)
          · skip
            exact c36 
          · skip
            refine mx_J.step (sn_86 24) (fun _ _ => rfl) ?_
            refine JgetR (g := 0) (b := 47) hx (show mx_Sn _ _ 25 (mx_getf 10 0 28) from sn_86 25) a46 s46 rfl rfl (hG.prr 46 0 rfl) ?_
            refine mx_J.step (sn_86 28) (fun _ _ => rfl) ?_
            have b7 : (-9223372036854775808) ≤ Z 47 w1_5 ∧ Z 47 w1_5 ≤ 9223372036854775807 := hG.pr 47 w1_5
            refine JlaldL (z := Z 47 w1_5) hx (show mx_Sn _ _ 30 (mx_lald 31) from sn_86 30) a47 s47 (by omega) rfl ?_
            refine mx_J.step (sn_86 31) (fun _ _ => rfl) ?_
            refine Jlif_le (show mx_Sn _ _ 32 (mx_lif_le 38 36) from sn_86 32) (by omega) (by omega) (fun q8 => ?_) (fun q8 => ?_)
            · skip
              refine Jiinc (z := w1_5) (cz := 1) (ls2 := [some (.ref 46), some (xL x0), none, some (xL x1), none, some (xI (w1_5 + 1))]) (show mx_Sn _ _ 38 (mx_iinc 5 1 41) from sn_86 38) rfl rfl rfl rfl ?_
              refine mx_J.step (sn_86 41) (fun _ _ => rfl) ?_
              exact ih1 (w1_5 + 1) (by omega) (by omega)
            · skip
              exact c36 
    exact c3 (Int.toNat (40 - 0) + 1) 0 (by omega) (by omega)
theorem ct_86_46 {l : Launch} {D : va_G} {b0 : Nat} {ad : Nat → Nat} {Hb : Heap} {tau : Nat → Int64} {d n s : Nat} {S : Nat → xS} {Z : xZ} {h : mx_H} (hx : XH n s S Z h) (hG : GI n S Z) {x0 x1 : Int} (p0 : (-9223372036854775808) ≤ x0 ∧ x0 ≤ 9223372036854775807) (p1 : (-9223372036854775808) ≤ x1 ∧ x1 ≤ 9223372036854775807) : ∃ z : Int, mx_Ca (tB l D b0 ad Hb tau) (d + 1) 86 [.ref 46, xL x0, xL x1] h (some (xI z), h) ∧ (0 ≤ z ∧ z ≤ 1) := by
  obtain ⟨r, hca, z, e, hp⟩ := Jmt (B := tB l D b0 ad Hb tau) (M := mt_86) (mi := 86) (as := [.ref 46, xL x0, xL x1]) (d := d + 0) (ls := [some (.ref 46), some (xL x0), none, some (xL x1), none, none]) rfl rfl rfl rfl rfl rfl (cw_86_46 (l := l) (D := D) (b0 := b0) (ad := ad) (Hb := Hb) (tau := tau) (d := d) (Post := fun r => ∃ z : Int, r = (some (xI z), h) ∧ (0 ≤ z ∧ z ≤ 1)) hx hG p0 p1 (fun z hz => ⟨z, rfl, hz⟩))
  subst e; exact ⟨z, hca, hp⟩
set_option maxRecDepth 100000 in
theorem cw_87_46 {l : Launch} {D : va_G} {b0 : Nat} {ad : Nat → Nat} {Hb : Heap} {tau : Nat → Int64} {d n s : Nat} {S : Nat → xS} {Z : xZ} {h : mx_H} {Post : mx_R → Prop} (hx : XH n s S Z h) (hG : GI n S Z) {x0 : Int} (p0 : (-9223372036854775808) ≤ x0 ∧ x0 ≤ 9223372036854775807) (hP : ∀ z : Int, 0 ≤ z ∧ z ≤ 1 → Post (some (xI z), h)) : mx_J (tB l D b0 ad Hb tau) mt_87 (d + 0) 0 [some (.ref 46), some (xL x0), none, none] [] h Post := by
    have a46 : 46 < n := lt83 hG.1 rfl
    have s46 : S 46 = .inl (10, [2, 0, 0, 0]) := hG.2.1 46 rfl
    have a47 : 47 < n := lt83 hG.1 rfl
    have s47 : S 47 = .inr (.long, 40, 1) := hG.2.1 47 rfl
    refine JcI (z := 0) (show mx_Sn _ _ 0 (mx_const (.int 0) 1) from sn_87 0) rfl ?_
    refine mx_J.step (ls2 := [some (.ref 46), some (xL x0), none, some (xI 0)]) (sn_87 1) (fun _ _ => rfl) ?_
    have c2 : ∀ (m1 : Nat) (w1_3 : Int), 40 - w1_3 < (m1 : Int) → 0 ≤ w1_3 ∧ w1_3 ≤ 40 → mx_J (tB l D b0 ad Hb tau) mt_87 (d + 0) 2 [some (.ref 46), some (xL x0), none, some (xI w1_3)] [] h Post := by
      intro m1
      induction m1 with
      | zero => intro w1_3 q1 f1_0; exact absurd q1 (by omega)
      | succ m1 ih1 =>
        intro w1_3 q1 f1_0
        refine mx_J.step (sn_87 2) (fun _ _ => rfl) ?_
        refine mx_J.step (sn_87 3) (fun _ _ => rfl) ?_
        have b2 : 0 ≤ Z 46 2 ∧ Z 46 2 ≤ 40 := hG.pr 46 2
        refine JgetI (g := 2) (z := Z 46 2) hx (show mx_Sn _ _ 4 (mx_getf 10 2 7) from sn_87 4) a46 s46 rfl rfl rfl ?_
        refine Jicmp_ge (show mx_Sn _ _ 7 (mx_icmp_ge 29 10) from sn_87 7) (by omega) (by omega) (fun q3 => ?_) (fun q3 => ?_)
        · skip
          refine JcI (z := 0) (show mx_Sn _ _ 29 (mx_const (.int 0) 30) from sn_87 29) rfl ?_
          exact mx_J.ret (show mx_Sn _ _ 30 (mx_zret) from sn_87 30) (fun _ _ => zr_ok (by omega)) (hP 0 (by omega))
        · skip
          refine mx_J.step (sn_87 10) (fun _ _ => rfl) ?_
          refine JgetR (g := 0) (b := 47) hx (show mx_Sn _ _ 11 (mx_getf 10 0 14) from sn_87 11) a46 s46 rfl rfl (hG.prr 46 0 rfl) ?_
          refine mx_J.step (sn_87 14) (fun _ _ => rfl) ?_
          have b4 : (-9223372036854775808) ≤ Z 47 w1_3 ∧ Z 47 w1_3 ≤ 9223372036854775807 := hG.pr 47 w1_3
          refine JlaldL (z := Z 47 w1_3) hx (show mx_Sn _ _ 15 (mx_lald 16) from sn_87 15) a47 s47 (by omega) rfl ?_
          refine mx_J.step (sn_87 16) (fun _ _ => rfl) ?_
          refine Jlif_ne (show mx_Sn _ _ 17 (mx_lif_ne 23 21) from sn_87 17) (by omega) (by omega) (fun q5 => ?_) (fun q5 => ?_)
          · skip
            refine Jiinc (z := w1_3) (cz := 1) (ls2 := [some (.ref 46), some (xL x0), none, some (xI (w1_3 + 1))]) (show mx_Sn _ _ 23 (mx_iinc 3 1 26) from sn_87 23) rfl rfl rfl rfl ?_
            refine mx_J.step (sn_87 26) (fun _ _ => rfl) ?_
            exact ih1 (w1_3 + 1) (by omega) (by omega)
          · skip
            refine JcI (z := 1) (show mx_Sn _ _ 21 (mx_const (.int 1) 22) from sn_87 21) rfl ?_
            exact mx_J.ret (show mx_Sn _ _ 22 (mx_zret) from sn_87 22) (fun _ _ => zr_ok (by omega)) (hP 1 (by omega))
    exact c2 (Int.toNat (40 - 0) + 1) 0 (by omega) (by omega)
theorem ct_87_46 {l : Launch} {D : va_G} {b0 : Nat} {ad : Nat → Nat} {Hb : Heap} {tau : Nat → Int64} {d n s : Nat} {S : Nat → xS} {Z : xZ} {h : mx_H} (hx : XH n s S Z h) (hG : GI n S Z) {x0 : Int} (p0 : (-9223372036854775808) ≤ x0 ∧ x0 ≤ 9223372036854775807) : ∃ z : Int, mx_Ca (tB l D b0 ad Hb tau) (d + 1) 87 [.ref 46, xL x0] h (some (xI z), h) ∧ (0 ≤ z ∧ z ≤ 1) := by
  obtain ⟨r, hca, z, e, hp⟩ := Jmt (B := tB l D b0 ad Hb tau) (M := mt_87) (mi := 87) (as := [.ref 46, xL x0]) (d := d + 0) (ls := [some (.ref 46), some (xL x0), none, none]) rfl rfl rfl rfl rfl rfl (cw_87_46 (l := l) (D := D) (b0 := b0) (ad := ad) (Hb := Hb) (tau := tau) (d := d) (Post := fun r => ∃ z : Int, r = (some (xI z), h) ∧ (0 ≤ z ∧ z ≤ 1)) hx hG p0 (fun z hz => ⟨z, rfl, hz⟩))
  subst e; exact ⟨z, hca, hp⟩
set_option maxRecDepth 100000 in
theorem cw_84_46 {l : Launch} {D : va_G} {b0 : Nat} {ad : Nat → Nat} {Hb : Heap} {tau : Nat → Int64} {d n s : Nat} {S : Nat → xS} {Z : xZ} {h : mx_H} {Post : mx_R → Prop} (hx : XH n s S Z h) (hG : GI n S Z) {x0 x1 : Int} (p0 : (-2147483648) ≤ x0 ∧ x0 ≤ 2147483647) (p1 : (-9223372036854775808) ≤ x1 ∧ x1 ≤ 9223372036854775807) (hP : ∀ (Z' : xZ) (h' : mx_H), XH n s S Z' h' → GI n S Z' → fr' [(47, (-1))] Z Z' → Post (none, h')) : mx_J (tB l D b0 ad Hb tau) mt_84 (d + 0) 0 [some (.ref 46), some (xI x0), some (xL x1), none] [] h Post := by
    have a46 : 46 < n := lt83 hG.1 rfl
    have s46 : S 46 = .inl (10, [2, 0, 0, 0]) := hG.2.1 46 rfl
    have a47 : 47 < n := lt83 hG.1 rfl
    have s47 : S 47 = .inr (.long, 40, 1) := hG.2.1 47 rfl
    refine mx_J.step (sn_84 0) (fun _ _ => rfl) ?_
    have c10 : mx_J (tB l D b0 ad Hb tau) mt_84 (d + 0) 10 [some (.ref 46), some (xI x0), some (xL x1), none] [] h Post := by
      exact mx_J.ret (sn_84 10) (fun _ _ => rfl) (hP Z h hx hG fr_rf)
    refine Jif_lt (show mx_Sn _ _ 1 (mx_if_lt 10 4) from sn_84 1) (by omega) (fun q2 => ?_) (fun q2 => ?_)
    · skip
      exact c10 
    · skip
      refine mx_J.step (sn_84 4) (fun _ _ => rfl) ?_
      refine JcI (z := 40) (show mx_Sn _ _ 5 (mx_const (.int 40) 7) from sn_84 5) rfl ?_
      refine Jicmp_lt (show mx_Sn _ _ 7 (mx_icmp_lt 11 10) from sn_84 7) (by omega) (by omega) (fun q3 => ?_) (fun q3 => ?_)
      · skip
        refine mx_J.step (sn_84 11) (fun _ _ => rfl) ?_
        have b4 : 0 ≤ Z 46 1 ∧ Z 46 1 ≤ 3 := hG.pr 46 1
        refine JgetI (g := 1) (z := Z 46 1) hx (show mx_Sn _ _ 12 (mx_getf 10 1 15) from sn_84 12) a46 s46 rfl rfl rfl ?_
        have c85 : ∀  (Z6 : xZ) (h6 : mx_H), XH n s S Z6 h6 → GI n S Z6 → fr' [(47, (-1))] Z Z6 → mx_J (tB l D b0 ad Hb tau) mt_84 (d + 0) 85 [some (.ref 46), some (xI x0), some (xL x1), none] [] h6 Post := by
          intro Z6 h6 hx6 hG6 hf6
          exact mx_J.ret (sn_84 85) (fun _ _ => rfl) (hP Z6 h6 hx6 hG6 (fr_tr (M := [(47, (-1))]) fr_rf (hf6) (M1 := []) rfl rfl))
        refine Jtsw (z := Z 46 1) (show mx_Sn _ _ 15 (mx_tsw 0 2 [40, 53, 66] 78) from sn_84 15) (by omega) (fun q7 => ?_) (fun q7 => ?_)
        · skip
          refine mx_J.step (sn_84 78) (fun _ _ => rfl) ?_
          refine JgetR (g := 0) (b := 47) hx (show mx_Sn _ _ 79 (mx_getf 10 0 82) from sn_84 79) a46 s46 rfl rfl (hG.prr 46 0 rfl) ?_
          refine mx_J.step (sn_84 82) (fun _ _ => rfl) ?_
          refine mx_J.step (sn_84 83) (fun _ _ => rfl) ?_
          refine JlastL hx (show mx_Sn _ _ 84 (mx_last 1 85) from sn_84 84) a47 s47 rfl (by omega) (fun Z8 h8 hx8 hE8 => ?_)
          have hG8 := GI_up hG hE8 (show (-9223372036854775808) ≤ x1 ∧ x1 ≤ 9223372036854775807 by omega) trivial rfl
          exact c85 Z8 h8 hx8 hG8 (fr_tr (M := [(47, (-1))]) fr_rf (fr_ua hE8) (M1 := []) rfl rfl)
        · skip
          have e7 : Z 46 1 = 0 ∨ Z 46 1 = 1 ∨ Z 46 1 = 2 := by omega
          rcases e7 with e7 | e7 | e7
          · refine ⟨40, by rw [e7]; rfl, ?_⟩
            refine mx_J.step (sn_84 40) (fun _ _ => rfl) ?_
            refine JgetR (g := 0) (b := 47) hx (show mx_Sn _ _ 41 (mx_getf 10 0 44) from sn_84 41) a46 s46 rfl rfl (hG.prr 46 0 rfl) ?_
            refine mx_J.step (sn_84 44) (fun _ _ => rfl) ?_
            refine mx_J.step (sn_84 45) (fun _ _ => rfl) ?_
            refine Jl2i (show mx_Sn _ _ 46 (mx_l2i 47) from sn_84 46) (Jnorm fun y9 hy9 hq9 => ?_)
            refine Ji2bX (show mx_Sn _ _ 47 (mx_i2b 48) from sn_84 47) (fun y10 hy10 => ?_)
            refine Ji2l (show mx_Sn _ _ 48 (mx_i2l 49) from sn_84 48) (by omega) ?_
            refine JlastL hx (show mx_Sn _ _ 49 (mx_last 1 50) from sn_84 49) a47 s47 rfl (by omega) (fun Z11 h11 hx11 hE11 => ?_)
            have hG11 := GI_up hG hE11 (show (-9223372036854775808) ≤ y10 ∧ y10 ≤ 9223372036854775807 by omega) trivial rfl
            refine mx_J.step (sn_84 50) (fun _ _ => rfl) ?_
            exact c85 Z11 h11 hx11 hG11 (fr_tr (M := [(47, (-1))]) fr_rf (fr_ua hE11) (M1 := []) rfl rfl)
          · refine ⟨53, by rw [e7]; rfl, ?_⟩
            refine mx_J.step (sn_84 53) (fun _ _ => rfl) ?_
            refine JgetR (g := 0) (b := 47) hx (show mx_Sn _ _ 54 (mx_getf 10 0 57) from sn_84 54) a46 s46 rfl rfl (hG.prr 46 0 rfl) ?_
            refine mx_J.step (sn_84 57) (fun _ _ => rfl) ?_
            refine mx_J.step (sn_84 58) (fun _ _ => rfl) ?_
            refine Jl2i (show mx_Sn _ _ 59 (mx_l2i 60) from sn_84 59) (Jnorm fun y12 hy12 hq12 => ?_)
            refine Ji2sX (show mx_Sn _ _ 60 (mx_i2s 61) from sn_84 60) (fun y13 hy13 => ?_)
            refine Ji2l (show mx_Sn _ _ 61 (mx_i2l 62) from sn_84 61) (by omega) ?_
            refine JlastL hx (show mx_Sn _ _ 62 (mx_last 1 63) from sn_84 62) a47 s47 rfl (by omega) (fun Z14 h14 hx14 hE14 => ?_)
            have hG14 := GI_up hG hE14 (show (-9223372036854775808) ≤ y13 ∧ y13 ≤ 9223372036854775807 by omega) trivial rfl
            refine mx_J.step (sn_84 63) (fun _ _ => rfl) ?_
            exact c85 Z14 h14 hx14 hG14 (fr_tr (M := [(47, (-1))]) fr_rf (fr_ua hE14) (M1 := []) rfl rfl)
          · refine ⟨66, by rw [e7]; rfl, ?_⟩
            refine mx_J.step (sn_84 66) (fun _ _ => rfl) ?_
            refine JgetR (g := 0) (b := 47) hx (show mx_Sn _ _ 67 (mx_getf 10 0 70) from sn_84 67) a46 s46 rfl rfl (hG.prr 46 0 rfl) ?_
            refine mx_J.step (sn_84 70) (fun _ _ => rfl) ?_
            refine mx_J.step (sn_84 71) (fun _ _ => rfl) ?_
            refine Jl2i (show mx_Sn _ _ 72 (mx_l2i 73) from sn_84 72) (Jnorm fun y15 hy15 hq15 => ?_)
            refine Ji2l (show mx_Sn _ _ 73 (mx_i2l 74) from sn_84 73) (by omega) ?_
            refine JlastL hx (show mx_Sn _ _ 74 (mx_last 1 75) from sn_84 74) a47 s47 rfl (by omega) (fun Z16 h16 hx16 hE16 => ?_)
            have hG16 := GI_up hG hE16 (show (-9223372036854775808) ≤ y15 ∧ y15 ≤ 9223372036854775807 by omega) trivial rfl
            refine mx_J.step (sn_84 75) (fun _ _ => rfl) ?_
            exact c85 Z16 h16 hx16 hG16 (fr_tr (M := [(47, (-1))]) fr_rf (fr_ua hE16) (M1 := []) rfl rfl)
      · skip
        exact c10 
theorem ct_84_46 {l : Launch} {D : va_G} {b0 : Nat} {ad : Nat → Nat} {Hb : Heap} {tau : Nat → Int64} {d n s : Nat} {S : Nat → xS} {Z : xZ} {h : mx_H} (hx : XH n s S Z h) (hG : GI n S Z) {x0 x1 : Int} (p0 : (-2147483648) ≤ x0 ∧ x0 ≤ 2147483647) (p1 : (-9223372036854775808) ≤ x1 ∧ x1 ≤ 9223372036854775807) : ∃ (Z' : xZ) (h' : mx_H), mx_Ca (tB l D b0 ad Hb tau) (d + 1) 84 [.ref 46, xI x0, xL x1] h (none, h') ∧ XH n s S Z' h' ∧ GI n S Z' ∧ fr' [(47, (-1))] Z Z' := by
  obtain ⟨r, hca, Z', h', e, q⟩ := Jmt (B := tB l D b0 ad Hb tau) (M := mt_84) (mi := 84) (as := [.ref 46, xI x0, xL x1]) (d := d + 0) (ls := [some (.ref 46), some (xI x0), some (xL x1), none]) rfl rfl rfl rfl rfl rfl (cw_84_46 (l := l) (D := D) (b0 := b0) (ad := ad) (Hb := Hb) (tau := tau) (d := d) (Post := fun r => ∃ (Z' : xZ) (h' : mx_H), r = (none, h') ∧ XH n s S Z' h' ∧ GI n S Z' ∧ fr' [(47, (-1))] Z Z') hx hG p0 p1 (fun Z' h' q1 q2 q3 => ⟨Z', h', rfl, q1, q2, q3⟩))
  subst e; exact ⟨Z', h', hca, q⟩
set_option maxRecDepth 100000 in
theorem cw_285_47 {l : Launch} {D : va_G} {b0 : Nat} {ad : Nat → Nat} {Hb : Heap} {tau : Nat → Int64} {d n s : Nat} {S : Nat → xS} {Z : xZ} {h : mx_H} {Post : mx_R → Prop} (hx : XH n s S Z h) (hG : GI n S Z) {x0 : Int} (p0 : (-9223372036854775808) ≤ x0 ∧ x0 ≤ 9223372036854775807) (hP : ∀ (Z' : xZ) (h' : mx_H), XH n s S Z' h' → GI n S Z' → fr' [(47, (-1))] Z Z' → Post (none, h')) : mx_J (tB l D b0 ad Hb tau) mt_285 (d + 0) 0 [some (.ref 47), some (xL x0), none, none, none] [] h Post := by
    have a47 : 47 < n := lt83 hG.1 rfl
    have s47 : S 47 = .inr (.long, 40, 1) := hG.2.1 47 rfl
    refine JcI (z := 0) (show mx_Sn _ _ 0 (mx_const (.int 0) 1) from sn_285 0) rfl ?_
    refine mx_J.step (ls2 := [some (.ref 47), some (xL x0), none, some (xI 0), none]) (sn_285 1) (fun _ _ => rfl) ?_
    refine mx_J.step (sn_285 2) (fun _ _ => rfl) ?_
    refine JalenI (z := 40) hx (show mx_Sn _ _ 3 (mx_alen 4) from sn_285 3) a47 s47 (by decide) rfl ?_
    refine mx_J.step (ls2 := [some (.ref 47), some (xL x0), none, some (xI 0), some (xI 40)]) (sn_285 4) (fun _ _ => rfl) ?_
    have c6 : ∀ (m1 : Nat) (w1_3 : Int) (Z2 : xZ) (h2 : mx_H), 40 - w1_3 < (m1 : Int) → 0 ≤ w1_3 ∧ w1_3 ≤ 40 → XH n s S Z2 h2 → GI n S Z2 → fr' [(47, (-1))] Z Z2 → mx_J (tB l D b0 ad Hb tau) mt_285 (d + 0) 6 [some (.ref 47), some (xL x0), none, some (xI w1_3), some (xI 40)] [] h2 Post := by
      intro m1
      induction m1 with
      | zero => intro w1_3 Z2 h2 q1 f1_0 hx2 hG2 hf2; exact absurd q1 (by omega)
      | succ m1 ih1 =>
        intro w1_3 Z2 h2 q1 f1_0 hx2 hG2 hf2
        refine mx_J.step (sn_285 6) (fun _ _ => rfl) ?_
        refine mx_J.step (sn_285 7) (fun _ _ => rfl) ?_
        refine Jicmp_ge (show mx_Sn _ _ 9 (mx_icmp_ge 22 12) from sn_285 9) (by omega) (by omega) (fun q3 => ?_) (fun q3 => ?_)
        · skip
          exact mx_J.ret (sn_285 22) (fun _ _ => rfl) (hP Z2 h2 hx2 hG2 (fr_tr (M := [(47, (-1))]) fr_rf (hf2) (M1 := []) rfl rfl))
        · skip
          refine mx_J.step (sn_285 12) (fun _ _ => rfl) ?_
          refine mx_J.step (sn_285 13) (fun _ _ => rfl) ?_
          refine mx_J.step (sn_285 14) (fun _ _ => rfl) ?_
          refine JlastL hx2 (show mx_Sn _ _ 15 (mx_last 1 16) from sn_285 15) a47 s47 rfl (by omega) (fun Z4 h4 hx4 hE4 => ?_)
          have hG4 := GI_up hG2 hE4 (show (-9223372036854775808) ≤ x0 ∧ x0 ≤ 9223372036854775807 by omega) trivial rfl
          refine Jiinc (z := w1_3) (cz := 1) (ls2 := [some (.ref 47), some (xL x0), none, some (xI (w1_3 + 1)), some (xI 40)]) (show mx_Sn _ _ 16 (mx_iinc 3 1 19) from sn_285 16) rfl rfl rfl rfl ?_
          refine mx_J.step (sn_285 19) (fun _ _ => rfl) ?_
          exact ih1 (w1_3 + 1) Z4 h4 (by omega) (by omega) hx4 hG4 (fr_tr (M := [(47, (-1))]) (fr_tr (M := [(47, (-1))]) fr_rf (hf2) (M1 := []) rfl rfl) (fr_ua hE4) rfl rfl)
    exact c6 (Int.toNat (40 - 0) + 1) 0 Z h (by omega) (by omega) hx hG fr_rf
theorem ct_285_47 {l : Launch} {D : va_G} {b0 : Nat} {ad : Nat → Nat} {Hb : Heap} {tau : Nat → Int64} {d n s : Nat} {S : Nat → xS} {Z : xZ} {h : mx_H} (hx : XH n s S Z h) (hG : GI n S Z) {x0 : Int} (p0 : (-9223372036854775808) ≤ x0 ∧ x0 ≤ 9223372036854775807) : ∃ (Z' : xZ) (h' : mx_H), mx_Ca (tB l D b0 ad Hb tau) (d + 1) 285 [.ref 47, xL x0] h (none, h') ∧ XH n s S Z' h' ∧ GI n S Z' ∧ fr' [(47, (-1))] Z Z' := by
  obtain ⟨r, hca, Z', h', e, q⟩ := Jmt (B := tB l D b0 ad Hb tau) (M := mt_285) (mi := 285) (as := [.ref 47, xL x0]) (d := d + 0) (ls := [some (.ref 47), some (xL x0), none, none, none]) rfl rfl rfl rfl rfl rfl (cw_285_47 (l := l) (D := D) (b0 := b0) (ad := ad) (Hb := Hb) (tau := tau) (d := d) (Post := fun r => ∃ (Z' : xZ) (h' : mx_H), r = (none, h') ∧ XH n s S Z' h' ∧ GI n S Z' ∧ fr' [(47, (-1))] Z Z') hx hG p0 (fun Z' h' q1 q2 q3 => ⟨Z', h', rfl, q1, q2, q3⟩))
  subst e; exact ⟨Z', h', hca, q⟩
set_option maxRecDepth 100000 in
theorem cw_83_46 {l : Launch} {D : va_G} {b0 : Nat} {ad : Nat → Nat} {Hb : Heap} {tau : Nat → Int64} {d n s : Nat} {S : Nat → xS} {Z : xZ} {h : mx_H} {Post : mx_R → Prop} (hx : XH n s S Z h) (hG : GI n S Z) {x0 x1 : Int} (p0 : 0 ≤ x0 ∧ x0 ≤ 3) (p1 : 0 ≤ x1 ∧ x1 ≤ 40) (hP : ∀ (Z' : xZ) (h' : mx_H), XH n s S Z' h' → GI n S Z' → fr' [(46, 1), (46, 2), (46, 3), (47, (-1))] Z Z' → Post (none, h')) : mx_J (tB l D b0 ad Hb tau) mt_83 (d + 1) 0 [some (.ref 46), some (xI x0), some (xI x1)] [] h Post := by
    have a46 : 46 < n := lt83 hG.1 rfl
    have s46 : S 46 = .inl (10, [2, 0, 0, 0]) := hG.2.1 46 rfl
    refine mx_J.step (sn_83 0) (fun _ _ => rfl) ?_
    refine mx_J.step (sn_83 1) (fun _ _ => rfl) ?_
    refine JputI (g := 1) hx (show mx_Sn _ _ 2 (mx_putf 1 10 1 (.int) 5) from sn_83 2) a46 s46 rfl rfl rfl rfl (fun Z1 h1 hx1 hE1 => ?_)
    have hG1 := GI_up hG hE1 (show 0 ≤ x0 ∧ x0 ≤ 3 by omega) trivial rfl
    refine mx_J.step (sn_83 5) (fun _ _ => rfl) ?_
    refine mx_J.step (sn_83 6) (fun _ _ => rfl) ?_
    refine JputI (g := 2) hx1 (show mx_Sn _ _ 7 (mx_putf 1 10 2 (.int) 10) from sn_83 7) a46 s46 rfl rfl rfl rfl (fun Z2 h2 hx2 hE2 => ?_)
    have hG2 := GI_up hG1 hE2 (show 0 ≤ x1 ∧ x1 ≤ 40 by omega) trivial rfl
    refine mx_J.step (sn_83 10) (fun _ _ => rfl) ?_
    refine JcI (z := 0) (show mx_Sn _ _ 11 (mx_const (.int 0) 12) from sn_83 11) rfl ?_
    refine JputI (g := 3) hx2 (show mx_Sn _ _ 12 (mx_putf 1 10 3 (.boolean) 15) from sn_83 12) a46 s46 rfl rfl (fit_z (by omega)) rfl (fun Z3 h3 hx3 hE3 => ?_)
    have hG3 := GI_up hG2 hE3 (show 0 ≤ 0 ∧ 0 ≤ 1 by omega) trivial rfl
    refine mx_J.step (sn_83 15) (fun _ _ => rfl) ?_
    refine JgetR (g := 0) (b := 47) hx3 (show mx_Sn _ _ 16 (mx_getf 10 0 19) from sn_83 16) a46 s46 rfl rfl (hG3.prr 46 0 rfl) ?_
    refine JcL (z := 0) (show mx_Sn _ _ 19 (mx_const (.long 0) 20) from sn_83 19) rfl ?_
    obtain ⟨Z4, h4, hc4, hx4, hG4, hf4⟩ := ct_285_47 (d := d + 0) (l := l) (D := D) (b0 := b0) (ad := ad) (Hb := Hb) (tau := tau) hx3 hG3 (show (-9223372036854775808) ≤ 0 ∧ 0 ≤ 9223372036854775807 by omega)
    refine Jcs0 (show mx_Sn _ _ 20 (mx_calls 285 2 23) from sn_83 20) hc4 rfl rfl rfl ?_
    exact mx_J.ret (sn_83 23) (fun _ _ => rfl) (hP Z4 h4 hx4 hG4 (fr_tr (M := [(46, 1), (46, 2), (46, 3), (47, (-1))]) (fr_tr (M := [(46, 1), (46, 2), (46, 3), (47, (-1))]) (fr_tr (M := [(46, 1), (46, 2), (46, 3), (47, (-1))]) (fr_tr (M := [(46, 1), (46, 2), (46, 3), (47, (-1))]) fr_rf (fr_up hE1) (M1 := []) rfl rfl) (fr_up hE2) rfl rfl) (fr_up hE3) rfl rfl) (hf4) rfl rfl))
theorem ct_83_46 {l : Launch} {D : va_G} {b0 : Nat} {ad : Nat → Nat} {Hb : Heap} {tau : Nat → Int64} {d n s : Nat} {S : Nat → xS} {Z : xZ} {h : mx_H} (hx : XH n s S Z h) (hG : GI n S Z) {x0 x1 : Int} (p0 : 0 ≤ x0 ∧ x0 ≤ 3) (p1 : 0 ≤ x1 ∧ x1 ≤ 40) : ∃ (Z' : xZ) (h' : mx_H), mx_Ca (tB l D b0 ad Hb tau) (d + 2) 83 [.ref 46, xI x0, xI x1] h (none, h') ∧ XH n s S Z' h' ∧ GI n S Z' ∧ fr' [(46, 1), (46, 2), (46, 3), (47, (-1))] Z Z' := by
  obtain ⟨r, hca, Z', h', e, q⟩ := Jmt (B := tB l D b0 ad Hb tau) (M := mt_83) (mi := 83) (as := [.ref 46, xI x0, xI x1]) (d := d + 1) (ls := [some (.ref 46), some (xI x0), some (xI x1)]) rfl rfl rfl rfl rfl rfl (cw_83_46 (l := l) (D := D) (b0 := b0) (ad := ad) (Hb := Hb) (tau := tau) (d := d) (Post := fun r => ∃ (Z' : xZ) (h' : mx_H), r = (none, h') ∧ XH n s S Z' h' ∧ GI n S Z' ∧ fr' [(46, 1), (46, 2), (46, 3), (47, (-1))] Z Z') hx hG p0 p1 (fun Z' h' q1 q2 q3 => ⟨Z', h', rfl, q1, q2, q3⟩))
  subst e; exact ⟨Z', h', hca, q⟩
set_option maxRecDepth 100000 in
theorem cw_85_48 {l : Launch} {D : va_G} {b0 : Nat} {ad : Nat → Nat} {Hb : Heap} {tau : Nat → Int64} {d n s : Nat} {S : Nat → xS} {Z : xZ} {h : mx_H} {Post : mx_R → Prop} (hx : XH n s S Z h) (hG : GI n S Z) {x0 : Int} (p0 : (-2147483648) ≤ x0 ∧ x0 ≤ 2147483647) (hP : ∀ z : Int, (-9223372036854775808) ≤ z ∧ z ≤ 9223372036854775807 → Post (some (xL z), h)) : mx_J (tB l D b0 ad Hb tau) mt_85 (d + 0) 0 [some (.ref 48), some (xI x0)] [] h Post := by
    have a48 : 48 < n := lt83 hG.1 rfl
    have s48 : S 48 = .inl (10, [2, 0, 0, 0]) := hG.2.1 48 rfl
    have a49 : 49 < n := lt83 hG.1 rfl
    have s49 : S 49 = .inr (.long, 40, 1) := hG.2.1 49 rfl
    refine mx_J.step (sn_85 0) (fun _ _ => rfl) ?_
    have c20 : ∀ (k1_0 : Int), (-9223372036854775808) ≤ k1_0 ∧ k1_0 ≤ 9223372036854775807 → mx_J (tB l D b0 ad Hb tau) mt_85 (d + 0) 20 [some (.ref 48), some (xI x0)] [xL k1_0] h Post := by
      intro k1_0 f1_0
      exact mx_J.ret (sn_85 20) (fun _ _ => rfl) (hP k1_0 (by omega))
    have c10 : mx_J (tB l D b0 ad Hb tau) mt_85 (d + 0) 10 [some (.ref 48), some (xI x0)] [] h Post := by
      refine JcL (z := 0) (show mx_Sn _ _ 10 (mx_const (.long 0) 11) from sn_85 10) rfl ?_
      refine mx_J.step (sn_85 11) (fun _ _ => rfl) ?_
      exact c20 0 (by omega)
    refine Jif_lt (show mx_Sn _ _ 1 (mx_if_lt 10 4) from sn_85 1) (by omega) (fun q3 => ?_) (fun q3 => ?_)
    · skip
      exact c10 
    · skip
      refine mx_J.step (sn_85 4) (fun _ _ => rfl) ?_
      refine JcI (z := 40) (show mx_Sn _ _ 5 (mx_const (.int 40) 7) from sn_85 5) rfl ?_
      refine Jicmp_lt (show mx_Sn _ _ 7 (mx_icmp_lt 14 10) from sn_85 7) (by omega) (by omega) (fun q4 => ?_) (fun q4 => ?_)
      · skip
        refine mx_J.step (sn_85 14) (fun _ _ => rfl) ?_
        refine JgetR (g := 0) (b := 49) hx (show mx_Sn _ _ 15 (mx_getf 10 0 18) from sn_85 15) a48 s48 rfl rfl (hG.prr 48 0 rfl) ?_
        refine mx_J.step (sn_85 18) (fun _ _ => rfl) ?_
        have b5 : (-9223372036854775808) ≤ Z 49 x0 ∧ Z 49 x0 ≤ 9223372036854775807 := hG.pr 49 x0
        refine JlaldL (z := Z 49 x0) hx (show mx_Sn _ _ 19 (mx_lald 20) from sn_85 19) a49 s49 (by omega) rfl ?_
        exact c20 (Z 49 x0) (by omega)
      · skip
        exact c10 
theorem ct_85_48 {l : Launch} {D : va_G} {b0 : Nat} {ad : Nat → Nat} {Hb : Heap} {tau : Nat → Int64} {d n s : Nat} {S : Nat → xS} {Z : xZ} {h : mx_H} (hx : XH n s S Z h) (hG : GI n S Z) {x0 : Int} (p0 : (-2147483648) ≤ x0 ∧ x0 ≤ 2147483647) : ∃ z : Int, mx_Ca (tB l D b0 ad Hb tau) (d + 1) 85 [.ref 48, xI x0] h (some (xL z), h) ∧ ((-9223372036854775808) ≤ z ∧ z ≤ 9223372036854775807) := by
  obtain ⟨r, hca, z, e, hp⟩ := Jmt (B := tB l D b0 ad Hb tau) (M := mt_85) (mi := 85) (as := [.ref 48, xI x0]) (d := d + 0) (ls := [some (.ref 48), some (xI x0)]) rfl rfl rfl rfl rfl rfl (cw_85_48 (l := l) (D := D) (b0 := b0) (ad := ad) (Hb := Hb) (tau := tau) (d := d) (Post := fun r => ∃ z : Int, r = (some (xL z), h) ∧ ((-9223372036854775808) ≤ z ∧ z ≤ 9223372036854775807)) hx hG p0 (fun z hz => ⟨z, rfl, hz⟩))
  subst e; exact ⟨z, hca, hp⟩
set_option maxRecDepth 100000 in
theorem cw_86_48 {l : Launch} {D : va_G} {b0 : Nat} {ad : Nat → Nat} {Hb : Heap} {tau : Nat → Int64} {d n s : Nat} {S : Nat → xS} {Z : xZ} {h : mx_H} {Post : mx_R → Prop} (hx : XH n s S Z h) (hG : GI n S Z) {x0 x1 : Int} (p0 : (-9223372036854775808) ≤ x0 ∧ x0 ≤ 9223372036854775807) (p1 : (-9223372036854775808) ≤ x1 ∧ x1 ≤ 9223372036854775807) (hP : ∀ z : Int, 0 ≤ z ∧ z ≤ 1 → Post (some (xI z), h)) : mx_J (tB l D b0 ad Hb tau) mt_86 (d + 0) 0 [some (.ref 48), some (xL x0), none, some (xL x1), none, none] [] h Post := by
    have a48 : 48 < n := lt83 hG.1 rfl
    have s48 : S 48 = .inl (10, [2, 0, 0, 0]) := hG.2.1 48 rfl
    have a49 : 49 < n := lt83 hG.1 rfl
    have s49 : S 49 = .inr (.long, 40, 1) := hG.2.1 49 rfl
    refine JcI (z := 0) (show mx_Sn _ _ 0 (mx_const (.int 0) 1) from sn_86 0) rfl ?_
    refine mx_J.step (ls2 := [some (.ref 48), some (xL x0), none, some (xL x1), none, some (xI 0)]) (sn_86 1) (fun _ _ => rfl) ?_
    have c3 : ∀ (m1 : Nat) (w1_5 : Int), 40 - w1_5 < (m1 : Int) → 0 ≤ w1_5 ∧ w1_5 ≤ 40 → mx_J (tB l D b0 ad Hb tau) mt_86 (d + 0) 3 [some (.ref 48), some (xL x0), none, some (xL x1), none, some (xI w1_5)] [] h Post := by
      intro m1
      induction m1 with
      | zero => intro w1_5 q1 f1_0; exact absurd q1 (by omega)
      | succ m1 ih1 =>
        intro w1_5 q1 f1_0
        refine mx_J.step (sn_86 3) (fun _ _ => rfl) ?_
        refine mx_J.step (sn_86 5) (fun _ _ => rfl) ?_
        have b2 : 0 ≤ Z 48 2 ∧ Z 48 2 ≤ 40 := hG.pr 48 2
        refine JgetI (g := 2) (z := Z 48 2) hx (show mx_Sn _ _ 6 (mx_getf 10 2 9) from sn_86 6) a48 s48 rfl rfl rfl ?_
        refine Jicmp_ge (show mx_Sn _ _ 9 (mx_icmp_ge 44 12) from sn_86 9) (by omega) (by omega) (fun q3 => ?_) (fun q3 => ?_)
        · skip
          refine JcI (z := 1) (show mx_Sn _ _ 44 (mx_const (.int 1) 45) from sn_86 44) rfl ?_
          exact mx_J.ret (show mx_Sn _ _ 45 (mx_zret) from sn_86 45) (fun _ _ => zr_ok (by omega)) (hP 1 (by omega))
        · skip
          refine mx_J.step (sn_86 12) (fun _ _ => rfl) ?_
          refine JgetR (g := 0) (b := 49) hx (show mx_Sn _ _ 13 (mx_getf 10 0 16) from sn_86 13) a48 s48 rfl rfl (hG.prr 48 0 rfl) ?_
          refine mx_J.step (sn_86 16) (fun _ _ => rfl) ?_
          have b4 : (-9223372036854775808) ≤ Z 49 w1_5 ∧ Z 49 w1_5 ≤ 9223372036854775807 := hG.pr 49 w1_5
          refine JlaldL (z := Z 49 w1_5) hx (show mx_Sn _ _ 18 (mx_lald 19) from sn_86 18) a49 s49 (by omega) rfl ?_
          refine mx_J.step (sn_86 19) (fun _ _ => rfl) ?_
          have c36 : mx_J (tB l D b0 ad Hb tau) mt_86 (d + 0) 36 [some (.ref 48), some (xL x0), none, some (xL x1), none, some (xI w1_5)] [] h Post := by
            refine JcI (z := 0) (show mx_Sn _ _ 36 (mx_const (.int 0) 37) from sn_86 36) rfl ?_
            exact mx_J.ret (show mx_Sn _ _ 37 (mx_zret) from sn_86 37) (fun _ _ => zr_ok (by omega)) (hP 0 (by omega))
          refine Jlif_lt (show mx_Sn _ _ 20 (mx_lif_lt 36 24) from sn_86 20) (by omega) (by omega) (fun q6 => ?_) (fun q6 => ?_)
          · skip
            exact c36 
          · skip
            refine mx_J.step (sn_86 24) (fun _ _ => rfl) ?_
            refine JgetR (g := 0) (b := 49) hx (show mx_Sn _ _ 25 (mx_getf 10 0 28) from sn_86 25) a48 s48 rfl rfl (hG.prr 48 0 rfl) ?_
            refine mx_J.step (sn_86 28) (fun _ _ => rfl) ?_
            have b7 : (-9223372036854775808) ≤ Z 49 w1_5 ∧ Z 49 w1_5 ≤ 9223372036854775807 := hG.pr 49 w1_5
            refine JlaldL (z := Z 49 w1_5) hx (show mx_Sn _ _ 30 (mx_lald 31) from sn_86 30) a49 s49 (by omega) rfl ?_
            refine mx_J.step (sn_86 31) (fun _ _ => rfl) ?_
            refine Jlif_le (show mx_Sn _ _ 32 (mx_lif_le 38 36) from sn_86 32) (by omega) (by omega) (fun q8 => ?_) (fun q8 => ?_)
            · skip
              refine Jiinc (z := w1_5) (cz := 1) (ls2 := [some (.ref 48), some (xL x0), none, some (xL x1), none, some (xI (w1_5 + 1))]) (show mx_Sn _ _ 38 (mx_iinc 5 1 41) from sn_86 38) rfl rfl rfl rfl ?_
              refine mx_J.step (sn_86 41) (fun _ _ => rfl) ?_
              exact ih1 (w1_5 + 1) (by omega) (by omega)
            · skip
              exact c36 
    exact c3 (Int.toNat (40 - 0) + 1) 0 (by omega) (by omega)
theorem ct_86_48 {l : Launch} {D : va_G} {b0 : Nat} {ad : Nat → Nat} {Hb : Heap} {tau : Nat → Int64} {d n s : Nat} {S : Nat → xS} {Z : xZ} {h : mx_H} (hx : XH n s S Z h) (hG : GI n S Z) {x0 x1 : Int} (p0 : (-9223372036854775808) ≤ x0 ∧ x0 ≤ 9223372036854775807) (p1 : (-9223372036854775808) ≤ x1 ∧ x1 ≤ 9223372036854775807) : ∃ z : Int, mx_Ca (tB l D b0 ad Hb tau) (d + 1) 86 [.ref 48, xL x0, xL x1] h (some (xI z), h) ∧ (0 ≤ z ∧ z ≤ 1) := by
  obtain ⟨r, hca, z, e, hp⟩ := Jmt (B := tB l D b0 ad Hb tau) (M := mt_86) (mi := 86) (as := [.ref 48, xL x0, xL x1]) (d := d + 0) (ls := [some (.ref 48), some (xL x0), none, some (xL x1), none, none]) rfl rfl rfl rfl rfl rfl (cw_86_48 (l := l) (D := D) (b0 := b0) (ad := ad) (Hb := Hb) (tau := tau) (d := d) (Post := fun r => ∃ z : Int, r = (some (xI z), h) ∧ (0 ≤ z ∧ z ≤ 1)) hx hG p0 p1 (fun z hz => ⟨z, rfl, hz⟩))
  subst e; exact ⟨z, hca, hp⟩
set_option maxRecDepth 100000 in
theorem cw_87_48 {l : Launch} {D : va_G} {b0 : Nat} {ad : Nat → Nat} {Hb : Heap} {tau : Nat → Int64} {d n s : Nat} {S : Nat → xS} {Z : xZ} {h : mx_H} {Post : mx_R → Prop} (hx : XH n s S Z h) (hG : GI n S Z) {x0 : Int} (p0 : (-9223372036854775808) ≤ x0 ∧ x0 ≤ 9223372036854775807) (hP : ∀ z : Int, 0 ≤ z ∧ z ≤ 1 → Post (some (xI z), h)) : mx_J (tB l D b0 ad Hb tau) mt_87 (d + 0) 0 [some (.ref 48), some (xL x0), none, none] [] h Post := by
    have a48 : 48 < n := lt83 hG.1 rfl
    have s48 : S 48 = .inl (10, [2, 0, 0, 0]) := hG.2.1 48 rfl
    have a49 : 49 < n := lt83 hG.1 rfl
    have s49 : S 49 = .inr (.long, 40, 1) := hG.2.1 49 rfl
    refine JcI (z := 0) (show mx_Sn _ _ 0 (mx_const (.int 0) 1) from sn_87 0) rfl ?_
    refine mx_J.step (ls2 := [some (.ref 48), some (xL x0), none, some (xI 0)]) (sn_87 1) (fun _ _ => rfl) ?_
    have c2 : ∀ (m1 : Nat) (w1_3 : Int), 40 - w1_3 < (m1 : Int) → 0 ≤ w1_3 ∧ w1_3 ≤ 40 → mx_J (tB l D b0 ad Hb tau) mt_87 (d + 0) 2 [some (.ref 48), some (xL x0), none, some (xI w1_3)] [] h Post := by
      intro m1
      induction m1 with
      | zero => intro w1_3 q1 f1_0; exact absurd q1 (by omega)
      | succ m1 ih1 =>
        intro w1_3 q1 f1_0
        refine mx_J.step (sn_87 2) (fun _ _ => rfl) ?_
        refine mx_J.step (sn_87 3) (fun _ _ => rfl) ?_
        have b2 : 0 ≤ Z 48 2 ∧ Z 48 2 ≤ 40 := hG.pr 48 2
        refine JgetI (g := 2) (z := Z 48 2) hx (show mx_Sn _ _ 4 (mx_getf 10 2 7) from sn_87 4) a48 s48 rfl rfl rfl ?_
        refine Jicmp_ge (show mx_Sn _ _ 7 (mx_icmp_ge 29 10) from sn_87 7) (by omega) (by omega) (fun q3 => ?_) (fun q3 => ?_)
        · skip
          refine JcI (z := 0) (show mx_Sn _ _ 29 (mx_const (.int 0) 30) from sn_87 29) rfl ?_
          exact mx_J.ret (show mx_Sn _ _ 30 (mx_zret) from sn_87 30) (fun _ _ => zr_ok (by omega)) (hP 0 (by omega))
        · skip
          refine mx_J.step (sn_87 10) (fun _ _ => rfl) ?_
          refine JgetR (g := 0) (b := 49) hx (show mx_Sn _ _ 11 (mx_getf 10 0 14) from sn_87 11) a48 s48 rfl rfl (hG.prr 48 0 rfl) ?_
          refine mx_J.step (sn_87 14) (fun _ _ => rfl) ?_
          have b4 : (-9223372036854775808) ≤ Z 49 w1_3 ∧ Z 49 w1_3 ≤ 9223372036854775807 := hG.pr 49 w1_3
          refine JlaldL (z := Z 49 w1_3) hx (show mx_Sn _ _ 15 (mx_lald 16) from sn_87 15) a49 s49 (by omega) rfl ?_
          refine mx_J.step (sn_87 16) (fun _ _ => rfl) ?_
          refine Jlif_ne (show mx_Sn _ _ 17 (mx_lif_ne 23 21) from sn_87 17) (by omega) (by omega) (fun q5 => ?_) (fun q5 => ?_)
          · skip
            refine Jiinc (z := w1_3) (cz := 1) (ls2 := [some (.ref 48), some (xL x0), none, some (xI (w1_3 + 1))]) (show mx_Sn _ _ 23 (mx_iinc 3 1 26) from sn_87 23) rfl rfl rfl rfl ?_
            refine mx_J.step (sn_87 26) (fun _ _ => rfl) ?_
            exact ih1 (w1_3 + 1) (by omega) (by omega)
          · skip
            refine JcI (z := 1) (show mx_Sn _ _ 21 (mx_const (.int 1) 22) from sn_87 21) rfl ?_
            exact mx_J.ret (show mx_Sn _ _ 22 (mx_zret) from sn_87 22) (fun _ _ => zr_ok (by omega)) (hP 1 (by omega))
    exact c2 (Int.toNat (40 - 0) + 1) 0 (by omega) (by omega)
theorem ct_87_48 {l : Launch} {D : va_G} {b0 : Nat} {ad : Nat → Nat} {Hb : Heap} {tau : Nat → Int64} {d n s : Nat} {S : Nat → xS} {Z : xZ} {h : mx_H} (hx : XH n s S Z h) (hG : GI n S Z) {x0 : Int} (p0 : (-9223372036854775808) ≤ x0 ∧ x0 ≤ 9223372036854775807) : ∃ z : Int, mx_Ca (tB l D b0 ad Hb tau) (d + 1) 87 [.ref 48, xL x0] h (some (xI z), h) ∧ (0 ≤ z ∧ z ≤ 1) := by
  obtain ⟨r, hca, z, e, hp⟩ := Jmt (B := tB l D b0 ad Hb tau) (M := mt_87) (mi := 87) (as := [.ref 48, xL x0]) (d := d + 0) (ls := [some (.ref 48), some (xL x0), none, none]) rfl rfl rfl rfl rfl rfl (cw_87_48 (l := l) (D := D) (b0 := b0) (ad := ad) (Hb := Hb) (tau := tau) (d := d) (Post := fun r => ∃ z : Int, r = (some (xI z), h) ∧ (0 ≤ z ∧ z ≤ 1)) hx hG p0 (fun z hz => ⟨z, rfl, hz⟩))
  subst e; exact ⟨z, hca, hp⟩
set_option maxRecDepth 100000 in
theorem cw_84_48 {l : Launch} {D : va_G} {b0 : Nat} {ad : Nat → Nat} {Hb : Heap} {tau : Nat → Int64} {d n s : Nat} {S : Nat → xS} {Z : xZ} {h : mx_H} {Post : mx_R → Prop} (hx : XH n s S Z h) (hG : GI n S Z) {x0 x1 : Int} (p0 : (-2147483648) ≤ x0 ∧ x0 ≤ 2147483647) (p1 : (-9223372036854775808) ≤ x1 ∧ x1 ≤ 9223372036854775807) (hP : ∀ (Z' : xZ) (h' : mx_H), XH n s S Z' h' → GI n S Z' → fr' [(49, (-1))] Z Z' → Post (none, h')) : mx_J (tB l D b0 ad Hb tau) mt_84 (d + 0) 0 [some (.ref 48), some (xI x0), some (xL x1), none] [] h Post := by
    have a48 : 48 < n := lt83 hG.1 rfl
    have s48 : S 48 = .inl (10, [2, 0, 0, 0]) := hG.2.1 48 rfl
    have a49 : 49 < n := lt83 hG.1 rfl
    have s49 : S 49 = .inr (.long, 40, 1) := hG.2.1 49 rfl
    refine mx_J.step (sn_84 0) (fun _ _ => rfl) ?_
    have c10 : mx_J (tB l D b0 ad Hb tau) mt_84 (d + 0) 10 [some (.ref 48), some (xI x0), some (xL x1), none] [] h Post := by
      exact mx_J.ret (sn_84 10) (fun _ _ => rfl) (hP Z h hx hG fr_rf)
    refine Jif_lt (show mx_Sn _ _ 1 (mx_if_lt 10 4) from sn_84 1) (by omega) (fun q2 => ?_) (fun q2 => ?_)
    · skip
      exact c10 
    · skip
      refine mx_J.step (sn_84 4) (fun _ _ => rfl) ?_
      refine JcI (z := 40) (show mx_Sn _ _ 5 (mx_const (.int 40) 7) from sn_84 5) rfl ?_
      refine Jicmp_lt (show mx_Sn _ _ 7 (mx_icmp_lt 11 10) from sn_84 7) (by omega) (by omega) (fun q3 => ?_) (fun q3 => ?_)
      · skip
        refine mx_J.step (sn_84 11) (fun _ _ => rfl) ?_
        have b4 : 0 ≤ Z 48 1 ∧ Z 48 1 ≤ 3 := hG.pr 48 1
        refine JgetI (g := 1) (z := Z 48 1) hx (show mx_Sn _ _ 12 (mx_getf 10 1 15) from sn_84 12) a48 s48 rfl rfl rfl ?_
        have c85 : ∀  (Z6 : xZ) (h6 : mx_H), XH n s S Z6 h6 → GI n S Z6 → fr' [(49, (-1))] Z Z6 → mx_J (tB l D b0 ad Hb tau) mt_84 (d + 0) 85 [some (.ref 48), some (xI x0), some (xL x1), none] [] h6 Post := by
          intro Z6 h6 hx6 hG6 hf6
          exact mx_J.ret (sn_84 85) (fun _ _ => rfl) (hP Z6 h6 hx6 hG6 (fr_tr (M := [(49, (-1))]) fr_rf (hf6) (M1 := []) rfl rfl))
        refine Jtsw (z := Z 48 1) (show mx_Sn _ _ 15 (mx_tsw 0 2 [40, 53, 66] 78) from sn_84 15) (by omega) (fun q7 => ?_) (fun q7 => ?_)
        · skip
          refine mx_J.step (sn_84 78) (fun _ _ => rfl) ?_
          refine JgetR (g := 0) (b := 49) hx (show mx_Sn _ _ 79 (mx_getf 10 0 82) from sn_84 79) a48 s48 rfl rfl (hG.prr 48 0 rfl) ?_
          refine mx_J.step (sn_84 82) (fun _ _ => rfl) ?_
          refine mx_J.step (sn_84 83) (fun _ _ => rfl) ?_
          refine JlastL hx (show mx_Sn _ _ 84 (mx_last 1 85) from sn_84 84) a49 s49 rfl (by omega) (fun Z8 h8 hx8 hE8 => ?_)
          have hG8 := GI_up hG hE8 (show (-9223372036854775808) ≤ x1 ∧ x1 ≤ 9223372036854775807 by omega) trivial rfl
          exact c85 Z8 h8 hx8 hG8 (fr_tr (M := [(49, (-1))]) fr_rf (fr_ua hE8) (M1 := []) rfl rfl)
        · skip
          have e7 : Z 48 1 = 0 ∨ Z 48 1 = 1 ∨ Z 48 1 = 2 := by omega
          rcases e7 with e7 | e7 | e7
          · refine ⟨40, by rw [e7]; rfl, ?_⟩
            refine mx_J.step (sn_84 40) (fun _ _ => rfl) ?_
            refine JgetR (g := 0) (b := 49) hx (show mx_Sn _ _ 41 (mx_getf 10 0 44) from sn_84 41) a48 s48 rfl rfl (hG.prr 48 0 rfl) ?_
            refine mx_J.step (sn_84 44) (fun _ _ => rfl) ?_
            refine mx_J.step (sn_84 45) (fun _ _ => rfl) ?_
            refine Jl2i (show mx_Sn _ _ 46 (mx_l2i 47) from sn_84 46) (Jnorm fun y9 hy9 hq9 => ?_)
            refine Ji2bX (show mx_Sn _ _ 47 (mx_i2b 48) from sn_84 47) (fun y10 hy10 => ?_)
            refine Ji2l (show mx_Sn _ _ 48 (mx_i2l 49) from sn_84 48) (by omega) ?_
            refine JlastL hx (show mx_Sn _ _ 49 (mx_last 1 50) from sn_84 49) a49 s49 rfl (by omega) (fun Z11 h11 hx11 hE11 => ?_)
            have hG11 := GI_up hG hE11 (show (-9223372036854775808) ≤ y10 ∧ y10 ≤ 9223372036854775807 by omega) trivial rfl
            refine mx_J.step (sn_84 50) (fun _ _ => rfl) ?_
            exact c85 Z11 h11 hx11 hG11 (fr_tr (M := [(49, (-1))]) fr_rf (fr_ua hE11) (M1 := []) rfl rfl)
          · refine ⟨53, by rw [e7]; rfl, ?_⟩
            refine mx_J.step (sn_84 53) (fun _ _ => rfl) ?_
            refine JgetR (g := 0) (b := 49) hx (show mx_Sn _ _ 54 (mx_getf 10 0 57) from sn_84 54) a48 s48 rfl rfl (hG.prr 48 0 rfl) ?_
            refine mx_J.step (sn_84 57) (fun _ _ => rfl) ?_
            refine mx_J.step (sn_84 58) (fun _ _ => rfl) ?_
            refine Jl2i (show mx_Sn _ _ 59 (mx_l2i 60) from sn_84 59) (Jnorm fun y12 hy12 hq12 => ?_)
            refine Ji2sX (show mx_Sn _ _ 60 (mx_i2s 61) from sn_84 60) (fun y13 hy13 => ?_)
            refine Ji2l (show mx_Sn _ _ 61 (mx_i2l 62) from sn_84 61) (by omega) ?_
            refine JlastL hx (show mx_Sn _ _ 62 (mx_last 1 63) from sn_84 62) a49 s49 rfl (by omega) (fun Z14 h14 hx14 hE14 => ?_)
            have hG14 := GI_up hG hE14 (show (-9223372036854775808) ≤ y13 ∧ y13 ≤ 9223372036854775807 by omega) trivial rfl
            refine mx_J.step (sn_84 63) (fun _ _ => rfl) ?_
            exact c85 Z14 h14 hx14 hG14 (fr_tr (M := [(49, (-1))]) fr_rf (fr_ua hE14) (M1 := []) rfl rfl)
          · refine ⟨66, by rw [e7]; rfl, ?_⟩
            refine mx_J.step (sn_84 66) (fun _ _ => rfl) ?_
            refine JgetR (g := 0) (b := 49) hx (show mx_Sn _ _ 67 (mx_getf 10 0 70) from sn_84 67) a48 s48 rfl rfl (hG.prr 48 0 rfl) ?_
            refine mx_J.step (sn_84 70) (fun _ _ => rfl) ?_
            refine mx_J.step (sn_84 71) (fun _ _ => rfl) ?_
            refine Jl2i (show mx_Sn _ _ 72 (mx_l2i 73) from sn_84 72) (Jnorm fun y15 hy15 hq15 => ?_)
            refine Ji2l (show mx_Sn _ _ 73 (mx_i2l 74) from sn_84 73) (by omega) ?_
            refine JlastL hx (show mx_Sn _ _ 74 (mx_last 1 75) from sn_84 74) a49 s49 rfl (by omega) (fun Z16 h16 hx16 hE16 => ?_)
            have hG16 := GI_up hG hE16 (show (-9223372036854775808) ≤ y15 ∧ y15 ≤ 9223372036854775807 by omega) trivial rfl
            refine mx_J.step (sn_84 75) (fun _ _ => rfl) ?_
            exact c85 Z16 h16 hx16 hG16 (fr_tr (M := [(49, (-1))]) fr_rf (fr_ua hE16) (M1 := []) rfl rfl)
      · skip
        exact c10 
theorem ct_84_48 {l : Launch} {D : va_G} {b0 : Nat} {ad : Nat → Nat} {Hb : Heap} {tau : Nat → Int64} {d n s : Nat} {S : Nat → xS} {Z : xZ} {h : mx_H} (hx : XH n s S Z h) (hG : GI n S Z) {x0 x1 : Int} (p0 : (-2147483648) ≤ x0 ∧ x0 ≤ 2147483647) (p1 : (-9223372036854775808) ≤ x1 ∧ x1 ≤ 9223372036854775807) : ∃ (Z' : xZ) (h' : mx_H), mx_Ca (tB l D b0 ad Hb tau) (d + 1) 84 [.ref 48, xI x0, xL x1] h (none, h') ∧ XH n s S Z' h' ∧ GI n S Z' ∧ fr' [(49, (-1))] Z Z' := by
  obtain ⟨r, hca, Z', h', e, q⟩ := Jmt (B := tB l D b0 ad Hb tau) (M := mt_84) (mi := 84) (as := [.ref 48, xI x0, xL x1]) (d := d + 0) (ls := [some (.ref 48), some (xI x0), some (xL x1), none]) rfl rfl rfl rfl rfl rfl (cw_84_48 (l := l) (D := D) (b0 := b0) (ad := ad) (Hb := Hb) (tau := tau) (d := d) (Post := fun r => ∃ (Z' : xZ) (h' : mx_H), r = (none, h') ∧ XH n s S Z' h' ∧ GI n S Z' ∧ fr' [(49, (-1))] Z Z') hx hG p0 p1 (fun Z' h' q1 q2 q3 => ⟨Z', h', rfl, q1, q2, q3⟩))
  subst e; exact ⟨Z', h', hca, q⟩
set_option maxRecDepth 100000 in
theorem cw_285_49 {l : Launch} {D : va_G} {b0 : Nat} {ad : Nat → Nat} {Hb : Heap} {tau : Nat → Int64} {d n s : Nat} {S : Nat → xS} {Z : xZ} {h : mx_H} {Post : mx_R → Prop} (hx : XH n s S Z h) (hG : GI n S Z) {x0 : Int} (p0 : (-9223372036854775808) ≤ x0 ∧ x0 ≤ 9223372036854775807) (hP : ∀ (Z' : xZ) (h' : mx_H), XH n s S Z' h' → GI n S Z' → fr' [(49, (-1))] Z Z' → Post (none, h')) : mx_J (tB l D b0 ad Hb tau) mt_285 (d + 0) 0 [some (.ref 49), some (xL x0), none, none, none] [] h Post := by
    have a49 : 49 < n := lt83 hG.1 rfl
    have s49 : S 49 = .inr (.long, 40, 1) := hG.2.1 49 rfl
    refine JcI (z := 0) (show mx_Sn _ _ 0 (mx_const (.int 0) 1) from sn_285 0) rfl ?_
    refine mx_J.step (ls2 := [some (.ref 49), some (xL x0), none, some (xI 0), none]) (sn_285 1) (fun _ _ => rfl) ?_
    refine mx_J.step (sn_285 2) (fun _ _ => rfl) ?_
    refine JalenI (z := 40) hx (show mx_Sn _ _ 3 (mx_alen 4) from sn_285 3) a49 s49 (by decide) rfl ?_
    refine mx_J.step (ls2 := [some (.ref 49), some (xL x0), none, some (xI 0), some (xI 40)]) (sn_285 4) (fun _ _ => rfl) ?_
    have c6 : ∀ (m1 : Nat) (w1_3 : Int) (Z2 : xZ) (h2 : mx_H), 40 - w1_3 < (m1 : Int) → 0 ≤ w1_3 ∧ w1_3 ≤ 40 → XH n s S Z2 h2 → GI n S Z2 → fr' [(49, (-1))] Z Z2 → mx_J (tB l D b0 ad Hb tau) mt_285 (d + 0) 6 [some (.ref 49), some (xL x0), none, some (xI w1_3), some (xI 40)] [] h2 Post := by
      intro m1
      induction m1 with
      | zero => intro w1_3 Z2 h2 q1 f1_0 hx2 hG2 hf2; exact absurd q1 (by omega)
      | succ m1 ih1 =>
        intro w1_3 Z2 h2 q1 f1_0 hx2 hG2 hf2
        refine mx_J.step (sn_285 6) (fun _ _ => rfl) ?_
        refine mx_J.step (sn_285 7) (fun _ _ => rfl) ?_
        refine Jicmp_ge (show mx_Sn _ _ 9 (mx_icmp_ge 22 12) from sn_285 9) (by omega) (by omega) (fun q3 => ?_) (fun q3 => ?_)
        · skip
          exact mx_J.ret (sn_285 22) (fun _ _ => rfl) (hP Z2 h2 hx2 hG2 (fr_tr (M := [(49, (-1))]) fr_rf (hf2) (M1 := []) rfl rfl))
        · skip
          refine mx_J.step (sn_285 12) (fun _ _ => rfl) ?_
          refine mx_J.step (sn_285 13) (fun _ _ => rfl) ?_
          refine mx_J.step (sn_285 14) (fun _ _ => rfl) ?_
          refine JlastL hx2 (show mx_Sn _ _ 15 (mx_last 1 16) from sn_285 15) a49 s49 rfl (by omega) (fun Z4 h4 hx4 hE4 => ?_)
          have hG4 := GI_up hG2 hE4 (show (-9223372036854775808) ≤ x0 ∧ x0 ≤ 9223372036854775807 by omega) trivial rfl
          refine Jiinc (z := w1_3) (cz := 1) (ls2 := [some (.ref 49), some (xL x0), none, some (xI (w1_3 + 1)), some (xI 40)]) (show mx_Sn _ _ 16 (mx_iinc 3 1 19) from sn_285 16) rfl rfl rfl rfl ?_
          refine mx_J.step (sn_285 19) (fun _ _ => rfl) ?_
          exact ih1 (w1_3 + 1) Z4 h4 (by omega) (by omega) hx4 hG4 (fr_tr (M := [(49, (-1))]) (fr_tr (M := [(49, (-1))]) fr_rf (hf2) (M1 := []) rfl rfl) (fr_ua hE4) rfl rfl)
    exact c6 (Int.toNat (40 - 0) + 1) 0 Z h (by omega) (by omega) hx hG fr_rf
theorem ct_285_49 {l : Launch} {D : va_G} {b0 : Nat} {ad : Nat → Nat} {Hb : Heap} {tau : Nat → Int64} {d n s : Nat} {S : Nat → xS} {Z : xZ} {h : mx_H} (hx : XH n s S Z h) (hG : GI n S Z) {x0 : Int} (p0 : (-9223372036854775808) ≤ x0 ∧ x0 ≤ 9223372036854775807) : ∃ (Z' : xZ) (h' : mx_H), mx_Ca (tB l D b0 ad Hb tau) (d + 1) 285 [.ref 49, xL x0] h (none, h') ∧ XH n s S Z' h' ∧ GI n S Z' ∧ fr' [(49, (-1))] Z Z' := by
  obtain ⟨r, hca, Z', h', e, q⟩ := Jmt (B := tB l D b0 ad Hb tau) (M := mt_285) (mi := 285) (as := [.ref 49, xL x0]) (d := d + 0) (ls := [some (.ref 49), some (xL x0), none, none, none]) rfl rfl rfl rfl rfl rfl (cw_285_49 (l := l) (D := D) (b0 := b0) (ad := ad) (Hb := Hb) (tau := tau) (d := d) (Post := fun r => ∃ (Z' : xZ) (h' : mx_H), r = (none, h') ∧ XH n s S Z' h' ∧ GI n S Z' ∧ fr' [(49, (-1))] Z Z') hx hG p0 (fun Z' h' q1 q2 q3 => ⟨Z', h', rfl, q1, q2, q3⟩))
  subst e; exact ⟨Z', h', hca, q⟩
set_option maxRecDepth 100000 in
theorem cw_83_48 {l : Launch} {D : va_G} {b0 : Nat} {ad : Nat → Nat} {Hb : Heap} {tau : Nat → Int64} {d n s : Nat} {S : Nat → xS} {Z : xZ} {h : mx_H} {Post : mx_R → Prop} (hx : XH n s S Z h) (hG : GI n S Z) {x0 x1 : Int} (p0 : 0 ≤ x0 ∧ x0 ≤ 3) (p1 : 0 ≤ x1 ∧ x1 ≤ 40) (hP : ∀ (Z' : xZ) (h' : mx_H), XH n s S Z' h' → GI n S Z' → fr' [(48, 1), (48, 2), (48, 3), (49, (-1))] Z Z' → Post (none, h')) : mx_J (tB l D b0 ad Hb tau) mt_83 (d + 1) 0 [some (.ref 48), some (xI x0), some (xI x1)] [] h Post := by
    have a48 : 48 < n := lt83 hG.1 rfl
    have s48 : S 48 = .inl (10, [2, 0, 0, 0]) := hG.2.1 48 rfl
    refine mx_J.step (sn_83 0) (fun _ _ => rfl) ?_
    refine mx_J.step (sn_83 1) (fun _ _ => rfl) ?_
    refine JputI (g := 1) hx (show mx_Sn _ _ 2 (mx_putf 1 10 1 (.int) 5) from sn_83 2) a48 s48 rfl rfl rfl rfl (fun Z1 h1 hx1 hE1 => ?_)
    have hG1 := GI_up hG hE1 (show 0 ≤ x0 ∧ x0 ≤ 3 by omega) trivial rfl
    refine mx_J.step (sn_83 5) (fun _ _ => rfl) ?_
    refine mx_J.step (sn_83 6) (fun _ _ => rfl) ?_
    refine JputI (g := 2) hx1 (show mx_Sn _ _ 7 (mx_putf 1 10 2 (.int) 10) from sn_83 7) a48 s48 rfl rfl rfl rfl (fun Z2 h2 hx2 hE2 => ?_)
    have hG2 := GI_up hG1 hE2 (show 0 ≤ x1 ∧ x1 ≤ 40 by omega) trivial rfl
    refine mx_J.step (sn_83 10) (fun _ _ => rfl) ?_
    refine JcI (z := 0) (show mx_Sn _ _ 11 (mx_const (.int 0) 12) from sn_83 11) rfl ?_
    refine JputI (g := 3) hx2 (show mx_Sn _ _ 12 (mx_putf 1 10 3 (.boolean) 15) from sn_83 12) a48 s48 rfl rfl (fit_z (by omega)) rfl (fun Z3 h3 hx3 hE3 => ?_)
    have hG3 := GI_up hG2 hE3 (show 0 ≤ 0 ∧ 0 ≤ 1 by omega) trivial rfl
    refine mx_J.step (sn_83 15) (fun _ _ => rfl) ?_
    refine JgetR (g := 0) (b := 49) hx3 (show mx_Sn _ _ 16 (mx_getf 10 0 19) from sn_83 16) a48 s48 rfl rfl (hG3.prr 48 0 rfl) ?_
    refine JcL (z := 0) (show mx_Sn _ _ 19 (mx_const (.long 0) 20) from sn_83 19) rfl ?_
    obtain ⟨Z4, h4, hc4, hx4, hG4, hf4⟩ := ct_285_49 (d := d + 0) (l := l) (D := D) (b0 := b0) (ad := ad) (Hb := Hb) (tau := tau) hx3 hG3 (show (-9223372036854775808) ≤ 0 ∧ 0 ≤ 9223372036854775807 by omega)
    refine Jcs0 (show mx_Sn _ _ 20 (mx_calls 285 2 23) from sn_83 20) hc4 rfl rfl rfl ?_
    exact mx_J.ret (sn_83 23) (fun _ _ => rfl) (hP Z4 h4 hx4 hG4 (fr_tr (M := [(48, 1), (48, 2), (48, 3), (49, (-1))]) (fr_tr (M := [(48, 1), (48, 2), (48, 3), (49, (-1))]) (fr_tr (M := [(48, 1), (48, 2), (48, 3), (49, (-1))]) (fr_tr (M := [(48, 1), (48, 2), (48, 3), (49, (-1))]) fr_rf (fr_up hE1) (M1 := []) rfl rfl) (fr_up hE2) rfl rfl) (fr_up hE3) rfl rfl) (hf4) rfl rfl))
theorem ct_83_48 {l : Launch} {D : va_G} {b0 : Nat} {ad : Nat → Nat} {Hb : Heap} {tau : Nat → Int64} {d n s : Nat} {S : Nat → xS} {Z : xZ} {h : mx_H} (hx : XH n s S Z h) (hG : GI n S Z) {x0 x1 : Int} (p0 : 0 ≤ x0 ∧ x0 ≤ 3) (p1 : 0 ≤ x1 ∧ x1 ≤ 40) : ∃ (Z' : xZ) (h' : mx_H), mx_Ca (tB l D b0 ad Hb tau) (d + 2) 83 [.ref 48, xI x0, xI x1] h (none, h') ∧ XH n s S Z' h' ∧ GI n S Z' ∧ fr' [(48, 1), (48, 2), (48, 3), (49, (-1))] Z Z' := by
  obtain ⟨r, hca, Z', h', e, q⟩ := Jmt (B := tB l D b0 ad Hb tau) (M := mt_83) (mi := 83) (as := [.ref 48, xI x0, xI x1]) (d := d + 1) (ls := [some (.ref 48), some (xI x0), some (xI x1)]) rfl rfl rfl rfl rfl rfl (cw_83_48 (l := l) (D := D) (b0 := b0) (ad := ad) (Hb := Hb) (tau := tau) (d := d) (Post := fun r => ∃ (Z' : xZ) (h' : mx_H), r = (none, h') ∧ XH n s S Z' h' ∧ GI n S Z' ∧ fr' [(48, 1), (48, 2), (48, 3), (49, (-1))] Z Z') hx hG p0 p1 (fun Z' h' q1 q2 q3 => ⟨Z', h', rfl, q1, q2, q3⟩))
  subst e; exact ⟨Z', h', hca, q⟩
set_option maxRecDepth 100000 in
theorem cw_85_50 {l : Launch} {D : va_G} {b0 : Nat} {ad : Nat → Nat} {Hb : Heap} {tau : Nat → Int64} {d n s : Nat} {S : Nat → xS} {Z : xZ} {h : mx_H} {Post : mx_R → Prop} (hx : XH n s S Z h) (hG : GI n S Z) {x0 : Int} (p0 : (-2147483648) ≤ x0 ∧ x0 ≤ 2147483647) (hP : ∀ z : Int, (-9223372036854775808) ≤ z ∧ z ≤ 9223372036854775807 → Post (some (xL z), h)) : mx_J (tB l D b0 ad Hb tau) mt_85 (d + 0) 0 [some (.ref 50), some (xI x0)] [] h Post := by
    have a50 : 50 < n := lt83 hG.1 rfl
    have s50 : S 50 = .inl (10, [2, 0, 0, 0]) := hG.2.1 50 rfl
    have a51 : 51 < n := lt83 hG.1 rfl
    have s51 : S 51 = .inr (.long, 40, 1) := hG.2.1 51 rfl
    refine mx_J.step (sn_85 0) (fun _ _ => rfl) ?_
    have c20 : ∀ (k1_0 : Int), (-9223372036854775808) ≤ k1_0 ∧ k1_0 ≤ 9223372036854775807 → mx_J (tB l D b0 ad Hb tau) mt_85 (d + 0) 20 [some (.ref 50), some (xI x0)] [xL k1_0] h Post := by
      intro k1_0 f1_0
      exact mx_J.ret (sn_85 20) (fun _ _ => rfl) (hP k1_0 (by omega))
    have c10 : mx_J (tB l D b0 ad Hb tau) mt_85 (d + 0) 10 [some (.ref 50), some (xI x0)] [] h Post := by
      refine JcL (z := 0) (show mx_Sn _ _ 10 (mx_const (.long 0) 11) from sn_85 10) rfl ?_
      refine mx_J.step (sn_85 11) (fun _ _ => rfl) ?_
      exact c20 0 (by omega)
    refine Jif_lt (show mx_Sn _ _ 1 (mx_if_lt 10 4) from sn_85 1) (by omega) (fun q3 => ?_) (fun q3 => ?_)
    · skip
      exact c10 
    · skip
      refine mx_J.step (sn_85 4) (fun _ _ => rfl) ?_
      refine JcI (z := 40) (show mx_Sn _ _ 5 (mx_const (.int 40) 7) from sn_85 5) rfl ?_
      refine Jicmp_lt (show mx_Sn _ _ 7 (mx_icmp_lt 14 10) from sn_85 7) (by omega) (by omega) (fun q4 => ?_) (fun q4 => ?_)
      · skip
        refine mx_J.step (sn_85 14) (fun _ _ => rfl) ?_
        refine JgetR (g := 0) (b := 51) hx (show mx_Sn _ _ 15 (mx_getf 10 0 18) from sn_85 15) a50 s50 rfl rfl (hG.prr 50 0 rfl) ?_
        refine mx_J.step (sn_85 18) (fun _ _ => rfl) ?_
        have b5 : (-9223372036854775808) ≤ Z 51 x0 ∧ Z 51 x0 ≤ 9223372036854775807 := hG.pr 51 x0
        refine JlaldL (z := Z 51 x0) hx (show mx_Sn _ _ 19 (mx_lald 20) from sn_85 19) a51 s51 (by omega) rfl ?_
        exact c20 (Z 51 x0) (by omega)
      · skip
        exact c10 
theorem ct_85_50 {l : Launch} {D : va_G} {b0 : Nat} {ad : Nat → Nat} {Hb : Heap} {tau : Nat → Int64} {d n s : Nat} {S : Nat → xS} {Z : xZ} {h : mx_H} (hx : XH n s S Z h) (hG : GI n S Z) {x0 : Int} (p0 : (-2147483648) ≤ x0 ∧ x0 ≤ 2147483647) : ∃ z : Int, mx_Ca (tB l D b0 ad Hb tau) (d + 1) 85 [.ref 50, xI x0] h (some (xL z), h) ∧ ((-9223372036854775808) ≤ z ∧ z ≤ 9223372036854775807) := by
  obtain ⟨r, hca, z, e, hp⟩ := Jmt (B := tB l D b0 ad Hb tau) (M := mt_85) (mi := 85) (as := [.ref 50, xI x0]) (d := d + 0) (ls := [some (.ref 50), some (xI x0)]) rfl rfl rfl rfl rfl rfl (cw_85_50 (l := l) (D := D) (b0 := b0) (ad := ad) (Hb := Hb) (tau := tau) (d := d) (Post := fun r => ∃ z : Int, r = (some (xL z), h) ∧ ((-9223372036854775808) ≤ z ∧ z ≤ 9223372036854775807)) hx hG p0 (fun z hz => ⟨z, rfl, hz⟩))
  subst e; exact ⟨z, hca, hp⟩
set_option maxRecDepth 100000 in
theorem cw_86_50 {l : Launch} {D : va_G} {b0 : Nat} {ad : Nat → Nat} {Hb : Heap} {tau : Nat → Int64} {d n s : Nat} {S : Nat → xS} {Z : xZ} {h : mx_H} {Post : mx_R → Prop} (hx : XH n s S Z h) (hG : GI n S Z) {x0 x1 : Int} (p0 : (-9223372036854775808) ≤ x0 ∧ x0 ≤ 9223372036854775807) (p1 : (-9223372036854775808) ≤ x1 ∧ x1 ≤ 9223372036854775807) (hP : ∀ z : Int, 0 ≤ z ∧ z ≤ 1 → Post (some (xI z), h)) : mx_J (tB l D b0 ad Hb tau) mt_86 (d + 0) 0 [some (.ref 50), some (xL x0), none, some (xL x1), none, none] [] h Post := by
    have a50 : 50 < n := lt83 hG.1 rfl
    have s50 : S 50 = .inl (10, [2, 0, 0, 0]) := hG.2.1 50 rfl
    have a51 : 51 < n := lt83 hG.1 rfl
    have s51 : S 51 = .inr (.long, 40, 1) := hG.2.1 51 rfl
    refine JcI (z := 0) (show mx_Sn _ _ 0 (mx_const (.int 0) 1) from sn_86 0) rfl ?_
    refine mx_J.step (ls2 := [some (.ref 50), some (xL x0), none, some (xL x1), none, some (xI 0)]) (sn_86 1) (fun _ _ => rfl) ?_
    have c3 : ∀ (m1 : Nat) (w1_5 : Int), 40 - w1_5 < (m1 : Int) → 0 ≤ w1_5 ∧ w1_5 ≤ 40 → mx_J (tB l D b0 ad Hb tau) mt_86 (d + 0) 3 [some (.ref 50), some (xL x0), none, some (xL x1), none, some (xI w1_5)] [] h Post := by
      intro m1
      induction m1 with
      | zero => intro w1_5 q1 f1_0; exact absurd q1 (by omega)
      | succ m1 ih1 =>
        intro w1_5 q1 f1_0
        refine mx_J.step (sn_86 3) (fun _ _ => rfl) ?_
        refine mx_J.step (sn_86 5) (fun _ _ => rfl) ?_
        have b2 : 0 ≤ Z 50 2 ∧ Z 50 2 ≤ 40 := hG.pr 50 2
        refine JgetI (g := 2) (z := Z 50 2) hx (show mx_Sn _ _ 6 (mx_getf 10 2 9) from sn_86 6) a50 s50 rfl rfl rfl ?_
        refine Jicmp_ge (show mx_Sn _ _ 9 (mx_icmp_ge 44 12) from sn_86 9) (by omega) (by omega) (fun q3 => ?_) (fun q3 => ?_)
        · skip
          refine JcI (z := 1) (show mx_Sn _ _ 44 (mx_const (.int 1) 45) from sn_86 44) rfl ?_
          exact mx_J.ret (show mx_Sn _ _ 45 (mx_zret) from sn_86 45) (fun _ _ => zr_ok (by omega)) (hP 1 (by omega))
        · skip
          refine mx_J.step (sn_86 12) (fun _ _ => rfl) ?_
          refine JgetR (g := 0) (b := 51) hx (show mx_Sn _ _ 13 (mx_getf 10 0 16) from sn_86 13) a50 s50 rfl rfl (hG.prr 50 0 rfl) ?_
          refine mx_J.step (sn_86 16) (fun _ _ => rfl) ?_
          have b4 : (-9223372036854775808) ≤ Z 51 w1_5 ∧ Z 51 w1_5 ≤ 9223372036854775807 := hG.pr 51 w1_5
          refine JlaldL (z := Z 51 w1_5) hx (show mx_Sn _ _ 18 (mx_lald 19) from sn_86 18) a51 s51 (by omega) rfl ?_
          refine mx_J.step (sn_86 19) (fun _ _ => rfl) ?_
          have c36 : mx_J (tB l D b0 ad Hb tau) mt_86 (d + 0) 36 [some (.ref 50), some (xL x0), none, some (xL x1), none, some (xI w1_5)] [] h Post := by
            refine JcI (z := 0) (show mx_Sn _ _ 36 (mx_const (.int 0) 37) from sn_86 36) rfl ?_
            exact mx_J.ret (show mx_Sn _ _ 37 (mx_zret) from sn_86 37) (fun _ _ => zr_ok (by omega)) (hP 0 (by omega))
          refine Jlif_lt (show mx_Sn _ _ 20 (mx_lif_lt 36 24) from sn_86 20) (by omega) (by omega) (fun q6 => ?_) (fun q6 => ?_)
          · skip
            exact c36 
          · skip
            refine mx_J.step (sn_86 24) (fun _ _ => rfl) ?_
            refine JgetR (g := 0) (b := 51) hx (show mx_Sn _ _ 25 (mx_getf 10 0 28) from sn_86 25) a50 s50 rfl rfl (hG.prr 50 0 rfl) ?_
            refine mx_J.step (sn_86 28) (fun _ _ => rfl) ?_
            have b7 : (-9223372036854775808) ≤ Z 51 w1_5 ∧ Z 51 w1_5 ≤ 9223372036854775807 := hG.pr 51 w1_5
            refine JlaldL (z := Z 51 w1_5) hx (show mx_Sn _ _ 30 (mx_lald 31) from sn_86 30) a51 s51 (by omega) rfl ?_
            refine mx_J.step (sn_86 31) (fun _ _ => rfl) ?_
            refine Jlif_le (show mx_Sn _ _ 32 (mx_lif_le 38 36) from sn_86 32) (by omega) (by omega) (fun q8 => ?_) (fun q8 => ?_)
            · skip
              refine Jiinc (z := w1_5) (cz := 1) (ls2 := [some (.ref 50), some (xL x0), none, some (xL x1), none, some (xI (w1_5 + 1))]) (show mx_Sn _ _ 38 (mx_iinc 5 1 41) from sn_86 38) rfl rfl rfl rfl ?_
              refine mx_J.step (sn_86 41) (fun _ _ => rfl) ?_
              exact ih1 (w1_5 + 1) (by omega) (by omega)
            · skip
              exact c36 
    exact c3 (Int.toNat (40 - 0) + 1) 0 (by omega) (by omega)
theorem ct_86_50 {l : Launch} {D : va_G} {b0 : Nat} {ad : Nat → Nat} {Hb : Heap} {tau : Nat → Int64} {d n s : Nat} {S : Nat → xS} {Z : xZ} {h : mx_H} (hx : XH n s S Z h) (hG : GI n S Z) {x0 x1 : Int} (p0 : (-9223372036854775808) ≤ x0 ∧ x0 ≤ 9223372036854775807) (p1 : (-9223372036854775808) ≤ x1 ∧ x1 ≤ 9223372036854775807) : ∃ z : Int, mx_Ca (tB l D b0 ad Hb tau) (d + 1) 86 [.ref 50, xL x0, xL x1] h (some (xI z), h) ∧ (0 ≤ z ∧ z ≤ 1) := by
  obtain ⟨r, hca, z, e, hp⟩ := Jmt (B := tB l D b0 ad Hb tau) (M := mt_86) (mi := 86) (as := [.ref 50, xL x0, xL x1]) (d := d + 0) (ls := [some (.ref 50), some (xL x0), none, some (xL x1), none, none]) rfl rfl rfl rfl rfl rfl (cw_86_50 (l := l) (D := D) (b0 := b0) (ad := ad) (Hb := Hb) (tau := tau) (d := d) (Post := fun r => ∃ z : Int, r = (some (xI z), h) ∧ (0 ≤ z ∧ z ≤ 1)) hx hG p0 p1 (fun z hz => ⟨z, rfl, hz⟩))
  subst e; exact ⟨z, hca, hp⟩
set_option maxRecDepth 100000 in
theorem cw_87_50 {l : Launch} {D : va_G} {b0 : Nat} {ad : Nat → Nat} {Hb : Heap} {tau : Nat → Int64} {d n s : Nat} {S : Nat → xS} {Z : xZ} {h : mx_H} {Post : mx_R → Prop} (hx : XH n s S Z h) (hG : GI n S Z) {x0 : Int} (p0 : (-9223372036854775808) ≤ x0 ∧ x0 ≤ 9223372036854775807) (hP : ∀ z : Int, 0 ≤ z ∧ z ≤ 1 → Post (some (xI z), h)) : mx_J (tB l D b0 ad Hb tau) mt_87 (d + 0) 0 [some (.ref 50), some (xL x0), none, none] [] h Post := by
    have a50 : 50 < n := lt83 hG.1 rfl
    have s50 : S 50 = .inl (10, [2, 0, 0, 0]) := hG.2.1 50 rfl
    have a51 : 51 < n := lt83 hG.1 rfl
    have s51 : S 51 = .inr (.long, 40, 1) := hG.2.1 51 rfl
    refine JcI (z := 0) (show mx_Sn _ _ 0 (mx_const (.int 0) 1) from sn_87 0) rfl ?_
    refine mx_J.step (ls2 := [some (.ref 50), some (xL x0), none, some (xI 0)]) (sn_87 1) (fun _ _ => rfl) ?_
    have c2 : ∀ (m1 : Nat) (w1_3 : Int), 40 - w1_3 < (m1 : Int) → 0 ≤ w1_3 ∧ w1_3 ≤ 40 → mx_J (tB l D b0 ad Hb tau) mt_87 (d + 0) 2 [some (.ref 50), some (xL x0), none, some (xI w1_3)] [] h Post := by
      intro m1
      induction m1 with
      | zero => intro w1_3 q1 f1_0; exact absurd q1 (by omega)
      | succ m1 ih1 =>
        intro w1_3 q1 f1_0
        refine mx_J.step (sn_87 2) (fun _ _ => rfl) ?_
        refine mx_J.step (sn_87 3) (fun _ _ => rfl) ?_
        have b2 : 0 ≤ Z 50 2 ∧ Z 50 2 ≤ 40 := hG.pr 50 2
        refine JgetI (g := 2) (z := Z 50 2) hx (show mx_Sn _ _ 4 (mx_getf 10 2 7) from sn_87 4) a50 s50 rfl rfl rfl ?_
        refine Jicmp_ge (show mx_Sn _ _ 7 (mx_icmp_ge 29 10) from sn_87 7) (by omega) (by omega) (fun q3 => ?_) (fun q3 => ?_)
        · skip
          refine JcI (z := 0) (show mx_Sn _ _ 29 (mx_const (.int 0) 30) from sn_87 29) rfl ?_
          exact mx_J.ret (show mx_Sn _ _ 30 (mx_zret) from sn_87 30) (fun _ _ => zr_ok (by omega)) (hP 0 (by omega))
        · skip
          refine mx_J.step (sn_87 10) (fun _ _ => rfl) ?_
          refine JgetR (g := 0) (b := 51) hx (show mx_Sn _ _ 11 (mx_getf 10 0 14) from sn_87 11) a50 s50 rfl rfl (hG.prr 50 0 rfl) ?_
          refine mx_J.step (sn_87 14) (fun _ _ => rfl) ?_
          have b4 : (-9223372036854775808) ≤ Z 51 w1_3 ∧ Z 51 w1_3 ≤ 9223372036854775807 := hG.pr 51 w1_3
          refine JlaldL (z := Z 51 w1_3) hx (show mx_Sn _ _ 15 (mx_lald 16) from sn_87 15) a51 s51 (by omega) rfl ?_
          refine mx_J.step (sn_87 16) (fun _ _ => rfl) ?_
          refine Jlif_ne (show mx_Sn _ _ 17 (mx_lif_ne 23 21) from sn_87 17) (by omega) (by omega) (fun q5 => ?_) (fun q5 => ?_)
          · skip
            refine Jiinc (z := w1_3) (cz := 1) (ls2 := [some (.ref 50), some (xL x0), none, some (xI (w1_3 + 1))]) (show mx_Sn _ _ 23 (mx_iinc 3 1 26) from sn_87 23) rfl rfl rfl rfl ?_
            refine mx_J.step (sn_87 26) (fun _ _ => rfl) ?_
            exact ih1 (w1_3 + 1) (by omega) (by omega)
          · skip
            refine JcI (z := 1) (show mx_Sn _ _ 21 (mx_const (.int 1) 22) from sn_87 21) rfl ?_
            exact mx_J.ret (show mx_Sn _ _ 22 (mx_zret) from sn_87 22) (fun _ _ => zr_ok (by omega)) (hP 1 (by omega))
    exact c2 (Int.toNat (40 - 0) + 1) 0 (by omega) (by omega)
theorem ct_87_50 {l : Launch} {D : va_G} {b0 : Nat} {ad : Nat → Nat} {Hb : Heap} {tau : Nat → Int64} {d n s : Nat} {S : Nat → xS} {Z : xZ} {h : mx_H} (hx : XH n s S Z h) (hG : GI n S Z) {x0 : Int} (p0 : (-9223372036854775808) ≤ x0 ∧ x0 ≤ 9223372036854775807) : ∃ z : Int, mx_Ca (tB l D b0 ad Hb tau) (d + 1) 87 [.ref 50, xL x0] h (some (xI z), h) ∧ (0 ≤ z ∧ z ≤ 1) := by
  obtain ⟨r, hca, z, e, hp⟩ := Jmt (B := tB l D b0 ad Hb tau) (M := mt_87) (mi := 87) (as := [.ref 50, xL x0]) (d := d + 0) (ls := [some (.ref 50), some (xL x0), none, none]) rfl rfl rfl rfl rfl rfl (cw_87_50 (l := l) (D := D) (b0 := b0) (ad := ad) (Hb := Hb) (tau := tau) (d := d) (Post := fun r => ∃ z : Int, r = (some (xI z), h) ∧ (0 ≤ z ∧ z ≤ 1)) hx hG p0 (fun z hz => ⟨z, rfl, hz⟩))
  subst e; exact ⟨z, hca, hp⟩
set_option maxRecDepth 100000 in
theorem cw_84_50 {l : Launch} {D : va_G} {b0 : Nat} {ad : Nat → Nat} {Hb : Heap} {tau : Nat → Int64} {d n s : Nat} {S : Nat → xS} {Z : xZ} {h : mx_H} {Post : mx_R → Prop} (hx : XH n s S Z h) (hG : GI n S Z) {x0 x1 : Int} (p0 : (-2147483648) ≤ x0 ∧ x0 ≤ 2147483647) (p1 : (-9223372036854775808) ≤ x1 ∧ x1 ≤ 9223372036854775807) (hP : ∀ (Z' : xZ) (h' : mx_H), XH n s S Z' h' → GI n S Z' → fr' [(51, (-1))] Z Z' → Post (none, h')) : mx_J (tB l D b0 ad Hb tau) mt_84 (d + 0) 0 [some (.ref 50), some (xI x0), some (xL x1), none] [] h Post := by
    have a50 : 50 < n := lt83 hG.1 rfl
    have s50 : S 50 = .inl (10, [2, 0, 0, 0]) := hG.2.1 50 rfl
    have a51 : 51 < n := lt83 hG.1 rfl
    have s51 : S 51 = .inr (.long, 40, 1) := hG.2.1 51 rfl
    refine mx_J.step (sn_84 0) (fun _ _ => rfl) ?_
    have c10 : mx_J (tB l D b0 ad Hb tau) mt_84 (d + 0) 10 [some (.ref 50), some (xI x0), some (xL x1), none] [] h Post := by
      exact mx_J.ret (sn_84 10) (fun _ _ => rfl) (hP Z h hx hG fr_rf)
    refine Jif_lt (show mx_Sn _ _ 1 (mx_if_lt 10 4) from sn_84 1) (by omega) (fun q2 => ?_) (fun q2 => ?_)
    · skip
      exact c10 
    · skip
      refine mx_J.step (sn_84 4) (fun _ _ => rfl) ?_
      refine JcI (z := 40) (show mx_Sn _ _ 5 (mx_const (.int 40) 7) from sn_84 5) rfl ?_
      refine Jicmp_lt (show mx_Sn _ _ 7 (mx_icmp_lt 11 10) from sn_84 7) (by omega) (by omega) (fun q3 => ?_) (fun q3 => ?_)
      · skip
        refine mx_J.step (sn_84 11) (fun _ _ => rfl) ?_
        have b4 : 0 ≤ Z 50 1 ∧ Z 50 1 ≤ 3 := hG.pr 50 1
        refine JgetI (g := 1) (z := Z 50 1) hx (show mx_Sn _ _ 12 (mx_getf 10 1 15) from sn_84 12) a50 s50 rfl rfl rfl ?_
        have c85 : ∀  (Z6 : xZ) (h6 : mx_H), XH n s S Z6 h6 → GI n S Z6 → fr' [(51, (-1))] Z Z6 → mx_J (tB l D b0 ad Hb tau) mt_84 (d + 0) 85 [some (.ref 50), some (xI x0), some (xL x1), none] [] h6 Post := by
          intro Z6 h6 hx6 hG6 hf6
          exact mx_J.ret (sn_84 85) (fun _ _ => rfl) (hP Z6 h6 hx6 hG6 (fr_tr (M := [(51, (-1))]) fr_rf (hf6) (M1 := []) rfl rfl))
        refine Jtsw (z := Z 50 1) (show mx_Sn _ _ 15 (mx_tsw 0 2 [40, 53, 66] 78) from sn_84 15) (by omega) (fun q7 => ?_) (fun q7 => ?_)
        · skip
          refine mx_J.step (sn_84 78) (fun _ _ => rfl) ?_
          refine JgetR (g := 0) (b := 51) hx (show mx_Sn _ _ 79 (mx_getf 10 0 82) from sn_84 79) a50 s50 rfl rfl (hG.prr 50 0 rfl) ?_
          refine mx_J.step (sn_84 82) (fun _ _ => rfl) ?_
          refine mx_J.step (sn_84 83) (fun _ _ => rfl) ?_
          refine JlastL hx (show mx_Sn _ _ 84 (mx_last 1 85) from sn_84 84) a51 s51 rfl (by omega) (fun Z8 h8 hx8 hE8 => ?_)
          have hG8 := GI_up hG hE8 (show (-9223372036854775808) ≤ x1 ∧ x1 ≤ 9223372036854775807 by omega) trivial rfl
          exact c85 Z8 h8 hx8 hG8 (fr_tr (M := [(51, (-1))]) fr_rf (fr_ua hE8) (M1 := []) rfl rfl)
        · skip
          have e7 : Z 50 1 = 0 ∨ Z 50 1 = 1 ∨ Z 50 1 = 2 := by omega
          rcases e7 with e7 | e7 | e7
          · refine ⟨40, by rw [e7]; rfl, ?_⟩
            refine mx_J.step (sn_84 40) (fun _ _ => rfl) ?_
            refine JgetR (g := 0) (b := 51) hx (show mx_Sn _ _ 41 (mx_getf 10 0 44) from sn_84 41) a50 s50 rfl rfl (hG.prr 50 0 rfl) ?_
            refine mx_J.step (sn_84 44) (fun _ _ => rfl) ?_
            refine mx_J.step (sn_84 45) (fun _ _ => rfl) ?_
            refine Jl2i (show mx_Sn _ _ 46 (mx_l2i 47) from sn_84 46) (Jnorm fun y9 hy9 hq9 => ?_)
            refine Ji2bX (show mx_Sn _ _ 47 (mx_i2b 48) from sn_84 47) (fun y10 hy10 => ?_)
            refine Ji2l (show mx_Sn _ _ 48 (mx_i2l 49) from sn_84 48) (by omega) ?_
            refine JlastL hx (show mx_Sn _ _ 49 (mx_last 1 50) from sn_84 49) a51 s51 rfl (by omega) (fun Z11 h11 hx11 hE11 => ?_)
            have hG11 := GI_up hG hE11 (show (-9223372036854775808) ≤ y10 ∧ y10 ≤ 9223372036854775807 by omega) trivial rfl
            refine mx_J.step (sn_84 50) (fun _ _ => rfl) ?_
            exact c85 Z11 h11 hx11 hG11 (fr_tr (M := [(51, (-1))]) fr_rf (fr_ua hE11) (M1 := []) rfl rfl)
          · refine ⟨53, by rw [e7]; rfl, ?_⟩
            refine mx_J.step (sn_84 53) (fun _ _ => rfl) ?_
            refine JgetR (g := 0) (b := 51) hx (show mx_Sn _ _ 54 (mx_getf 10 0 57) from sn_84 54) a50 s50 rfl rfl (hG.prr 50 0 rfl) ?_
            refine mx_J.step (sn_84 57) (fun _ _ => rfl) ?_
            refine mx_J.step (sn_84 58) (fun _ _ => rfl) ?_
            refine Jl2i (show mx_Sn _ _ 59 (mx_l2i 60) from sn_84 59) (Jnorm fun y12 hy12 hq12 => ?_)
            refine Ji2sX (show mx_Sn _ _ 60 (mx_i2s 61) from sn_84 60) (fun y13 hy13 => ?_)
            refine Ji2l (show mx_Sn _ _ 61 (mx_i2l 62) from sn_84 61) (by omega) ?_
            refine JlastL hx (show mx_Sn _ _ 62 (mx_last 1 63) from sn_84 62) a51 s51 rfl (by omega) (fun Z14 h14 hx14 hE14 => ?_)
            have hG14 := GI_up hG hE14 (show (-9223372036854775808) ≤ y13 ∧ y13 ≤ 9223372036854775807 by omega) trivial rfl
            refine mx_J.step (sn_84 63) (fun _ _ => rfl) ?_
            exact c85 Z14 h14 hx14 hG14 (fr_tr (M := [(51, (-1))]) fr_rf (fr_ua hE14) (M1 := []) rfl rfl)
          · refine ⟨66, by rw [e7]; rfl, ?_⟩
            refine mx_J.step (sn_84 66) (fun _ _ => rfl) ?_
            refine JgetR (g := 0) (b := 51) hx (show mx_Sn _ _ 67 (mx_getf 10 0 70) from sn_84 67) a50 s50 rfl rfl (hG.prr 50 0 rfl) ?_
            refine mx_J.step (sn_84 70) (fun _ _ => rfl) ?_
            refine mx_J.step (sn_84 71) (fun _ _ => rfl) ?_
            refine Jl2i (show mx_Sn _ _ 72 (mx_l2i 73) from sn_84 72) (Jnorm fun y15 hy15 hq15 => ?_)
            refine Ji2l (show mx_Sn _ _ 73 (mx_i2l 74) from sn_84 73) (by omega) ?_
            refine JlastL hx (show mx_Sn _ _ 74 (mx_last 1 75) from sn_84 74) a51 s51 rfl (by omega) (fun Z16 h16 hx16 hE16 => ?_)
            have hG16 := GI_up hG hE16 (show (-9223372036854775808) ≤ y15 ∧ y15 ≤ 9223372036854775807 by omega) trivial rfl
            refine mx_J.step (sn_84 75) (fun _ _ => rfl) ?_
            exact c85 Z16 h16 hx16 hG16 (fr_tr (M := [(51, (-1))]) fr_rf (fr_ua hE16) (M1 := []) rfl rfl)
      · skip
        exact c10 
theorem ct_84_50 {l : Launch} {D : va_G} {b0 : Nat} {ad : Nat → Nat} {Hb : Heap} {tau : Nat → Int64} {d n s : Nat} {S : Nat → xS} {Z : xZ} {h : mx_H} (hx : XH n s S Z h) (hG : GI n S Z) {x0 x1 : Int} (p0 : (-2147483648) ≤ x0 ∧ x0 ≤ 2147483647) (p1 : (-9223372036854775808) ≤ x1 ∧ x1 ≤ 9223372036854775807) : ∃ (Z' : xZ) (h' : mx_H), mx_Ca (tB l D b0 ad Hb tau) (d + 1) 84 [.ref 50, xI x0, xL x1] h (none, h') ∧ XH n s S Z' h' ∧ GI n S Z' ∧ fr' [(51, (-1))] Z Z' := by
  obtain ⟨r, hca, Z', h', e, q⟩ := Jmt (B := tB l D b0 ad Hb tau) (M := mt_84) (mi := 84) (as := [.ref 50, xI x0, xL x1]) (d := d + 0) (ls := [some (.ref 50), some (xI x0), some (xL x1), none]) rfl rfl rfl rfl rfl rfl (cw_84_50 (l := l) (D := D) (b0 := b0) (ad := ad) (Hb := Hb) (tau := tau) (d := d) (Post := fun r => ∃ (Z' : xZ) (h' : mx_H), r = (none, h') ∧ XH n s S Z' h' ∧ GI n S Z' ∧ fr' [(51, (-1))] Z Z') hx hG p0 p1 (fun Z' h' q1 q2 q3 => ⟨Z', h', rfl, q1, q2, q3⟩))
  subst e; exact ⟨Z', h', hca, q⟩
set_option maxRecDepth 100000 in
theorem cw_285_51 {l : Launch} {D : va_G} {b0 : Nat} {ad : Nat → Nat} {Hb : Heap} {tau : Nat → Int64} {d n s : Nat} {S : Nat → xS} {Z : xZ} {h : mx_H} {Post : mx_R → Prop} (hx : XH n s S Z h) (hG : GI n S Z) {x0 : Int} (p0 : (-9223372036854775808) ≤ x0 ∧ x0 ≤ 9223372036854775807) (hP : ∀ (Z' : xZ) (h' : mx_H), XH n s S Z' h' → GI n S Z' → fr' [(51, (-1))] Z Z' → Post (none, h')) : mx_J (tB l D b0 ad Hb tau) mt_285 (d + 0) 0 [some (.ref 51), some (xL x0), none, none, none] [] h Post := by
    have a51 : 51 < n := lt83 hG.1 rfl
    have s51 : S 51 = .inr (.long, 40, 1) := hG.2.1 51 rfl
    refine JcI (z := 0) (show mx_Sn _ _ 0 (mx_const (.int 0) 1) from sn_285 0) rfl ?_
    refine mx_J.step (ls2 := [some (.ref 51), some (xL x0), none, some (xI 0), none]) (sn_285 1) (fun _ _ => rfl) ?_
    refine mx_J.step (sn_285 2) (fun _ _ => rfl) ?_
    refine JalenI (z := 40) hx (show mx_Sn _ _ 3 (mx_alen 4) from sn_285 3) a51 s51 (by decide) rfl ?_
    refine mx_J.step (ls2 := [some (.ref 51), some (xL x0), none, some (xI 0), some (xI 40)]) (sn_285 4) (fun _ _ => rfl) ?_
    have c6 : ∀ (m1 : Nat) (w1_3 : Int) (Z2 : xZ) (h2 : mx_H), 40 - w1_3 < (m1 : Int) → 0 ≤ w1_3 ∧ w1_3 ≤ 40 → XH n s S Z2 h2 → GI n S Z2 → fr' [(51, (-1))] Z Z2 → mx_J (tB l D b0 ad Hb tau) mt_285 (d + 0) 6 [some (.ref 51), some (xL x0), none, some (xI w1_3), some (xI 40)] [] h2 Post := by
      intro m1
      induction m1 with
      | zero => intro w1_3 Z2 h2 q1 f1_0 hx2 hG2 hf2; exact absurd q1 (by omega)
      | succ m1 ih1 =>
        intro w1_3 Z2 h2 q1 f1_0 hx2 hG2 hf2
        refine mx_J.step (sn_285 6) (fun _ _ => rfl) ?_
        refine mx_J.step (sn_285 7) (fun _ _ => rfl) ?_
        refine Jicmp_ge (show mx_Sn _ _ 9 (mx_icmp_ge 22 12) from sn_285 9) (by omega) (by omega) (fun q3 => ?_) (fun q3 => ?_)
        · skip
          exact mx_J.ret (sn_285 22) (fun _ _ => rfl) (hP Z2 h2 hx2 hG2 (fr_tr (M := [(51, (-1))]) fr_rf (hf2) (M1 := []) rfl rfl))
        · skip
          refine mx_J.step (sn_285 12) (fun _ _ => rfl) ?_
          refine mx_J.step (sn_285 13) (fun _ _ => rfl) ?_
          refine mx_J.step (sn_285 14) (fun _ _ => rfl) ?_
          refine JlastL hx2 (show mx_Sn _ _ 15 (mx_last 1 16) from sn_285 15) a51 s51 rfl (by omega) (fun Z4 h4 hx4 hE4 => ?_)
          have hG4 := GI_up hG2 hE4 (show (-9223372036854775808) ≤ x0 ∧ x0 ≤ 9223372036854775807 by omega) trivial rfl
          refine Jiinc (z := w1_3) (cz := 1) (ls2 := [some (.ref 51), some (xL x0), none, some (xI (w1_3 + 1)), some (xI 40)]) (show mx_Sn _ _ 16 (mx_iinc 3 1 19) from sn_285 16) rfl rfl rfl rfl ?_
          refine mx_J.step (sn_285 19) (fun _ _ => rfl) ?_
          exact ih1 (w1_3 + 1) Z4 h4 (by omega) (by omega) hx4 hG4 (fr_tr (M := [(51, (-1))]) (fr_tr (M := [(51, (-1))]) fr_rf (hf2) (M1 := []) rfl rfl) (fr_ua hE4) rfl rfl)
    exact c6 (Int.toNat (40 - 0) + 1) 0 Z h (by omega) (by omega) hx hG fr_rf
theorem ct_285_51 {l : Launch} {D : va_G} {b0 : Nat} {ad : Nat → Nat} {Hb : Heap} {tau : Nat → Int64} {d n s : Nat} {S : Nat → xS} {Z : xZ} {h : mx_H} (hx : XH n s S Z h) (hG : GI n S Z) {x0 : Int} (p0 : (-9223372036854775808) ≤ x0 ∧ x0 ≤ 9223372036854775807) : ∃ (Z' : xZ) (h' : mx_H), mx_Ca (tB l D b0 ad Hb tau) (d + 1) 285 [.ref 51, xL x0] h (none, h') ∧ XH n s S Z' h' ∧ GI n S Z' ∧ fr' [(51, (-1))] Z Z' := by
  obtain ⟨r, hca, Z', h', e, q⟩ := Jmt (B := tB l D b0 ad Hb tau) (M := mt_285) (mi := 285) (as := [.ref 51, xL x0]) (d := d + 0) (ls := [some (.ref 51), some (xL x0), none, none, none]) rfl rfl rfl rfl rfl rfl (cw_285_51 (l := l) (D := D) (b0 := b0) (ad := ad) (Hb := Hb) (tau := tau) (d := d) (Post := fun r => ∃ (Z' : xZ) (h' : mx_H), r = (none, h') ∧ XH n s S Z' h' ∧ GI n S Z' ∧ fr' [(51, (-1))] Z Z') hx hG p0 (fun Z' h' q1 q2 q3 => ⟨Z', h', rfl, q1, q2, q3⟩))
  subst e; exact ⟨Z', h', hca, q⟩
set_option maxRecDepth 100000 in
theorem cw_83_50 {l : Launch} {D : va_G} {b0 : Nat} {ad : Nat → Nat} {Hb : Heap} {tau : Nat → Int64} {d n s : Nat} {S : Nat → xS} {Z : xZ} {h : mx_H} {Post : mx_R → Prop} (hx : XH n s S Z h) (hG : GI n S Z) {x0 x1 : Int} (p0 : 0 ≤ x0 ∧ x0 ≤ 3) (p1 : 0 ≤ x1 ∧ x1 ≤ 40) (hP : ∀ (Z' : xZ) (h' : mx_H), XH n s S Z' h' → GI n S Z' → fr' [(50, 1), (50, 2), (50, 3), (51, (-1))] Z Z' → Post (none, h')) : mx_J (tB l D b0 ad Hb tau) mt_83 (d + 1) 0 [some (.ref 50), some (xI x0), some (xI x1)] [] h Post := by
    have a50 : 50 < n := lt83 hG.1 rfl
    have s50 : S 50 = .inl (10, [2, 0, 0, 0]) := hG.2.1 50 rfl
    refine mx_J.step (sn_83 0) (fun _ _ => rfl) ?_
    refine mx_J.step (sn_83 1) (fun _ _ => rfl) ?_
    refine JputI (g := 1) hx (show mx_Sn _ _ 2 (mx_putf 1 10 1 (.int) 5) from sn_83 2) a50 s50 rfl rfl rfl rfl (fun Z1 h1 hx1 hE1 => ?_)
    have hG1 := GI_up hG hE1 (show 0 ≤ x0 ∧ x0 ≤ 3 by omega) trivial rfl
    refine mx_J.step (sn_83 5) (fun _ _ => rfl) ?_
    refine mx_J.step (sn_83 6) (fun _ _ => rfl) ?_
    refine JputI (g := 2) hx1 (show mx_Sn _ _ 7 (mx_putf 1 10 2 (.int) 10) from sn_83 7) a50 s50 rfl rfl rfl rfl (fun Z2 h2 hx2 hE2 => ?_)
    have hG2 := GI_up hG1 hE2 (show 0 ≤ x1 ∧ x1 ≤ 40 by omega) trivial rfl
    refine mx_J.step (sn_83 10) (fun _ _ => rfl) ?_
    refine JcI (z := 0) (show mx_Sn _ _ 11 (mx_const (.int 0) 12) from sn_83 11) rfl ?_
    refine JputI (g := 3) hx2 (show mx_Sn _ _ 12 (mx_putf 1 10 3 (.boolean) 15) from sn_83 12) a50 s50 rfl rfl (fit_z (by omega)) rfl (fun Z3 h3 hx3 hE3 => ?_)
    have hG3 := GI_up hG2 hE3 (show 0 ≤ 0 ∧ 0 ≤ 1 by omega) trivial rfl
    refine mx_J.step (sn_83 15) (fun _ _ => rfl) ?_
    refine JgetR (g := 0) (b := 51) hx3 (show mx_Sn _ _ 16 (mx_getf 10 0 19) from sn_83 16) a50 s50 rfl rfl (hG3.prr 50 0 rfl) ?_
    refine JcL (z := 0) (show mx_Sn _ _ 19 (mx_const (.long 0) 20) from sn_83 19) rfl ?_
    obtain ⟨Z4, h4, hc4, hx4, hG4, hf4⟩ := ct_285_51 (d := d + 0) (l := l) (D := D) (b0 := b0) (ad := ad) (Hb := Hb) (tau := tau) hx3 hG3 (show (-9223372036854775808) ≤ 0 ∧ 0 ≤ 9223372036854775807 by omega)
    refine Jcs0 (show mx_Sn _ _ 20 (mx_calls 285 2 23) from sn_83 20) hc4 rfl rfl rfl ?_
    exact mx_J.ret (sn_83 23) (fun _ _ => rfl) (hP Z4 h4 hx4 hG4 (fr_tr (M := [(50, 1), (50, 2), (50, 3), (51, (-1))]) (fr_tr (M := [(50, 1), (50, 2), (50, 3), (51, (-1))]) (fr_tr (M := [(50, 1), (50, 2), (50, 3), (51, (-1))]) (fr_tr (M := [(50, 1), (50, 2), (50, 3), (51, (-1))]) fr_rf (fr_up hE1) (M1 := []) rfl rfl) (fr_up hE2) rfl rfl) (fr_up hE3) rfl rfl) (hf4) rfl rfl))
theorem ct_83_50 {l : Launch} {D : va_G} {b0 : Nat} {ad : Nat → Nat} {Hb : Heap} {tau : Nat → Int64} {d n s : Nat} {S : Nat → xS} {Z : xZ} {h : mx_H} (hx : XH n s S Z h) (hG : GI n S Z) {x0 x1 : Int} (p0 : 0 ≤ x0 ∧ x0 ≤ 3) (p1 : 0 ≤ x1 ∧ x1 ≤ 40) : ∃ (Z' : xZ) (h' : mx_H), mx_Ca (tB l D b0 ad Hb tau) (d + 2) 83 [.ref 50, xI x0, xI x1] h (none, h') ∧ XH n s S Z' h' ∧ GI n S Z' ∧ fr' [(50, 1), (50, 2), (50, 3), (51, (-1))] Z Z' := by
  obtain ⟨r, hca, Z', h', e, q⟩ := Jmt (B := tB l D b0 ad Hb tau) (M := mt_83) (mi := 83) (as := [.ref 50, xI x0, xI x1]) (d := d + 1) (ls := [some (.ref 50), some (xI x0), some (xI x1)]) rfl rfl rfl rfl rfl rfl (cw_83_50 (l := l) (D := D) (b0 := b0) (ad := ad) (Hb := Hb) (tau := tau) (d := d) (Post := fun r => ∃ (Z' : xZ) (h' : mx_H), r = (none, h') ∧ XH n s S Z' h' ∧ GI n S Z' ∧ fr' [(50, 1), (50, 2), (50, 3), (51, (-1))] Z Z') hx hG p0 p1 (fun Z' h' q1 q2 q3 => ⟨Z', h', rfl, q1, q2, q3⟩))
  subst e; exact ⟨Z', h', hca, q⟩
set_option maxRecDepth 100000 in
theorem cw_284_6_i0 {l : Launch} {D : va_G} {b0 : Nat} {ad : Nat → Nat} {Hb : Heap} {tau : Nat → Int64} {d n s : Nat} {S : Nat → xS} {Z : xZ} {h : mx_H} {Post : mx_R → Prop} (hx : XH n s S Z h) (hG : GI n S Z)  (hP : ∀ (Z' : xZ) (h' : mx_H), XH n s S Z' h' → GI n S Z' → fr' [(6, (-1))] Z Z' → AB Z' 6 19 0 0 → Post (none, h')) : mx_J (tB l D b0 ad Hb tau) mt_284 (d + 0) 0 [some (.ref 6), some (xI 0), none, none] [] h Post := by
    have a6 : 6 < n := lt83 hG.1 rfl
    have s6 : S 6 = .inr (.int, 19, 0) := hG.2.1 6 rfl
    refine JcI (z := 0) (show mx_Sn _ _ 0 (mx_const (.int 0) 1) from sn_284 0) rfl ?_
    refine mx_J.step (ls2 := [some (.ref 6), some (xI 0), some (xI 0), none]) (sn_284 1) (fun _ _ => rfl) ?_
    refine mx_J.step (sn_284 2) (fun _ _ => rfl) ?_
    refine JalenI (z := 19) hx (show mx_Sn _ _ 3 (mx_alen 4) from sn_284 3) a6 s6 (by decide) rfl ?_
    refine mx_J.step (ls2 := [some (.ref 6), some (xI 0), some (xI 0), some (xI 19)]) (sn_284 4) (fun _ _ => rfl) ?_
    have c5 : ∀ (m1 : Nat) (w1_2 : Int) (Z2 : xZ) (h2 : mx_H), 19 - w1_2 < (m1 : Int) → 0 ≤ w1_2 ∧ w1_2 ≤ 19 → AB Z2 6 (w1_2) (0) (0) → XH n s S Z2 h2 → GI n S Z2 → fr' [(6, (-1))] Z Z2 → mx_J (tB l D b0 ad Hb tau) mt_284 (d + 0) 5 [some (.ref 6), some (xI 0), some (xI w1_2), some (xI 19)] [] h2 Post := by
      intro m1
      induction m1 with
      | zero => intro w1_2 Z2 h2 q1 f1_0 f1_1 hx2 hG2 hf2; exact absurd q1 (by omega)
      | succ m1 ih1 =>
        intro w1_2 Z2 h2 q1 f1_0 f1_1 hx2 hG2 hf2
        refine mx_J.step (sn_284 5) (fun _ _ => rfl) ?_
        refine mx_J.step (sn_284 6) (fun _ _ => rfl) ?_
        refine Jicmp_ge (show mx_Sn _ _ 7 (mx_icmp_ge 20 10) from sn_284 7) (by omega) (by omega) (fun q3 => ?_) (fun q3 => ?_)
        · skip
          exact mx_J.ret (sn_284 20) (fun _ _ => rfl) (hP Z2 h2 hx2 hG2 (fr_tr (M := [(6, (-1))]) fr_rf (hf2) (M1 := []) rfl rfl) (ab_mono f1_1 (by omega) (by omega) (by omega)))
        · skip
          refine mx_J.step (sn_284 10) (fun _ _ => rfl) ?_
          refine mx_J.step (sn_284 11) (fun _ _ => rfl) ?_
          refine mx_J.step (sn_284 12) (fun _ _ => rfl) ?_
          refine JiastI hx2 (show mx_Sn _ _ 13 (mx_iast 1 14) from sn_284 13) a6 s6 rfl (by omega) (fun Z4 h4 hx4 hE4 => ?_)
          have hG4 := GI_up hG2 hE4 (show (-2147483648) ≤ 0 ∧ 0 ≤ 2147483647 by omega) trivial rfl
          have m4 := fill_up hE4 f1_1 (by omega)
          refine Jiinc (z := w1_2) (cz := 1) (ls2 := [some (.ref 6), some (xI 0), some (xI (w1_2 + 1)), some (xI 19)]) (show mx_Sn _ _ 14 (mx_iinc 2 1 17) from sn_284 14) rfl rfl rfl rfl ?_
          refine mx_J.step (sn_284 17) (fun _ _ => rfl) ?_
          exact ih1 (w1_2 + 1) Z4 h4 (by omega) (by omega) (ab_mono m4 (by omega) (by omega) (by omega)) hx4 hG4 (fr_tr (M := [(6, (-1))]) (fr_tr (M := [(6, (-1))]) fr_rf (hf2) (M1 := []) rfl rfl) (fr_ua hE4) rfl rfl)
    exact c5 (Int.toNat (19 - 0) + 1) 0 Z h (by omega) (by omega) (ab_nil (by omega)) hx hG fr_rf
theorem ct_284_6_i0 {l : Launch} {D : va_G} {b0 : Nat} {ad : Nat → Nat} {Hb : Heap} {tau : Nat → Int64} {d n s : Nat} {S : Nat → xS} {Z : xZ} {h : mx_H} (hx : XH n s S Z h) (hG : GI n S Z)  : ∃ (Z' : xZ) (h' : mx_H), mx_Ca (tB l D b0 ad Hb tau) (d + 1) 284 [.ref 6, xI 0] h (none, h') ∧ XH n s S Z' h' ∧ GI n S Z' ∧ fr' [(6, (-1))] Z Z' ∧ (AB Z' 6 19 0 0) := by
  obtain ⟨r, hca, Z', h', e, q⟩ := Jmt (B := tB l D b0 ad Hb tau) (M := mt_284) (mi := 284) (as := [.ref 6, xI 0]) (d := d + 0) (ls := [some (.ref 6), some (xI 0), none, none]) rfl rfl rfl rfl rfl rfl (cw_284_6_i0 (l := l) (D := D) (b0 := b0) (ad := ad) (Hb := Hb) (tau := tau) (d := d) (Post := fun r => ∃ (Z' : xZ) (h' : mx_H), r = (none, h') ∧ XH n s S Z' h' ∧ GI n S Z' ∧ fr' [(6, (-1))] Z Z' ∧ (AB Z' 6 19 0 0)) hx hG  (fun Z' h' q1 q2 q3 q5_6 => ⟨Z', h', rfl, q1, q2, q3, q5_6⟩))
  subst e; exact ⟨Z', h', hca, q⟩
set_option maxRecDepth 100000 in
theorem cw_284_19_i0 {l : Launch} {D : va_G} {b0 : Nat} {ad : Nat → Nat} {Hb : Heap} {tau : Nat → Int64} {d n s : Nat} {S : Nat → xS} {Z : xZ} {h : mx_H} {Post : mx_R → Prop} (hx : XH n s S Z h) (hG : GI n S Z)  (hP : ∀ (Z' : xZ) (h' : mx_H), XH n s S Z' h' → GI n S Z' → fr' [(19, (-1))] Z Z' → AB Z' 19 19 0 0 → Post (none, h')) : mx_J (tB l D b0 ad Hb tau) mt_284 (d + 0) 0 [some (.ref 19), some (xI 0), none, none] [] h Post := by
    have a19 : 19 < n := lt83 hG.1 rfl
    have s19 : S 19 = .inr (.int, 19, 0) := hG.2.1 19 rfl
    refine JcI (z := 0) (show mx_Sn _ _ 0 (mx_const (.int 0) 1) from sn_284 0) rfl ?_
    refine mx_J.step (ls2 := [some (.ref 19), some (xI 0), some (xI 0), none]) (sn_284 1) (fun _ _ => rfl) ?_
    refine mx_J.step (sn_284 2) (fun _ _ => rfl) ?_
    refine JalenI (z := 19) hx (show mx_Sn _ _ 3 (mx_alen 4) from sn_284 3) a19 s19 (by decide) rfl ?_
    refine mx_J.step (ls2 := [some (.ref 19), some (xI 0), some (xI 0), some (xI 19)]) (sn_284 4) (fun _ _ => rfl) ?_
    have c5 : ∀ (m1 : Nat) (w1_2 : Int) (Z2 : xZ) (h2 : mx_H), 19 - w1_2 < (m1 : Int) → 0 ≤ w1_2 ∧ w1_2 ≤ 19 → AB Z2 19 (w1_2) (0) (0) → XH n s S Z2 h2 → GI n S Z2 → fr' [(19, (-1))] Z Z2 → mx_J (tB l D b0 ad Hb tau) mt_284 (d + 0) 5 [some (.ref 19), some (xI 0), some (xI w1_2), some (xI 19)] [] h2 Post := by
      intro m1
      induction m1 with
      | zero => intro w1_2 Z2 h2 q1 f1_0 f1_1 hx2 hG2 hf2; exact absurd q1 (by omega)
      | succ m1 ih1 =>
        intro w1_2 Z2 h2 q1 f1_0 f1_1 hx2 hG2 hf2
        refine mx_J.step (sn_284 5) (fun _ _ => rfl) ?_
        refine mx_J.step (sn_284 6) (fun _ _ => rfl) ?_
        refine Jicmp_ge (show mx_Sn _ _ 7 (mx_icmp_ge 20 10) from sn_284 7) (by omega) (by omega) (fun q3 => ?_) (fun q3 => ?_)
        · skip
          exact mx_J.ret (sn_284 20) (fun _ _ => rfl) (hP Z2 h2 hx2 hG2 (fr_tr (M := [(19, (-1))]) fr_rf (hf2) (M1 := []) rfl rfl) (ab_mono f1_1 (by omega) (by omega) (by omega)))
        · skip
          refine mx_J.step (sn_284 10) (fun _ _ => rfl) ?_
          refine mx_J.step (sn_284 11) (fun _ _ => rfl) ?_
          refine mx_J.step (sn_284 12) (fun _ _ => rfl) ?_
          refine JiastI hx2 (show mx_Sn _ _ 13 (mx_iast 1 14) from sn_284 13) a19 s19 rfl (by omega) (fun Z4 h4 hx4 hE4 => ?_)
          have hG4 := GI_up hG2 hE4 (show (-2147483648) ≤ 0 ∧ 0 ≤ 2147483647 by omega) trivial rfl
          have m4 := fill_up hE4 f1_1 (by omega)
          refine Jiinc (z := w1_2) (cz := 1) (ls2 := [some (.ref 19), some (xI 0), some (xI (w1_2 + 1)), some (xI 19)]) (show mx_Sn _ _ 14 (mx_iinc 2 1 17) from sn_284 14) rfl rfl rfl rfl ?_
          refine mx_J.step (sn_284 17) (fun _ _ => rfl) ?_
          exact ih1 (w1_2 + 1) Z4 h4 (by omega) (by omega) (ab_mono m4 (by omega) (by omega) (by omega)) hx4 hG4 (fr_tr (M := [(19, (-1))]) (fr_tr (M := [(19, (-1))]) fr_rf (hf2) (M1 := []) rfl rfl) (fr_ua hE4) rfl rfl)
    exact c5 (Int.toNat (19 - 0) + 1) 0 Z h (by omega) (by omega) (ab_nil (by omega)) hx hG fr_rf
theorem ct_284_19_i0 {l : Launch} {D : va_G} {b0 : Nat} {ad : Nat → Nat} {Hb : Heap} {tau : Nat → Int64} {d n s : Nat} {S : Nat → xS} {Z : xZ} {h : mx_H} (hx : XH n s S Z h) (hG : GI n S Z)  : ∃ (Z' : xZ) (h' : mx_H), mx_Ca (tB l D b0 ad Hb tau) (d + 1) 284 [.ref 19, xI 0] h (none, h') ∧ XH n s S Z' h' ∧ GI n S Z' ∧ fr' [(19, (-1))] Z Z' ∧ (AB Z' 19 19 0 0) := by
  obtain ⟨r, hca, Z', h', e, q⟩ := Jmt (B := tB l D b0 ad Hb tau) (M := mt_284) (mi := 284) (as := [.ref 19, xI 0]) (d := d + 0) (ls := [some (.ref 19), some (xI 0), none, none]) rfl rfl rfl rfl rfl rfl (cw_284_19_i0 (l := l) (D := D) (b0 := b0) (ad := ad) (Hb := Hb) (tau := tau) (d := d) (Post := fun r => ∃ (Z' : xZ) (h' : mx_H), r = (none, h') ∧ XH n s S Z' h' ∧ GI n S Z' ∧ fr' [(19, (-1))] Z Z' ∧ (AB Z' 19 19 0 0)) hx hG  (fun Z' h' q1 q2 q3 q5_19 => ⟨Z', h', rfl, q1, q2, q3, q5_19⟩))
  subst e; exact ⟨Z', h', hca, q⟩
set_option maxRecDepth 100000 in
theorem cw_284_42_i0 {l : Launch} {D : va_G} {b0 : Nat} {ad : Nat → Nat} {Hb : Heap} {tau : Nat → Int64} {d n s : Nat} {S : Nat → xS} {Z : xZ} {h : mx_H} {Post : mx_R → Prop} (hx : XH n s S Z h) (hG : GI n S Z)  (hP : ∀ (Z' : xZ) (h' : mx_H), XH n s S Z' h' → GI n S Z' → fr' [(42, (-1))] Z Z' → AB Z' 42 19 0 0 → Post (none, h')) : mx_J (tB l D b0 ad Hb tau) mt_284 (d + 0) 0 [some (.ref 42), some (xI 0), none, none] [] h Post := by
    have a42 : 42 < n := lt83 hG.1 rfl
    have s42 : S 42 = .inr (.int, 19, 0) := hG.2.1 42 rfl
    refine JcI (z := 0) (show mx_Sn _ _ 0 (mx_const (.int 0) 1) from sn_284 0) rfl ?_
    refine mx_J.step (ls2 := [some (.ref 42), some (xI 0), some (xI 0), none]) (sn_284 1) (fun _ _ => rfl) ?_
    refine mx_J.step (sn_284 2) (fun _ _ => rfl) ?_
    refine JalenI (z := 19) hx (show mx_Sn _ _ 3 (mx_alen 4) from sn_284 3) a42 s42 (by decide) rfl ?_
    refine mx_J.step (ls2 := [some (.ref 42), some (xI 0), some (xI 0), some (xI 19)]) (sn_284 4) (fun _ _ => rfl) ?_
    have c5 : ∀ (m1 : Nat) (w1_2 : Int) (Z2 : xZ) (h2 : mx_H), 19 - w1_2 < (m1 : Int) → 0 ≤ w1_2 ∧ w1_2 ≤ 19 → AB Z2 42 (w1_2) (0) (0) → XH n s S Z2 h2 → GI n S Z2 → fr' [(42, (-1))] Z Z2 → mx_J (tB l D b0 ad Hb tau) mt_284 (d + 0) 5 [some (.ref 42), some (xI 0), some (xI w1_2), some (xI 19)] [] h2 Post := by
      intro m1
      induction m1 with
      | zero => intro w1_2 Z2 h2 q1 f1_0 f1_1 hx2 hG2 hf2; exact absurd q1 (by omega)
      | succ m1 ih1 =>
        intro w1_2 Z2 h2 q1 f1_0 f1_1 hx2 hG2 hf2
        refine mx_J.step (sn_284 5) (fun _ _ => rfl) ?_
        refine mx_J.step (sn_284 6) (fun _ _ => rfl) ?_
        refine Jicmp_ge (show mx_Sn _ _ 7 (mx_icmp_ge 20 10) from sn_284 7) (by omega) (by omega) (fun q3 => ?_) (fun q3 => ?_)
        · skip
          exact mx_J.ret (sn_284 20) (fun _ _ => rfl) (hP Z2 h2 hx2 hG2 (fr_tr (M := [(42, (-1))]) fr_rf (hf2) (M1 := []) rfl rfl) (ab_mono f1_1 (by omega) (by omega) (by omega)))
        · skip
          refine mx_J.step (sn_284 10) (fun _ _ => rfl) ?_
          refine mx_J.step (sn_284 11) (fun _ _ => rfl) ?_
          refine mx_J.step (sn_284 12) (fun _ _ => rfl) ?_
          refine JiastI hx2 (show mx_Sn _ _ 13 (mx_iast 1 14) from sn_284 13) a42 s42 rfl (by omega) (fun Z4 h4 hx4 hE4 => ?_)
          have hG4 := GI_up hG2 hE4 (show (-2147483648) ≤ 0 ∧ 0 ≤ 2147483647 by omega) trivial rfl
          have m4 := fill_up hE4 f1_1 (by omega)
          refine Jiinc (z := w1_2) (cz := 1) (ls2 := [some (.ref 42), some (xI 0), some (xI (w1_2 + 1)), some (xI 19)]) (show mx_Sn _ _ 14 (mx_iinc 2 1 17) from sn_284 14) rfl rfl rfl rfl ?_
          refine mx_J.step (sn_284 17) (fun _ _ => rfl) ?_
          exact ih1 (w1_2 + 1) Z4 h4 (by omega) (by omega) (ab_mono m4 (by omega) (by omega) (by omega)) hx4 hG4 (fr_tr (M := [(42, (-1))]) (fr_tr (M := [(42, (-1))]) fr_rf (hf2) (M1 := []) rfl rfl) (fr_ua hE4) rfl rfl)
    exact c5 (Int.toNat (19 - 0) + 1) 0 Z h (by omega) (by omega) (ab_nil (by omega)) hx hG fr_rf
theorem ct_284_42_i0 {l : Launch} {D : va_G} {b0 : Nat} {ad : Nat → Nat} {Hb : Heap} {tau : Nat → Int64} {d n s : Nat} {S : Nat → xS} {Z : xZ} {h : mx_H} (hx : XH n s S Z h) (hG : GI n S Z)  : ∃ (Z' : xZ) (h' : mx_H), mx_Ca (tB l D b0 ad Hb tau) (d + 1) 284 [.ref 42, xI 0] h (none, h') ∧ XH n s S Z' h' ∧ GI n S Z' ∧ fr' [(42, (-1))] Z Z' ∧ (AB Z' 42 19 0 0) := by
  obtain ⟨r, hca, Z', h', e, q⟩ := Jmt (B := tB l D b0 ad Hb tau) (M := mt_284) (mi := 284) (as := [.ref 42, xI 0]) (d := d + 0) (ls := [some (.ref 42), some (xI 0), none, none]) rfl rfl rfl rfl rfl rfl (cw_284_42_i0 (l := l) (D := D) (b0 := b0) (ad := ad) (Hb := Hb) (tau := tau) (d := d) (Post := fun r => ∃ (Z' : xZ) (h' : mx_H), r = (none, h') ∧ XH n s S Z' h' ∧ GI n S Z' ∧ fr' [(42, (-1))] Z Z' ∧ (AB Z' 42 19 0 0)) hx hG  (fun Z' h' q1 q2 q3 q5_42 => ⟨Z', h', rfl, q1, q2, q3, q5_42⟩))
  subst e; exact ⟨Z', h', hca, q⟩
set_option maxRecDepth 100000 in
theorem cw_284_22_m1 {l : Launch} {D : va_G} {b0 : Nat} {ad : Nat → Nat} {Hb : Heap} {tau : Nat → Int64} {d n s : Nat} {S : Nat → xS} {Z : xZ} {h : mx_H} {Post : mx_R → Prop} (hx : XH n s S Z h) (hG : GI n S Z)  (hP : ∀ (Z' : xZ) (h' : mx_H), XH n s S Z' h' → GI n S Z' → fr' [(22, (-1))] Z Z' → AB Z' 22 385 (-1) (-1) → Post (none, h')) : mx_J (tB l D b0 ad Hb tau) mt_284 (d + 0) 0 [some (.ref 22), some (xI (-1)), none, none] [] h Post := by
    have a22 : 22 < n := lt83 hG.1 rfl
    have s22 : S 22 = .inr (.int, 385, 0) := hG.2.1 22 rfl
    refine JcI (z := 0) (show mx_Sn _ _ 0 (mx_const (.int 0) 1) from sn_284 0) rfl ?_
    refine mx_J.step (ls2 := [some (.ref 22), some (xI (-1)), some (xI 0), none]) (sn_284 1) (fun _ _ => rfl) ?_
    refine mx_J.step (sn_284 2) (fun _ _ => rfl) ?_
    refine JalenI (z := 385) hx (show mx_Sn _ _ 3 (mx_alen 4) from sn_284 3) a22 s22 (by decide) rfl ?_
    refine mx_J.step (ls2 := [some (.ref 22), some (xI (-1)), some (xI 0), some (xI 385)]) (sn_284 4) (fun _ _ => rfl) ?_
    have c5 : ∀ (m1 : Nat) (w1_2 : Int) (Z2 : xZ) (h2 : mx_H), 385 - w1_2 < (m1 : Int) → 0 ≤ w1_2 ∧ w1_2 ≤ 385 → AB Z2 22 (w1_2) ((-1)) ((-1)) → XH n s S Z2 h2 → GI n S Z2 → fr' [(22, (-1))] Z Z2 → mx_J (tB l D b0 ad Hb tau) mt_284 (d + 0) 5 [some (.ref 22), some (xI (-1)), some (xI w1_2), some (xI 385)] [] h2 Post := by
      intro m1
      induction m1 with
      | zero => intro w1_2 Z2 h2 q1 f1_0 f1_1 hx2 hG2 hf2; exact absurd q1 (by omega)
      | succ m1 ih1 =>
        intro w1_2 Z2 h2 q1 f1_0 f1_1 hx2 hG2 hf2
        refine mx_J.step (sn_284 5) (fun _ _ => rfl) ?_
        refine mx_J.step (sn_284 6) (fun _ _ => rfl) ?_
        refine Jicmp_ge (show mx_Sn _ _ 7 (mx_icmp_ge 20 10) from sn_284 7) (by omega) (by omega) (fun q3 => ?_) (fun q3 => ?_)
        · skip
          exact mx_J.ret (sn_284 20) (fun _ _ => rfl) (hP Z2 h2 hx2 hG2 (fr_tr (M := [(22, (-1))]) fr_rf (hf2) (M1 := []) rfl rfl) (ab_mono f1_1 (by omega) (by omega) (by omega)))
        · skip
          refine mx_J.step (sn_284 10) (fun _ _ => rfl) ?_
          refine mx_J.step (sn_284 11) (fun _ _ => rfl) ?_
          refine mx_J.step (sn_284 12) (fun _ _ => rfl) ?_
          refine JiastI hx2 (show mx_Sn _ _ 13 (mx_iast 1 14) from sn_284 13) a22 s22 rfl (by omega) (fun Z4 h4 hx4 hE4 => ?_)
          have hG4 := GI_up hG2 hE4 (show (-2147483648) ≤ (-1) ∧ (-1) ≤ 2147483647 by omega) trivial rfl
          have m4 := fill_up hE4 f1_1 (by omega)
          refine Jiinc (z := w1_2) (cz := 1) (ls2 := [some (.ref 22), some (xI (-1)), some (xI (w1_2 + 1)), some (xI 385)]) (show mx_Sn _ _ 14 (mx_iinc 2 1 17) from sn_284 14) rfl rfl rfl rfl ?_
          refine mx_J.step (sn_284 17) (fun _ _ => rfl) ?_
          exact ih1 (w1_2 + 1) Z4 h4 (by omega) (by omega) (ab_mono m4 (by omega) (by omega) (by omega)) hx4 hG4 (fr_tr (M := [(22, (-1))]) (fr_tr (M := [(22, (-1))]) fr_rf (hf2) (M1 := []) rfl rfl) (fr_ua hE4) rfl rfl)
    exact c5 (Int.toNat (385 - 0) + 1) 0 Z h (by omega) (by omega) (ab_nil (by omega)) hx hG fr_rf
theorem ct_284_22_m1 {l : Launch} {D : va_G} {b0 : Nat} {ad : Nat → Nat} {Hb : Heap} {tau : Nat → Int64} {d n s : Nat} {S : Nat → xS} {Z : xZ} {h : mx_H} (hx : XH n s S Z h) (hG : GI n S Z)  : ∃ (Z' : xZ) (h' : mx_H), mx_Ca (tB l D b0 ad Hb tau) (d + 1) 284 [.ref 22, xI (-1)] h (none, h') ∧ XH n s S Z' h' ∧ GI n S Z' ∧ fr' [(22, (-1))] Z Z' ∧ (AB Z' 22 385 (-1) (-1)) := by
  obtain ⟨r, hca, Z', h', e, q⟩ := Jmt (B := tB l D b0 ad Hb tau) (M := mt_284) (mi := 284) (as := [.ref 22, xI (-1)]) (d := d + 0) (ls := [some (.ref 22), some (xI (-1)), none, none]) rfl rfl rfl rfl rfl rfl (cw_284_22_m1 (l := l) (D := D) (b0 := b0) (ad := ad) (Hb := Hb) (tau := tau) (d := d) (Post := fun r => ∃ (Z' : xZ) (h' : mx_H), r = (none, h') ∧ XH n s S Z' h' ∧ GI n S Z' ∧ fr' [(22, (-1))] Z Z' ∧ (AB Z' 22 385 (-1) (-1))) hx hG  (fun Z' h' q1 q2 q3 q5_22 => ⟨Z', h', rfl, q1, q2, q3, q5_22⟩))
  subst e; exact ⟨Z', h', hca, q⟩
set_option maxRecDepth 100000 in
theorem cw_284_29_m1 {l : Launch} {D : va_G} {b0 : Nat} {ad : Nat → Nat} {Hb : Heap} {tau : Nat → Int64} {d n s : Nat} {S : Nat → xS} {Z : xZ} {h : mx_H} {Post : mx_R → Prop} (hx : XH n s S Z h) (hG : GI n S Z)  (hP : ∀ (Z' : xZ) (h' : mx_H), XH n s S Z' h' → GI n S Z' → fr' [(29, (-1))] Z Z' → AB Z' 29 385 (-1) (-1) → Post (none, h')) : mx_J (tB l D b0 ad Hb tau) mt_284 (d + 0) 0 [some (.ref 29), some (xI (-1)), none, none] [] h Post := by
    have a29 : 29 < n := lt83 hG.1 rfl
    have s29 : S 29 = .inr (.int, 385, 0) := hG.2.1 29 rfl
    refine JcI (z := 0) (show mx_Sn _ _ 0 (mx_const (.int 0) 1) from sn_284 0) rfl ?_
    refine mx_J.step (ls2 := [some (.ref 29), some (xI (-1)), some (xI 0), none]) (sn_284 1) (fun _ _ => rfl) ?_
    refine mx_J.step (sn_284 2) (fun _ _ => rfl) ?_
    refine JalenI (z := 385) hx (show mx_Sn _ _ 3 (mx_alen 4) from sn_284 3) a29 s29 (by decide) rfl ?_
    refine mx_J.step (ls2 := [some (.ref 29), some (xI (-1)), some (xI 0), some (xI 385)]) (sn_284 4) (fun _ _ => rfl) ?_
    have c5 : ∀ (m1 : Nat) (w1_2 : Int) (Z2 : xZ) (h2 : mx_H), 385 - w1_2 < (m1 : Int) → 0 ≤ w1_2 ∧ w1_2 ≤ 385 → AB Z2 29 (w1_2) ((-1)) ((-1)) → XH n s S Z2 h2 → GI n S Z2 → fr' [(29, (-1))] Z Z2 → mx_J (tB l D b0 ad Hb tau) mt_284 (d + 0) 5 [some (.ref 29), some (xI (-1)), some (xI w1_2), some (xI 385)] [] h2 Post := by
      intro m1
      induction m1 with
      | zero => intro w1_2 Z2 h2 q1 f1_0 f1_1 hx2 hG2 hf2; exact absurd q1 (by omega)
      | succ m1 ih1 =>
        intro w1_2 Z2 h2 q1 f1_0 f1_1 hx2 hG2 hf2
        refine mx_J.step (sn_284 5) (fun _ _ => rfl) ?_
        refine mx_J.step (sn_284 6) (fun _ _ => rfl) ?_
        refine Jicmp_ge (show mx_Sn _ _ 7 (mx_icmp_ge 20 10) from sn_284 7) (by omega) (by omega) (fun q3 => ?_) (fun q3 => ?_)
        · skip
          exact mx_J.ret (sn_284 20) (fun _ _ => rfl) (hP Z2 h2 hx2 hG2 (fr_tr (M := [(29, (-1))]) fr_rf (hf2) (M1 := []) rfl rfl) (ab_mono f1_1 (by omega) (by omega) (by omega)))
        · skip
          refine mx_J.step (sn_284 10) (fun _ _ => rfl) ?_
          refine mx_J.step (sn_284 11) (fun _ _ => rfl) ?_
          refine mx_J.step (sn_284 12) (fun _ _ => rfl) ?_
          refine JiastI hx2 (show mx_Sn _ _ 13 (mx_iast 1 14) from sn_284 13) a29 s29 rfl (by omega) (fun Z4 h4 hx4 hE4 => ?_)
          have hG4 := GI_up hG2 hE4 (show (-2147483648) ≤ (-1) ∧ (-1) ≤ 2147483647 by omega) trivial rfl
          have m4 := fill_up hE4 f1_1 (by omega)
          refine Jiinc (z := w1_2) (cz := 1) (ls2 := [some (.ref 29), some (xI (-1)), some (xI (w1_2 + 1)), some (xI 385)]) (show mx_Sn _ _ 14 (mx_iinc 2 1 17) from sn_284 14) rfl rfl rfl rfl ?_
          refine mx_J.step (sn_284 17) (fun _ _ => rfl) ?_
          exact ih1 (w1_2 + 1) Z4 h4 (by omega) (by omega) (ab_mono m4 (by omega) (by omega) (by omega)) hx4 hG4 (fr_tr (M := [(29, (-1))]) (fr_tr (M := [(29, (-1))]) fr_rf (hf2) (M1 := []) rfl rfl) (fr_ua hE4) rfl rfl)
    exact c5 (Int.toNat (385 - 0) + 1) 0 Z h (by omega) (by omega) (ab_nil (by omega)) hx hG fr_rf
theorem ct_284_29_m1 {l : Launch} {D : va_G} {b0 : Nat} {ad : Nat → Nat} {Hb : Heap} {tau : Nat → Int64} {d n s : Nat} {S : Nat → xS} {Z : xZ} {h : mx_H} (hx : XH n s S Z h) (hG : GI n S Z)  : ∃ (Z' : xZ) (h' : mx_H), mx_Ca (tB l D b0 ad Hb tau) (d + 1) 284 [.ref 29, xI (-1)] h (none, h') ∧ XH n s S Z' h' ∧ GI n S Z' ∧ fr' [(29, (-1))] Z Z' ∧ (AB Z' 29 385 (-1) (-1)) := by
  obtain ⟨r, hca, Z', h', e, q⟩ := Jmt (B := tB l D b0 ad Hb tau) (M := mt_284) (mi := 284) (as := [.ref 29, xI (-1)]) (d := d + 0) (ls := [some (.ref 29), some (xI (-1)), none, none]) rfl rfl rfl rfl rfl rfl (cw_284_29_m1 (l := l) (D := D) (b0 := b0) (ad := ad) (Hb := Hb) (tau := tau) (d := d) (Post := fun r => ∃ (Z' : xZ) (h' : mx_H), r = (none, h') ∧ XH n s S Z' h' ∧ GI n S Z' ∧ fr' [(29, (-1))] Z Z' ∧ (AB Z' 29 385 (-1) (-1))) hx hG  (fun Z' h' q1 q2 q3 q5_29 => ⟨Z', h', rfl, q1, q2, q3, q5_29⟩))
  subst e; exact ⟨Z', h', hca, q⟩
set_option maxRecDepth 100000 in
theorem cw_284_23_i0 {l : Launch} {D : va_G} {b0 : Nat} {ad : Nat → Nat} {Hb : Heap} {tau : Nat → Int64} {d n s : Nat} {S : Nat → xS} {Z : xZ} {h : mx_H} {Post : mx_R → Prop} (hx : XH n s S Z h) (hG : GI n S Z)  (hP : ∀ (Z' : xZ) (h' : mx_H), XH n s S Z' h' → GI n S Z' → fr' [(23, (-1))] Z Z' → AB Z' 23 385 0 0 → Post (none, h')) : mx_J (tB l D b0 ad Hb tau) mt_284 (d + 0) 0 [some (.ref 23), some (xI 0), none, none] [] h Post := by
    have a23 : 23 < n := lt83 hG.1 rfl
    have s23 : S 23 = .inr (.int, 385, 0) := hG.2.1 23 rfl
    refine JcI (z := 0) (show mx_Sn _ _ 0 (mx_const (.int 0) 1) from sn_284 0) rfl ?_
    refine mx_J.step (ls2 := [some (.ref 23), some (xI 0), some (xI 0), none]) (sn_284 1) (fun _ _ => rfl) ?_
    refine mx_J.step (sn_284 2) (fun _ _ => rfl) ?_
    refine JalenI (z := 385) hx (show mx_Sn _ _ 3 (mx_alen 4) from sn_284 3) a23 s23 (by decide) rfl ?_
    refine mx_J.step (ls2 := [some (.ref 23), some (xI 0), some (xI 0), some (xI 385)]) (sn_284 4) (fun _ _ => rfl) ?_
    have c5 : ∀ (m1 : Nat) (w1_2 : Int) (Z2 : xZ) (h2 : mx_H), 385 - w1_2 < (m1 : Int) → 0 ≤ w1_2 ∧ w1_2 ≤ 385 → AB Z2 23 (w1_2) (0) (0) → XH n s S Z2 h2 → GI n S Z2 → fr' [(23, (-1))] Z Z2 → mx_J (tB l D b0 ad Hb tau) mt_284 (d + 0) 5 [some (.ref 23), some (xI 0), some (xI w1_2), some (xI 385)] [] h2 Post := by
      intro m1
      induction m1 with
      | zero => intro w1_2 Z2 h2 q1 f1_0 f1_1 hx2 hG2 hf2; exact absurd q1 (by omega)
      | succ m1 ih1 =>
        intro w1_2 Z2 h2 q1 f1_0 f1_1 hx2 hG2 hf2
        refine mx_J.step (sn_284 5) (fun _ _ => rfl) ?_
        refine mx_J.step (sn_284 6) (fun _ _ => rfl) ?_
        refine Jicmp_ge (show mx_Sn _ _ 7 (mx_icmp_ge 20 10) from sn_284 7) (by omega) (by omega) (fun q3 => ?_) (fun q3 => ?_)
        · skip
          exact mx_J.ret (sn_284 20) (fun _ _ => rfl) (hP Z2 h2 hx2 hG2 (fr_tr (M := [(23, (-1))]) fr_rf (hf2) (M1 := []) rfl rfl) (ab_mono f1_1 (by omega) (by omega) (by omega)))
        · skip
          refine mx_J.step (sn_284 10) (fun _ _ => rfl) ?_
          refine mx_J.step (sn_284 11) (fun _ _ => rfl) ?_
          refine mx_J.step (sn_284 12) (fun _ _ => rfl) ?_
          refine JiastI hx2 (show mx_Sn _ _ 13 (mx_iast 1 14) from sn_284 13) a23 s23 rfl (by omega) (fun Z4 h4 hx4 hE4 => ?_)
          have hG4 := GI_up hG2 hE4 (show (-2147483648) ≤ 0 ∧ 0 ≤ 2147483647 by omega) trivial rfl
          have m4 := fill_up hE4 f1_1 (by omega)
          refine Jiinc (z := w1_2) (cz := 1) (ls2 := [some (.ref 23), some (xI 0), some (xI (w1_2 + 1)), some (xI 385)]) (show mx_Sn _ _ 14 (mx_iinc 2 1 17) from sn_284 14) rfl rfl rfl rfl ?_
          refine mx_J.step (sn_284 17) (fun _ _ => rfl) ?_
          exact ih1 (w1_2 + 1) Z4 h4 (by omega) (by omega) (ab_mono m4 (by omega) (by omega) (by omega)) hx4 hG4 (fr_tr (M := [(23, (-1))]) (fr_tr (M := [(23, (-1))]) fr_rf (hf2) (M1 := []) rfl rfl) (fr_ua hE4) rfl rfl)
    exact c5 (Int.toNat (385 - 0) + 1) 0 Z h (by omega) (by omega) (ab_nil (by omega)) hx hG fr_rf
theorem ct_284_23_i0 {l : Launch} {D : va_G} {b0 : Nat} {ad : Nat → Nat} {Hb : Heap} {tau : Nat → Int64} {d n s : Nat} {S : Nat → xS} {Z : xZ} {h : mx_H} (hx : XH n s S Z h) (hG : GI n S Z)  : ∃ (Z' : xZ) (h' : mx_H), mx_Ca (tB l D b0 ad Hb tau) (d + 1) 284 [.ref 23, xI 0] h (none, h') ∧ XH n s S Z' h' ∧ GI n S Z' ∧ fr' [(23, (-1))] Z Z' ∧ (AB Z' 23 385 0 0) := by
  obtain ⟨r, hca, Z', h', e, q⟩ := Jmt (B := tB l D b0 ad Hb tau) (M := mt_284) (mi := 284) (as := [.ref 23, xI 0]) (d := d + 0) (ls := [some (.ref 23), some (xI 0), none, none]) rfl rfl rfl rfl rfl rfl (cw_284_23_i0 (l := l) (D := D) (b0 := b0) (ad := ad) (Hb := Hb) (tau := tau) (d := d) (Post := fun r => ∃ (Z' : xZ) (h' : mx_H), r = (none, h') ∧ XH n s S Z' h' ∧ GI n S Z' ∧ fr' [(23, (-1))] Z Z' ∧ (AB Z' 23 385 0 0)) hx hG  (fun Z' h' q1 q2 q3 q5_23 => ⟨Z', h', rfl, q1, q2, q3, q5_23⟩))
  subst e; exact ⟨Z', h', hca, q⟩
set_option maxRecDepth 100000 in
theorem cw_284_24_i0 {l : Launch} {D : va_G} {b0 : Nat} {ad : Nat → Nat} {Hb : Heap} {tau : Nat → Int64} {d n s : Nat} {S : Nat → xS} {Z : xZ} {h : mx_H} {Post : mx_R → Prop} (hx : XH n s S Z h) (hG : GI n S Z)  (hP : ∀ (Z' : xZ) (h' : mx_H), XH n s S Z' h' → GI n S Z' → fr' [(24, (-1))] Z Z' → AB Z' 24 385 0 0 → Post (none, h')) : mx_J (tB l D b0 ad Hb tau) mt_284 (d + 0) 0 [some (.ref 24), some (xI 0), none, none] [] h Post := by
    have a24 : 24 < n := lt83 hG.1 rfl
    have s24 : S 24 = .inr (.int, 385, 0) := hG.2.1 24 rfl
    refine JcI (z := 0) (show mx_Sn _ _ 0 (mx_const (.int 0) 1) from sn_284 0) rfl ?_
    refine mx_J.step (ls2 := [some (.ref 24), some (xI 0), some (xI 0), none]) (sn_284 1) (fun _ _ => rfl) ?_
    refine mx_J.step (sn_284 2) (fun _ _ => rfl) ?_
    refine JalenI (z := 385) hx (show mx_Sn _ _ 3 (mx_alen 4) from sn_284 3) a24 s24 (by decide) rfl ?_
    refine mx_J.step (ls2 := [some (.ref 24), some (xI 0), some (xI 0), some (xI 385)]) (sn_284 4) (fun _ _ => rfl) ?_
    have c5 : ∀ (m1 : Nat) (w1_2 : Int) (Z2 : xZ) (h2 : mx_H), 385 - w1_2 < (m1 : Int) → 0 ≤ w1_2 ∧ w1_2 ≤ 385 → AB Z2 24 (w1_2) (0) (0) → XH n s S Z2 h2 → GI n S Z2 → fr' [(24, (-1))] Z Z2 → mx_J (tB l D b0 ad Hb tau) mt_284 (d + 0) 5 [some (.ref 24), some (xI 0), some (xI w1_2), some (xI 385)] [] h2 Post := by
      intro m1
      induction m1 with
      | zero => intro w1_2 Z2 h2 q1 f1_0 f1_1 hx2 hG2 hf2; exact absurd q1 (by omega)
      | succ m1 ih1 =>
        intro w1_2 Z2 h2 q1 f1_0 f1_1 hx2 hG2 hf2
        refine mx_J.step (sn_284 5) (fun _ _ => rfl) ?_
        refine mx_J.step (sn_284 6) (fun _ _ => rfl) ?_
        refine Jicmp_ge (show mx_Sn _ _ 7 (mx_icmp_ge 20 10) from sn_284 7) (by omega) (by omega) (fun q3 => ?_) (fun q3 => ?_)
        · skip
          exact mx_J.ret (sn_284 20) (fun _ _ => rfl) (hP Z2 h2 hx2 hG2 (fr_tr (M := [(24, (-1))]) fr_rf (hf2) (M1 := []) rfl rfl) (ab_mono f1_1 (by omega) (by omega) (by omega)))
        · skip
          refine mx_J.step (sn_284 10) (fun _ _ => rfl) ?_
          refine mx_J.step (sn_284 11) (fun _ _ => rfl) ?_
          refine mx_J.step (sn_284 12) (fun _ _ => rfl) ?_
          refine JiastI hx2 (show mx_Sn _ _ 13 (mx_iast 1 14) from sn_284 13) a24 s24 rfl (by omega) (fun Z4 h4 hx4 hE4 => ?_)
          have hG4 := GI_up hG2 hE4 (show (-2147483648) ≤ 0 ∧ 0 ≤ 2147483647 by omega) trivial rfl
          have m4 := fill_up hE4 f1_1 (by omega)
          refine Jiinc (z := w1_2) (cz := 1) (ls2 := [some (.ref 24), some (xI 0), some (xI (w1_2 + 1)), some (xI 385)]) (show mx_Sn _ _ 14 (mx_iinc 2 1 17) from sn_284 14) rfl rfl rfl rfl ?_
          refine mx_J.step (sn_284 17) (fun _ _ => rfl) ?_
          exact ih1 (w1_2 + 1) Z4 h4 (by omega) (by omega) (ab_mono m4 (by omega) (by omega) (by omega)) hx4 hG4 (fr_tr (M := [(24, (-1))]) (fr_tr (M := [(24, (-1))]) fr_rf (hf2) (M1 := []) rfl rfl) (fr_ua hE4) rfl rfl)
    exact c5 (Int.toNat (385 - 0) + 1) 0 Z h (by omega) (by omega) (ab_nil (by omega)) hx hG fr_rf
theorem ct_284_24_i0 {l : Launch} {D : va_G} {b0 : Nat} {ad : Nat → Nat} {Hb : Heap} {tau : Nat → Int64} {d n s : Nat} {S : Nat → xS} {Z : xZ} {h : mx_H} (hx : XH n s S Z h) (hG : GI n S Z)  : ∃ (Z' : xZ) (h' : mx_H), mx_Ca (tB l D b0 ad Hb tau) (d + 1) 284 [.ref 24, xI 0] h (none, h') ∧ XH n s S Z' h' ∧ GI n S Z' ∧ fr' [(24, (-1))] Z Z' ∧ (AB Z' 24 385 0 0) := by
  obtain ⟨r, hca, Z', h', e, q⟩ := Jmt (B := tB l D b0 ad Hb tau) (M := mt_284) (mi := 284) (as := [.ref 24, xI 0]) (d := d + 0) (ls := [some (.ref 24), some (xI 0), none, none]) rfl rfl rfl rfl rfl rfl (cw_284_24_i0 (l := l) (D := D) (b0 := b0) (ad := ad) (Hb := Hb) (tau := tau) (d := d) (Post := fun r => ∃ (Z' : xZ) (h' : mx_H), r = (none, h') ∧ XH n s S Z' h' ∧ GI n S Z' ∧ fr' [(24, (-1))] Z Z' ∧ (AB Z' 24 385 0 0)) hx hG  (fun Z' h' q1 q2 q3 q5_24 => ⟨Z', h', rfl, q1, q2, q3, q5_24⟩))
  subst e; exact ⟨Z', h', hca, q⟩
set_option maxRecDepth 100000 in
theorem cw_25_12 {l : Launch} {D : va_G} {b0 : Nat} {ad : Nat → Nat} {Hb : Heap} {tau : Nat → Int64} {d n s : Nat} {S : Nat → xS} {Z : xZ} {h : mx_H} {Post : mx_R → Prop} (hx : XH n s S Z h) (hG : GI n S Z) {x0 : Int} (p0 : 0 ≤ x0 ∧ x0 ≤ 9) (hP : ∀ (Z' : xZ) (h' : mx_H), XH n s S Z' h' → GI n S Z' → fr' [(12, 2), (17, (-1))] Z Z' → Post (none, h')) : mx_J (tB l D b0 ad Hb tau) mt_25 (d + 0) 0 [some (.ref 12), some (xI x0)] [] h Post := by
    have a12 : 12 < n := lt83 hG.1 rfl
    have s12 : S 12 = .inl (4, [2, 2, 0, 2, 2, 2, 2, 2, 2]) := hG.2.1 12 rfl
    have a17 : 17 < n := lt83 hG.1 rfl
    have s17 : S 17 = .inr (.int, 5, 0) := hG.2.1 17 rfl
    refine mx_J.step (sn_25 0) (fun _ _ => rfl) ?_
    refine JgetR (g := 6) (b := 17) hx (show mx_Sn _ _ 1 (mx_getf 4 6 4) from sn_25 1) a12 s12 rfl rfl (hG.prr 12 6 rfl) ?_
    refine JcI (z := 4) (show mx_Sn _ _ 4 (mx_const (.int 4) 5) from sn_25 4) rfl ?_
    have b1 : (-2147483648) ≤ Z 17 4 ∧ Z 17 4 ≤ 2147483647 := hG.pr 17 4
    refine JialdI (z := Z 17 4) hx (show mx_Sn _ _ 5 (mx_iald 6) from sn_25 5) a17 s17 (by omega) rfl ?_
    refine mx_J.step (sn_25 6) (fun _ _ => rfl) ?_
    have c27 : ∀  (Z3 : xZ) (h3 : mx_H), XH n s S Z3 h3 → GI n S Z3 → fr' [(12, 2), (17, (-1))] Z Z3 → mx_J (tB l D b0 ad Hb tau) mt_25 (d + 0) 27 [some (.ref 12), some (xI x0)] [] h3 Post := by
      intro Z3 h3 hx3 hG3 hf3
      exact mx_J.ret (sn_25 27) (fun _ _ => rfl) (hP Z3 h3 hx3 hG3 (fr_tr (M := [(12, 2), (17, (-1))]) fr_rf (hf3) (M1 := []) rfl rfl))
    refine Jicmp_eq (show mx_Sn _ _ 7 (mx_icmp_eq 27 10) from sn_25 7) (by omega) (by omega) (fun q4 => ?_) (fun q4 => ?_)
    · skip
      exact c27 Z h hx hG fr_rf
    · skip
      refine mx_J.step (sn_25 10) (fun _ _ => rfl) ?_
      refine JgetR (g := 6) (b := 17) hx (show mx_Sn _ _ 11 (mx_getf 4 6 14) from sn_25 11) a12 s12 rfl rfl (hG.prr 12 6 rfl) ?_
      refine JcI (z := 4) (show mx_Sn _ _ 14 (mx_const (.int 4) 15) from sn_25 14) rfl ?_
      refine mx_J.step (sn_25 15) (fun _ _ => rfl) ?_
      refine JiastI hx (show mx_Sn _ _ 16 (mx_iast 1 17) from sn_25 16) a17 s17 rfl (by omega) (fun Z5 h5 hx5 hE5 => ?_)
      have hG5 := GI_up hG hE5 (show (-2147483648) ≤ x0 ∧ x0 ≤ 2147483647 by omega) trivial rfl
      refine mx_J.step (sn_25 17) (fun _ _ => rfl) ?_
      refine mx_J.step (sn_25 18) (fun _ _ => rfl) ?_
      have b6 : (-2147483648) ≤ Z 12 2 ∧ Z 12 2 ≤ 2147483647 := hG.pr 12 2
      refine JgetI (g := 2) (z := Z 12 2) hx5 (show mx_Sn _ _ 19 (mx_getf 4 2 22) from sn_25 19) a12 s12 rfl rfl (up_nk hE5 rfl) ?_
      refine JcI (z := 1) (show mx_Sn _ _ 22 (mx_const (.int 1) 23) from sn_25 22) rfl ?_
      refine JiaddN (show mx_Sn _ _ 23 (mx_iadd 24) from sn_25 23) (fun y7 hy7 hq7 => ?_)
      refine JputI (g := 2) hx5 (show mx_Sn _ _ 24 (mx_putf 1 4 2 (.int) 27) from sn_25 24) a12 s12 rfl rfl rfl rfl (fun Z8 h8 hx8 hE8 => ?_)
      have hG8 := GI_up hG5 hE8 (show (-2147483648) ≤ y7 ∧ y7 ≤ 2147483647 by omega) trivial rfl
      exact c27 Z8 h8 hx8 hG8 (fr_tr (M := [(12, 2), (17, (-1))]) (fr_tr (M := [(12, 2), (17, (-1))]) fr_rf (fr_ua hE5) (M1 := []) rfl rfl) (fr_up hE8) rfl rfl)
theorem ct_25_12 {l : Launch} {D : va_G} {b0 : Nat} {ad : Nat → Nat} {Hb : Heap} {tau : Nat → Int64} {d n s : Nat} {S : Nat → xS} {Z : xZ} {h : mx_H} (hx : XH n s S Z h) (hG : GI n S Z) {x0 : Int} (p0 : 0 ≤ x0 ∧ x0 ≤ 9) : ∃ (Z' : xZ) (h' : mx_H), mx_Ca (tB l D b0 ad Hb tau) (d + 1) 25 [.ref 12, xI x0] h (none, h') ∧ XH n s S Z' h' ∧ GI n S Z' ∧ fr' [(12, 2), (17, (-1))] Z Z' := by
  obtain ⟨r, hca, Z', h', e, q⟩ := Jmt (B := tB l D b0 ad Hb tau) (M := mt_25) (mi := 25) (as := [.ref 12, xI x0]) (d := d + 0) (ls := [some (.ref 12), some (xI x0)]) rfl rfl rfl rfl rfl rfl (cw_25_12 (l := l) (D := D) (b0 := b0) (ad := ad) (Hb := Hb) (tau := tau) (d := d) (Post := fun r => ∃ (Z' : xZ) (h' : mx_H), r = (none, h') ∧ XH n s S Z' h' ∧ GI n S Z' ∧ fr' [(12, 2), (17, (-1))] Z Z') hx hG p0 (fun Z' h' q1 q2 q3 => ⟨Z', h', rfl, q1, q2, q3⟩))
  subst e; exact ⟨Z', h', hca, q⟩
set_option maxRecDepth 100000 in
theorem cw_134_1 {l : Launch} {D : va_G} {b0 : Nat} {ad : Nat → Nat} {Hb : Heap} {tau : Nat → Int64} {d n s : Nat} {S : Nat → xS} {Z : xZ} {h : mx_H} {Post : mx_R → Prop} (hx : XH n s S Z h) (hG : GI n S Z) {x0 : Int} (p0 : (-2147483648) ≤ x0 ∧ x0 ≤ 2147483647) (hP : ∀ (Z' : xZ) (h' : mx_H), XH n s S Z' h' → GI n S Z' → fr' [(1, 1), (2, (-1))] Z Z' → Post (none, h')) : mx_J (tB l D b0 ad Hb tau) mt_134 (d + 0) 0 [some (.ref 1), some (xI x0), none] [] h Post := by
    have a1 : 1 < n := lt83 hG.1 rfl
    have s1 : S 1 = .inl (11, [2, 0, 0, 0, 2, 2, 2, 2, 2, 2, 2, 2, 2, 2, 2, 2, 2]) := hG.2.1 1 rfl
    have a2 : 2 < n := lt83 hG.1 rfl
    have s2 : S 2 = .inr (.byte, 900, 0) := hG.2.1 2 rfl
    refine JcI (z := 24) (show mx_Sn _ _ 0 (mx_const (.int 24) 2) from sn_134 0) rfl ?_
    refine mx_J.step (ls2 := [some (.ref 1), some (xI x0), some (xI 24)]) (sn_134 2) (fun _ _ => rfl) ?_
    have c3 : ∀ (m1 : Nat) (w1_2 : Int) (Z2 : xZ) (h2 : mx_H), w1_2 - (-8) < (m1 : Int) → (-8) ≤ w1_2 ∧ w1_2 ≤ 24 → XH n s S Z2 h2 → GI n S Z2 → fr' [(1, 1), (2, (-1))] Z Z2 → mx_J (tB l D b0 ad Hb tau) mt_134 (d + 0) 3 [some (.ref 1), some (xI x0), some (xI w1_2)] [] h2 Post := by
      intro m1
      induction m1 with
      | zero => intro w1_2 Z2 h2 q1 f1_0 hx2 hG2 hf2; exact absurd q1 (by omega)
      | succ m1 ih1 =>
        intro w1_2 Z2 h2 q1 f1_0 hx2 hG2 hf2
        refine mx_J.step (sn_134 3) (fun _ _ => rfl) ?_
        have c46 : mx_J (tB l D b0 ad Hb tau) mt_134 (d + 0) 46 [some (.ref 1), some (xI x0), some (xI w1_2)] [] h2 Post := by
          exact mx_J.ret (sn_134 46) (fun _ _ => rfl) (hP Z2 h2 hx2 hG2 (fr_tr (M := [(1, 1), (2, (-1))]) fr_rf (hf2) (M1 := []) rfl rfl))
        refine Jif_lt (show mx_Sn _ _ 4 (mx_if_lt 46 7) from sn_134 4) (by omega) (fun q4 => ?_) (fun q4 => ?_)
        · skip
          exact c46 
        · skip
          refine mx_J.step (sn_134 7) (fun _ _ => rfl) ?_
          have b5 : 0 ≤ Z2 1 1 ∧ Z2 1 1 ≤ 900 := hG2.pr 1 1
          refine JgetI (g := 1) (z := Z2 1 1) hx2 (show mx_Sn _ _ 8 (mx_getf 11 1 11) from sn_134 8) a1 s1 rfl rfl rfl ?_
          refine JcI (z := 900) (show mx_Sn _ _ 11 (mx_const (.int 900) 14) from sn_134 11) rfl ?_
          refine Jicmp_ge (show mx_Sn _ _ 14 (mx_icmp_ge 46 17) from sn_134 14) (by omega) (by omega) (fun q6 => ?_) (fun q6 => ?_)
          · skip
            exact c46 
          · skip
            refine mx_J.step (sn_134 17) (fun _ _ => rfl) ?_
            refine JgetR (g := 0) (b := 2) hx2 (show mx_Sn _ _ 18 (mx_getf 11 0 21) from sn_134 18) a1 s1 rfl rfl (hG2.prr 1 0 rfl) ?_
            refine mx_J.step (sn_134 21) (fun _ _ => rfl) ?_
            have b7 : 0 ≤ Z2 1 1 ∧ Z2 1 1 ≤ 900 := hG2.pr 1 1
            refine JgetI (g := 1) (z := Z2 1 1) hx2 (show mx_Sn _ _ 22 (mx_getf 11 1 25) from sn_134 22) a1 s1 rfl rfl rfl ?_
            refine mx_J.step (sn_134 25) (fun _ _ => rfl) ?_
            refine mx_J.step (sn_134 26) (fun _ _ => rfl) ?_
            refine JiushrX (show mx_Sn _ _ 27 (mx_iushr 28) from sn_134 27) (fun y8 hy8 => ?_)
            refine Ji2bX (show mx_Sn _ _ 28 (mx_i2b 29) from sn_134 28) (fun y9 hy9 => ?_)
            refine JbastI hx2 (show mx_Sn _ _ 29 (mx_bast 1 30) from sn_134 29) a2 s2 rfl (by omega) (by omega) (fun Z10 h10 hx10 hE10 => ?_)
            have hG10 := GI_up hG2 hE10 (show (-128) ≤ y9 ∧ y9 ≤ 127 by omega) trivial rfl
            refine mx_J.step (sn_134 30) (fun _ _ => rfl) ?_
            refine mx_J.step (sn_134 31) (fun _ _ => rfl) ?_
            have b11 : 0 ≤ Z2 1 1 ∧ Z2 1 1 ≤ 900 := hG2.pr 1 1
            refine JgetI (g := 1) (z := Z2 1 1) hx10 (show mx_Sn _ _ 32 (mx_getf 11 1 35) from sn_134 32) a1 s1 rfl rfl (up_nk hE10 rfl) ?_
            refine JcI (z := 1) (show mx_Sn _ _ 35 (mx_const (.int 1) 36) from sn_134 35) rfl ?_
            refine Jiadd (show mx_Sn _ _ 36 (mx_iadd 37) from sn_134 36) ?_
            refine JputI (g := 1) hx10 (show mx_Sn _ _ 37 (mx_putf 1 11 1 (.int) 40) from sn_134 37) a1 s1 rfl rfl rfl rfl (fun Z12 h12 hx12 hE12 => ?_)
            have hG12 := GI_up hG10 hE12 (show 0 ≤ (Z2 1 1) + 1 ∧ (Z2 1 1) + 1 ≤ 900 by omega) trivial rfl
            refine Jiinc (z := w1_2) (cz := (-8)) (ls2 := [some (.ref 1), some (xI x0), some (xI (w1_2 + (-8)))]) (show mx_Sn _ _ 40 (mx_iinc 2 (-8) 43) from sn_134 40) rfl rfl rfl rfl ?_
            refine mx_J.step (sn_134 43) (fun _ _ => rfl) ?_
            exact ih1 (w1_2 + (-8)) Z12 h12 (by omega) (by omega) hx12 hG12 (fr_tr (M := [(1, 1), (2, (-1))]) (fr_tr (M := [(1, 1), (2, (-1))]) (fr_tr (M := [(1, 1), (2, (-1))]) fr_rf (hf2) (M1 := []) rfl rfl) (fr_ua hE10) rfl rfl) (fr_up hE12) rfl rfl)
    exact c3 (Int.toNat (24 - (-8)) + 1) 24 Z h (by omega) (by omega) hx hG fr_rf
theorem ct_134_1 {l : Launch} {D : va_G} {b0 : Nat} {ad : Nat → Nat} {Hb : Heap} {tau : Nat → Int64} {d n s : Nat} {S : Nat → xS} {Z : xZ} {h : mx_H} (hx : XH n s S Z h) (hG : GI n S Z) {x0 : Int} (p0 : (-2147483648) ≤ x0 ∧ x0 ≤ 2147483647) : ∃ (Z' : xZ) (h' : mx_H), mx_Ca (tB l D b0 ad Hb tau) (d + 1) 134 [.ref 1, xI x0] h (none, h') ∧ XH n s S Z' h' ∧ GI n S Z' ∧ fr' [(1, 1), (2, (-1))] Z Z' := by
  obtain ⟨r, hca, Z', h', e, q⟩ := Jmt (B := tB l D b0 ad Hb tau) (M := mt_134) (mi := 134) (as := [.ref 1, xI x0]) (d := d + 0) (ls := [some (.ref 1), some (xI x0), none]) rfl rfl rfl rfl rfl rfl (cw_134_1 (l := l) (D := D) (b0 := b0) (ad := ad) (Hb := Hb) (tau := tau) (d := d) (Post := fun r => ∃ (Z' : xZ) (h' : mx_H), r = (none, h') ∧ XH n s S Z' h' ∧ GI n S Z' ∧ fr' [(1, 1), (2, (-1))] Z Z') hx hG p0 (fun Z' h' q1 q2 q3 => ⟨Z', h', rfl, q1, q2, q3⟩))
  subst e; exact ⟨Z', h', hca, q⟩
set_option maxRecDepth 100000 in
theorem cw_89_1 {l : Launch} {D : va_G} {b0 : Nat} {ad : Nat → Nat} {Hb : Heap} {tau : Nat → Int64} {d n s : Nat} {S : Nat → xS} {Z : xZ} {h : mx_H} {Post : mx_R → Prop} (hx : XH n s S Z h) (hG : GI n S Z) {x0 x1 x2 x3 x4 : Int} (p0 : (-2147483648) ≤ x0 ∧ x0 ≤ 2147483647) (p1 : (-2147483648) ≤ x1 ∧ x1 ≤ 2147483647) (p2 : (-2147483648) ≤ x2 ∧ x2 ≤ 2147483647) (p3 : (-2147483648) ≤ x3 ∧ x3 ≤ 2147483647) (p4 : (-2147483648) ≤ x4 ∧ x4 ≤ 2147483647) (hP : ∀ (z : Int) (Z' : xZ) (h' : mx_H), XH n s S Z' h' → GI n S Z' → fr' [(1, 1), (2, (-1))] Z Z' → (-5) ≤ z ∧ z ≤ 900 → Post (some (xI z), h')) : mx_J (tB l D b0 ad Hb tau) mt_89 (d + 1) 0 [some (.ref 1), some (xI x0), some (xI x1), some (xI x2), some (xI x3), some (xI x4)] [] h Post := by
    have a1 : 1 < n := lt83 hG.1 rfl
    have s1 : S 1 = .inl (11, [2, 0, 0, 0, 2, 2, 2, 2, 2, 2, 2, 2, 2, 2, 2, 2, 2]) := hG.2.1 1 rfl
    refine mx_J.step (sn_89 0) (fun _ _ => rfl) ?_
    have b1 : 0 ≤ Z 1 1 ∧ Z 1 1 ≤ 900 := hG.pr 1 1
    refine JgetI (g := 1) (z := Z 1 1) hx (show mx_Sn _ _ 1 (mx_getf 11 1 4) from sn_89 1) a1 s1 rfl rfl rfl ?_
    refine JcI (z := 880) (show mx_Sn _ _ 4 (mx_const (.int 880) 7) from sn_89 4) rfl ?_
    refine Jicmp_le (show mx_Sn _ _ 7 (mx_icmp_le 13 10) from sn_89 7) (by omega) (by omega) (fun q2 => ?_) (fun q2 => ?_)
    · skip
      refine mx_J.step (sn_89 13) (fun _ _ => rfl) ?_
      refine mx_J.step (sn_89 14) (fun _ _ => rfl) ?_
      obtain ⟨Z3, h3, hc3, hx3, hG3, hf3⟩ := ct_134_1 (d := d + 0) (l := l) (D := D) (b0 := b0) (ad := ad) (Hb := Hb) (tau := tau) hx hG (show (-2147483648) ≤ x0 ∧ x0 ≤ 2147483647 by omega)
      refine Jcv0 hx (show mx_Sn _ _ 15 (mx_callv 134 2 11 18) from sn_89 15) a1 s1 hc3 rfl rfl rfl ?_
      refine mx_J.step (sn_89 18) (fun _ _ => rfl) ?_
      refine mx_J.step (sn_89 19) (fun _ _ => rfl) ?_
      obtain ⟨Z4, h4, hc4, hx4, hG4, hf4⟩ := ct_134_1 (d := d + 0) (l := l) (D := D) (b0 := b0) (ad := ad) (Hb := Hb) (tau := tau) hx3 hG3 (show (-2147483648) ≤ x1 ∧ x1 ≤ 2147483647 by omega)
      refine Jcv0 hx3 (show mx_Sn _ _ 20 (mx_callv 134 2 11 23) from sn_89 20) a1 s1 hc4 rfl rfl rfl ?_
      refine mx_J.step (sn_89 23) (fun _ _ => rfl) ?_
      refine mx_J.step (sn_89 24) (fun _ _ => rfl) ?_
      obtain ⟨Z5, h5, hc5, hx5, hG5, hf5⟩ := ct_134_1 (d := d + 0) (l := l) (D := D) (b0 := b0) (ad := ad) (Hb := Hb) (tau := tau) hx4 hG4 (show (-2147483648) ≤ x2 ∧ x2 ≤ 2147483647 by omega)
      refine Jcv0 hx4 (show mx_Sn _ _ 25 (mx_callv 134 2 11 28) from sn_89 25) a1 s1 hc5 rfl rfl rfl ?_
      refine mx_J.step (sn_89 28) (fun _ _ => rfl) ?_
      refine mx_J.step (sn_89 29) (fun _ _ => rfl) ?_
      obtain ⟨Z6, h6, hc6, hx6, hG6, hf6⟩ := ct_134_1 (d := d + 0) (l := l) (D := D) (b0 := b0) (ad := ad) (Hb := Hb) (tau := tau) hx5 hG5 (show (-2147483648) ≤ x3 ∧ x3 ≤ 2147483647 by omega)
      refine Jcv0 hx5 (show mx_Sn _ _ 31 (mx_callv 134 2 11 34) from sn_89 31) a1 s1 hc6 rfl rfl rfl ?_
      refine mx_J.step (sn_89 34) (fun _ _ => rfl) ?_
      refine mx_J.step (sn_89 35) (fun _ _ => rfl) ?_
      obtain ⟨Z7, h7, hc7, hx7, hG7, hf7⟩ := ct_134_1 (d := d + 0) (l := l) (D := D) (b0 := b0) (ad := ad) (Hb := Hb) (tau := tau) hx6 hG6 (show (-2147483648) ≤ x4 ∧ x4 ≤ 2147483647 by omega)
      refine Jcv0 hx6 (show mx_Sn _ _ 37 (mx_callv 134 2 11 40) from sn_89 37) a1 s1 hc7 rfl rfl rfl ?_
      refine mx_J.step (sn_89 40) (fun _ _ => rfl) ?_
      have b8 : 0 ≤ Z7 1 1 ∧ Z7 1 1 ≤ 900 := hG7.pr 1 1
      refine JgetI (g := 1) (z := Z7 1 1) hx7 (show mx_Sn _ _ 41 (mx_getf 11 1 44) from sn_89 41) a1 s1 rfl rfl rfl ?_
      exact mx_J.ret (sn_89 44) (fun _ _ => rfl) (hP (Z7 1 1) Z7 h7 hx7 hG7 (fr_tr (M := [(1, 1), (2, (-1))]) (fr_tr (M := [(1, 1), (2, (-1))]) (fr_tr (M := [(1, 1), (2, (-1))]) (fr_tr (M := [(1, 1), (2, (-1))]) (fr_tr (M := [(1, 1), (2, (-1))]) fr_rf (hf3) (M1 := []) rfl rfl) (hf4) rfl rfl) (hf5) rfl rfl) (hf6) rfl rfl) (hf7) rfl rfl) (by omega))
    · skip
      refine JcI (z := (-5)) (show mx_Sn _ _ 10 (mx_const (.int (-5)) 12) from sn_89 10) rfl ?_
      exact mx_J.ret (sn_89 12) (fun _ _ => rfl) (hP (-5) Z h hx hG fr_rf (by omega))
theorem ct_89_1 {l : Launch} {D : va_G} {b0 : Nat} {ad : Nat → Nat} {Hb : Heap} {tau : Nat → Int64} {d n s : Nat} {S : Nat → xS} {Z : xZ} {h : mx_H} (hx : XH n s S Z h) (hG : GI n S Z) {x0 x1 x2 x3 x4 : Int} (p0 : (-2147483648) ≤ x0 ∧ x0 ≤ 2147483647) (p1 : (-2147483648) ≤ x1 ∧ x1 ≤ 2147483647) (p2 : (-2147483648) ≤ x2 ∧ x2 ≤ 2147483647) (p3 : (-2147483648) ≤ x3 ∧ x3 ≤ 2147483647) (p4 : (-2147483648) ≤ x4 ∧ x4 ≤ 2147483647) : ∃ (z : Int) (Z' : xZ) (h' : mx_H), mx_Ca (tB l D b0 ad Hb tau) (d + 2) 89 [.ref 1, xI x0, xI x1, xI x2, xI x3, xI x4] h (some (xI z), h') ∧ XH n s S Z' h' ∧ GI n S Z' ∧ fr' [(1, 1), (2, (-1))] Z Z' ∧ ((-5) ≤ z ∧ z ≤ 900) := by
  obtain ⟨r, hca, z, Z', h', e, q⟩ := Jmt (B := tB l D b0 ad Hb tau) (M := mt_89) (mi := 89) (as := [.ref 1, xI x0, xI x1, xI x2, xI x3, xI x4]) (d := d + 1) (ls := [some (.ref 1), some (xI x0), some (xI x1), some (xI x2), some (xI x3), some (xI x4)]) rfl rfl rfl rfl rfl rfl (cw_89_1 (l := l) (D := D) (b0 := b0) (ad := ad) (Hb := Hb) (tau := tau) (d := d) (Post := fun r => ∃ (z : Int) (Z' : xZ) (h' : mx_H), r = (some (xI z), h') ∧ XH n s S Z' h' ∧ GI n S Z' ∧ fr' [(1, 1), (2, (-1))] Z Z' ∧ ((-5) ≤ z ∧ z ≤ 900)) hx hG p0 p1 p2 p3 p4 (fun z Z' h' q1 q2 q3 q4 => ⟨z, Z', h', rfl, q1, q2, q3, q4⟩))
  subst e; exact ⟨z, Z', h', hca, q⟩
set_option maxRecDepth 100000 in
theorem cw_91_1 {l : Launch} {D : va_G} {b0 : Nat} {ad : Nat → Nat} {Hb : Heap} {tau : Nat → Int64} {d n s : Nat} {S : Nat → xS} {Z : xZ} {h : mx_H} {Post : mx_R → Prop} (hx : XH n s S Z h) (hG : GI n S Z) {x0 : Int} (p0 : (-2147483648) ≤ x0 ∧ x0 ≤ 2147483647) (hP : ∀ z : Int, (-1) ≤ z ∧ z ≤ 900 → Post (some (xI z), h)) : mx_J (tB l D b0 ad Hb tau) mt_91 (d + 0) 0 [some (.ref 1), some (xI x0)] [] h Post := by
    have a1 : 1 < n := lt83 hG.1 rfl
    have s1 : S 1 = .inl (11, [2, 0, 0, 0, 2, 2, 2, 2, 2, 2, 2, 2, 2, 2, 2, 2, 2]) := hG.2.1 1 rfl
    refine mx_J.step (sn_91 0) (fun _ _ => rfl) ?_
    refine Jif_ne (show mx_Sn _ _ 1 (mx_if_ne 9 4) from sn_91 1) (by omega) (fun q1 => ?_) (fun q1 => ?_)
    · skip
      refine mx_J.step (sn_91 9) (fun _ _ => rfl) ?_
      refine JcI (z := 1) (show mx_Sn _ _ 10 (mx_const (.int 1) 11) from sn_91 10) rfl ?_
      have c22 : ∀ (k2_0 : Int), (-1) ≤ k2_0 ∧ k2_0 ≤ 900 → mx_J (tB l D b0 ad Hb tau) mt_91 (d + 0) 22 [some (.ref 1), some (xI x0)] [xI k2_0] h Post := by
        intro k2_0 f2_0
        exact mx_J.ret (sn_91 22) (fun _ _ => rfl) (hP k2_0 (by omega))
      refine Jicmp_ne (show mx_Sn _ _ 11 (mx_icmp_ne 21 14) from sn_91 11) (by omega) (by omega) (fun q3 => ?_) (fun q3 => ?_)
      · skip
        refine JcI (z := (-1)) (show mx_Sn _ _ 21 (mx_const (.int (-1)) 22) from sn_91 21) rfl ?_
        exact c22 (-1) (by omega)
      · skip
        refine mx_J.step (sn_91 14) (fun _ _ => rfl) ?_
        have b4 : (-1) ≤ Z 1 3 ∧ Z 1 3 ≤ 900 := hG.pr 1 3
        refine JgetI (g := 3) (z := Z 1 3) hx (show mx_Sn _ _ 15 (mx_getf 11 3 18) from sn_91 15) a1 s1 rfl rfl rfl ?_
        refine mx_J.step (sn_91 18) (fun _ _ => rfl) ?_
        exact c22 (Z 1 3) (by omega)
    · skip
      refine mx_J.step (sn_91 4) (fun _ _ => rfl) ?_
      have b5 : 0 ≤ Z 1 2 ∧ Z 1 2 ≤ 4 := hG.pr 1 2
      refine JgetI (g := 2) (z := Z 1 2) hx (show mx_Sn _ _ 5 (mx_getf 11 2 8) from sn_91 5) a1 s1 rfl rfl rfl ?_
      exact mx_J.ret (sn_91 8) (fun _ _ => rfl) (hP (Z 1 2) (by omega))
theorem ct_91_1 {l : Launch} {D : va_G} {b0 : Nat} {ad : Nat → Nat} {Hb : Heap} {tau : Nat → Int64} {d n s : Nat} {S : Nat → xS} {Z : xZ} {h : mx_H} (hx : XH n s S Z h) (hG : GI n S Z) {x0 : Int} (p0 : (-2147483648) ≤ x0 ∧ x0 ≤ 2147483647) : ∃ z : Int, mx_Ca (tB l D b0 ad Hb tau) (d + 1) 91 [.ref 1, xI x0] h (some (xI z), h) ∧ ((-1) ≤ z ∧ z ≤ 900) := by
  obtain ⟨r, hca, z, e, hp⟩ := Jmt (B := tB l D b0 ad Hb tau) (M := mt_91) (mi := 91) (as := [.ref 1, xI x0]) (d := d + 0) (ls := [some (.ref 1), some (xI x0)]) rfl rfl rfl rfl rfl rfl (cw_91_1 (l := l) (D := D) (b0 := b0) (ad := ad) (Hb := Hb) (tau := tau) (d := d) (Post := fun r => ∃ z : Int, r = (some (xI z), h) ∧ ((-1) ≤ z ∧ z ≤ 900)) hx hG p0 (fun z hz => ⟨z, rfl, hz⟩))
  subst e; exact ⟨z, hca, hp⟩
set_option maxRecDepth 100000 in
theorem cw_92_1 {l : Launch} {D : va_G} {b0 : Nat} {ad : Nat → Nat} {Hb : Heap} {tau : Nat → Int64} {d n s : Nat} {S : Nat → xS} {Z : xZ} {h : mx_H} {Post : mx_R → Prop} (hx : XH n s S Z h) (hG : GI n S Z) {x0 : Int} (p0 : (-2147483648) ≤ x0 ∧ x0 ≤ 2147483647) (hP : ∀ z : Int, (-3) ≤ z ∧ z ≤ 18 → Post (some (xI z), h)) : mx_J (tB l D b0 ad Hb tau) mt_92 (d + 2) 0 [some (.ref 1), some (xI x0)] [] h Post := by
    have a1 : 1 < n := lt83 hG.1 rfl
    have s1 : S 1 = .inl (11, [2, 0, 0, 0, 2, 2, 2, 2, 2, 2, 2, 2, 2, 2, 2, 2, 2]) := hG.2.1 1 rfl
    have a7 : 7 < n := lt83 hG.1 rfl
    have s7 : S 7 = .inl (0, [2, 2, 2, 2, 0, 0]) := hG.2.1 7 rfl
    have a36 : 36 < n := lt83 hG.1 rfl
    have s36 : S 36 = .inl (5, [2, 0, 0, 0, 0, 0]) := hG.2.1 36 rfl
    refine mx_J.step (sn_92 0) (fun _ _ => rfl) ?_
    refine Jif_ge (show mx_Sn _ _ 1 (mx_if_ge 7 4) from sn_92 1) (by omega) (fun q1 => ?_) (fun q1 => ?_)
    · skip
      refine mx_J.step (sn_92 7) (fun _ _ => rfl) ?_
      refine mx_J.step (sn_92 8) (fun _ _ => rfl) ?_
      refine JgetR (g := 5) (b := 7) hx (show mx_Sn _ _ 9 (mx_getf 11 5 12) from sn_92 9) a1 s1 rfl rfl (hG.prr 1 5 rfl) ?_
      refine mx_J.step (sn_92 12) (fun _ _ => rfl) ?_
      refine JgetR (g := 12) (b := 36) hx (show mx_Sn _ _ 13 (mx_getf 11 12 16) from sn_92 13) a1 s1 rfl rfl (hG.prr 1 12 rfl) ?_
      have b2 : 0 ≤ Z 36 2 ∧ Z 36 2 ≤ 384 := hG.pr 36 2
      refine JgetI (g := 2) (z := Z 36 2) hx (show mx_Sn _ _ 16 (mx_getf 5 2 19) from sn_92 16) a36 s36 rfl rfl rfl ?_
      obtain ⟨z3, hc3, b3⟩ := ct_5_7 (d := d + 1) (l := l) (D := D) (b0 := b0) (ad := ad) (Hb := Hb) (tau := tau) hx hG (show (-2147483648) ≤ Z 36 2 ∧ Z 36 2 ≤ 2147483647 by omega)
      refine Jcv hx (show mx_Sn _ _ 19 (mx_callv 5 2 0 22) from sn_92 19) a7 s7 hc3 rfl rfl rfl ?_
      have c44 : ∀ (k4_0 : Int), (-1) ≤ k4_0 ∧ k4_0 ≤ 18 → mx_J (tB l D b0 ad Hb tau) mt_92 (d + 2) 44 [some (.ref 1), some (xI x0)] [xI k4_0] h Post := by
        intro k4_0 f4_0
        exact mx_J.ret (sn_92 44) (fun _ _ => rfl) (hP k4_0 (by omega))
      refine Jicmp_ge (show mx_Sn _ _ 22 (mx_icmp_ge 43 25) from sn_92 22) (by omega) (by omega) (fun q5 => ?_) (fun q5 => ?_)
      · skip
        refine JcI (z := (-1)) (show mx_Sn _ _ 43 (mx_const (.int (-1)) 44) from sn_92 43) rfl ?_
        exact c44 (-1) (by omega)
      · skip
        refine mx_J.step (sn_92 25) (fun _ _ => rfl) ?_
        refine JgetR (g := 5) (b := 7) hx (show mx_Sn _ _ 26 (mx_getf 11 5 29) from sn_92 26) a1 s1 rfl rfl (hG.prr 1 5 rfl) ?_
        refine mx_J.step (sn_92 29) (fun _ _ => rfl) ?_
        refine JgetR (g := 12) (b := 36) hx (show mx_Sn _ _ 30 (mx_getf 11 12 33) from sn_92 30) a1 s1 rfl rfl (hG.prr 1 12 rfl) ?_
        have b6 : 0 ≤ Z 36 2 ∧ Z 36 2 ≤ 384 := hG.pr 36 2
        refine JgetI (g := 2) (z := Z 36 2) hx (show mx_Sn _ _ 33 (mx_getf 5 2 36) from sn_92 33) a36 s36 rfl rfl rfl ?_
        refine mx_J.step (sn_92 36) (fun _ _ => rfl) ?_
        obtain ⟨z7, hc7, b7⟩ := ct_6_7 (d := d + 0) (l := l) (D := D) (b0 := b0) (ad := ad) (Hb := Hb) (tau := tau) hx hG (show (-2147483648) ≤ Z 36 2 ∧ Z 36 2 ≤ 2147483647 by omega) (show (-2147483648) ≤ x0 ∧ x0 ≤ 2147483647 by omega)
        refine Jcv hx (show mx_Sn _ _ 37 (mx_callv 6 3 0 40) from sn_92 37) a7 s7 hc7 rfl rfl rfl ?_
        refine mx_J.step (sn_92 40) (fun _ _ => rfl) ?_
        exact c44 z7 (by omega)
    · skip
      refine JcI (z := (-3)) (show mx_Sn _ _ 4 (mx_const (.int (-3)) 6) from sn_92 4) rfl ?_
      exact mx_J.ret (sn_92 6) (fun _ _ => rfl) (hP (-3) (by omega))
theorem ct_92_1 {l : Launch} {D : va_G} {b0 : Nat} {ad : Nat → Nat} {Hb : Heap} {tau : Nat → Int64} {d n s : Nat} {S : Nat → xS} {Z : xZ} {h : mx_H} (hx : XH n s S Z h) (hG : GI n S Z) {x0 : Int} (p0 : (-2147483648) ≤ x0 ∧ x0 ≤ 2147483647) : ∃ z : Int, mx_Ca (tB l D b0 ad Hb tau) (d + 3) 92 [.ref 1, xI x0] h (some (xI z), h) ∧ ((-3) ≤ z ∧ z ≤ 18) := by
  obtain ⟨r, hca, z, e, hp⟩ := Jmt (B := tB l D b0 ad Hb tau) (M := mt_92) (mi := 92) (as := [.ref 1, xI x0]) (d := d + 2) (ls := [some (.ref 1), some (xI x0)]) rfl rfl rfl rfl rfl rfl (cw_92_1 (l := l) (D := D) (b0 := b0) (ad := ad) (Hb := Hb) (tau := tau) (d := d) (Post := fun r => ∃ z : Int, r = (some (xI z), h) ∧ ((-3) ≤ z ∧ z ≤ 18)) hx hG p0 (fun z hz => ⟨z, rfl, hz⟩))
  subst e; exact ⟨z, hca, hp⟩
set_option maxRecDepth 100000 in
theorem cw_9_7_6 {l : Launch} {D : va_G} {b0 : Nat} {ad : Nat → Nat} {Hb : Heap} {tau : Nat → Int64} {d n s : Nat} {S : Nat → xS} {Z : xZ} {h : mx_H} {Post : mx_R → Prop} (hx : XH n s S Z h) (hG : GI n S Z) (m6 : AB Z 6 19 (-40) 40) (hP : ∀ z : Int, 0 ≤ z ∧ z ≤ 384 → Post (some (xI z), h)) : mx_J (tB l D b0 ad Hb tau) mt_9 (d + 1) 0 [some (.ref 7), some (.ref 6), none, none, none, none] [] h Post := by
    have a6 : 6 < n := lt83 hG.1 rfl
    have s6 : S 6 = .inr (.int, 19, 0) := hG.2.1 6 rfl
    have a7 : 7 < n := lt83 hG.1 rfl
    have s7 : S 7 = .inl (0, [2, 2, 2, 2, 0, 0]) := hG.2.1 7 rfl
    refine JcI (z := 0) (show mx_Sn _ _ 0 (mx_const (.int 0) 1) from sn_9 0) rfl ?_
    refine mx_J.step (ls2 := [some (.ref 7), some (.ref 6), some (xI 0), none, none, none]) (sn_9 1) (fun _ _ => rfl) ?_
    refine mx_J.step (sn_9 2) (fun _ _ => rfl) ?_
    have b1 : 0 ≤ Z 7 4 ∧ Z 7 4 ≤ 18 := hG.pr 7 4
    refine JgetI (g := 4) (z := Z 7 4) hx (show mx_Sn _ _ 3 (mx_getf 0 4 6) from sn_9 3) a7 s7 rfl rfl rfl ?_
    refine mx_J.step (ls2 := [some (.ref 7), some (.ref 6), some (xI 0), some (xI (Z 7 4)), none, none]) (sn_9 6) (fun _ _ => rfl) ?_
    have wd := W1z (n := (Z 7 4)) (by omega)
    refine JcI (z := 18) (show mx_Sn _ _ 7 (mx_const (.int 18) 9) from sn_9 7) rfl ?_
    refine mx_J.step (ls2 := [some (.ref 7), some (.ref 6), some (xI 0), some (xI (Z 7 4)), some (xI 18), none]) (sn_9 9) (fun _ _ => rfl) ?_
    refine JcI (z := 18) (show mx_Sn _ _ 11 (mx_const (.int 18) 13) from sn_9 11) rfl ?_
    refine mx_J.step (ls2 := [some (.ref 7), some (.ref 6), some (xI 0), some (xI (Z 7 4)), some (xI 18), some (xI 18)]) (sn_9 13) (fun _ _ => rfl) ?_
    have c15 : ∀ (m2 : Nat) (w2_2 : Int) (w2_3 : Int) (w2_4 : Int) (w2_5 : Int), w2_5 - 0 < (m2 : Int) → 0 ≤ w2_2 ∧ w2_2 ≤ 384 → (-719) ≤ w2_3 ∧ w2_3 ≤ 18 → 1 ≤ w2_4 ∧ w2_4 ≤ 18 → 0 ≤ w2_5 ∧ w2_5 ≤ 18 → (w2_3 ≤ 0 ∨ w2_2 + wy (w2_3 * 19 + w2_4) ≤ 385) → w2_5 ≤ w2_4 → mx_J (tB l D b0 ad Hb tau) mt_9 (d + 1) 15 [some (.ref 7), some (.ref 6), some (xI w2_2), some (xI w2_3), some (xI w2_4), some (xI w2_5)] [] h Post := by
      intro m2
      induction m2 with
      | zero => intro w2_2 w2_3 w2_4 w2_5 q2 f2_0 f2_1 f2_2 f2_3 f2_4 f2_5; exact absurd q2 (by omega)
      | succ m2 ih2 =>
        intro w2_2 w2_3 w2_4 w2_5 q2 f2_0 f2_1 f2_2 f2_3 f2_4 f2_5
        refine mx_J.step (sn_9 15) (fun _ _ => rfl) ?_
        have c69 : mx_J (tB l D b0 ad Hb tau) mt_9 (d + 1) 69 [some (.ref 7), some (.ref 6), some (xI w2_2), some (xI w2_3), some (xI w2_4), some (xI w2_5)] [] h Post := by
          refine mx_J.step (sn_9 69) (fun _ _ => rfl) ?_
          exact mx_J.ret (sn_9 70) (fun _ _ => rfl) (hP w2_2 (by omega))
        refine Jif_le (show mx_Sn _ _ 17 (mx_if_le 69 20) from sn_9 17) (by omega) (fun q4 => ?_) (fun q4 => ?_)
        · skip
          exact c69 
        · skip
          refine mx_J.step (sn_9 20) (fun _ _ => rfl) ?_
          refine Jif_le (show mx_Sn _ _ 21 (mx_if_le 69 24) from sn_9 21) (by omega) (fun q5 => ?_) (fun q5 => ?_)
          · skip
            exact c69 
          · skip
            refine mx_J.step (sn_9 24) (fun _ _ => rfl) ?_
            refine mx_J.step (sn_9 25) (fun _ _ => rfl) ?_
            have b6 : (-40) ≤ Z 6 w2_5 ∧ Z 6 w2_5 ≤ 40 := m6 w2_5 (by omega) (by omega)
            have b7 : (-2147483648) ≤ Z 6 w2_5 ∧ Z 6 w2_5 ≤ 2147483647 := hG.pr 6 w2_5
            refine JialdI (z := Z 6 w2_5) hx (show mx_Sn _ _ 27 (mx_iald 28) from sn_9 27) a6 s6 (by omega) rfl ?_
            have c63 : ∀ (w8_2 : Int) (w8_3 : Int) (w8_4 : Int), 0 ≤ w8_2 ∧ w8_2 ≤ 384 → (-719) ≤ w8_3 ∧ w8_3 ≤ 18 → 1 ≤ w8_4 ∧ w8_4 ≤ 18 → (w8_3 ≤ 0 ∨ w8_2 + wy (w8_3 * 19 + w8_4) ≤ 385) → w2_5 ≤ w8_4 → mx_J (tB l D b0 ad Hb tau) mt_9 (d + 1) 63 [some (.ref 7), some (.ref 6), some (xI w8_2), some (xI w8_3), some (xI w8_4), some (xI w2_5)] [] h Post := by
              intro w8_2 w8_3 w8_4 f8_0 f8_1 f8_2 f8_3 f8_4
              refine Jiinc (z := w2_5) (cz := (-1)) (ls2 := [some (.ref 7), some (.ref 6), some (xI w8_2), some (xI w8_3), some (xI w8_4), some (xI (w2_5 + (-1)))]) (show mx_Sn _ _ 63 (mx_iinc 5 (-1) 66) from sn_9 63) rfl rfl rfl rfl ?_
              refine mx_J.step (sn_9 66) (fun _ _ => rfl) ?_
              exact ih2 w8_2 w8_3 w8_4 (w2_5 + (-1)) (by omega) (by omega) (by omega) (by omega) (by omega) (by omega) (by omega)
            refine Jif_le (show mx_Sn _ _ 28 (mx_if_le 63 31) from sn_9 28) (by omega) (fun q9 => ?_) (fun q9 => ?_)
            · skip
              exact c63 w2_2 w2_3 w2_4 (by omega) (by omega) (by omega) (by omega) (by omega)
            · skip
              refine mx_J.step (sn_9 31) (fun _ _ => rfl) ?_
              refine mx_J.step (sn_9 32) (fun _ _ => rfl) ?_
              refine mx_J.step (sn_9 33) (fun _ _ => rfl) ?_
              refine mx_J.step (sn_9 34) (fun _ _ => rfl) ?_
              obtain ⟨z10, hc10, b10⟩ := ct_2_7 (d := d + 0) (l := l) (D := D) (b0 := b0) (ad := ad) (Hb := Hb) (tau := tau) hx hG (show 0 ≤ w2_3 ∧ w2_3 ≤ 18 by omega) (show 0 ≤ w2_4 ∧ w2_4 ≤ 18 by omega)
              refine Jcv hx (show mx_Sn _ _ 36 (mx_callv 2 3 0 39) from sn_9 36) a7 s7 hc10 rfl rfl rfl ?_
              refine mx_J.step (sn_9 39) (fun _ _ => rfl) ?_
              refine mx_J.step (sn_9 40) (fun _ _ => rfl) ?_
              refine mx_J.step (sn_9 41) (fun _ _ => rfl) ?_
              obtain ⟨z11, hc11, b11⟩ := ct_2_7 (d := d + 0) (l := l) (D := D) (b0 := b0) (ad := ad) (Hb := Hb) (tau := tau) hx hG (show 0 ≤ w2_3 ∧ w2_3 ≤ 18 by omega) (show 0 ≤ w2_5 ∧ w2_5 ≤ 18 by omega)
              refine Jcv hx (show mx_Sn _ _ 43 (mx_callv 2 3 0 46) from sn_9 43) a7 s7 hc11 rfl rfl rfl ?_
              refine Jisub (show mx_Sn _ _ 46 (mx_isub 47) from sn_9 46) ?_
              refine Jiadd (show mx_Sn _ _ 47 (mx_iadd 48) from sn_9 47) ?_
              refine mx_J.step (ls2 := [some (.ref 7), some (.ref 6), some (xI (w2_2 + (z10 - z11))), some (xI w2_3), some (xI w2_4), some (xI w2_5)]) (sn_9 48) (fun _ _ => rfl) ?_
              refine mx_J.step (sn_9 49) (fun _ _ => rfl) ?_
              refine mx_J.step (sn_9 50) (fun _ _ => rfl) ?_
              refine mx_J.step (sn_9 52) (fun _ _ => rfl) ?_
              refine mx_J.step (sn_9 53) (fun _ _ => rfl) ?_
              have b12 : (-40) ≤ Z 6 w2_5 ∧ Z 6 w2_5 ≤ 40 := m6 w2_5 (by omega) (by omega)
              have b13 : (-2147483648) ≤ Z 6 w2_5 ∧ Z 6 w2_5 ≤ 2147483647 := hG.pr 6 w2_5
              refine JialdI (z := Z 6 w2_5) hx (show mx_Sn _ _ 55 (mx_iald 56) from sn_9 55) a6 s6 (by omega) rfl ?_
              refine JimulP (A := 18) (C := 40) (show mx_Sn _ _ 56 (mx_imul 57) from sn_9 56) (by omega) (by omega) (by decide) (fun y14 hy14 => ?_)
              refine Jisub (show mx_Sn _ _ 57 (mx_isub 58) from sn_9 57) ?_
              have wa := W1 (n := w2_3) (m := w2_5) (by omega) (by omega)
              have wb : (w2_3 - y14) < 0 ∨ wy ((w2_3 - y14) * 19 + w2_5) ≤ wy (w2_3 * 19 + w2_5) := W2 (by omega) (by omega)
              have wc : wy (w2_3 * 19 + w2_5) ≤ wy (w2_3 * 19 + w2_4) := W3 (by omega) (by omega)
              refine mx_J.step (ls2 := [some (.ref 7), some (.ref 6), some (xI (w2_2 + (z10 - z11))), some (xI (w2_3 - y14)), some (xI w2_4), some (xI w2_5)]) (sn_9 58) (fun _ _ => rfl) ?_
              refine mx_J.step (sn_9 59) (fun _ _ => rfl) ?_
              refine mx_J.step (ls2 := [some (.ref 7), some (.ref 6), some (xI (w2_2 + (z10 - z11))), some (xI (w2_3 - y14)), some (xI w2_5), some (xI w2_5)]) (sn_9 61) (fun _ _ => rfl) ?_
              exact c63 (w2_2 + (z10 - z11)) (w2_3 - y14) w2_5 (by omega) (by omega) (by omega) (by omega) (by omega)
    exact c15 (Int.toNat (18 - 0) + 1) 0 (Z 7 4) 18 18 (by omega) (by omega) (by omega) (by omega) (by omega) (by omega) (by omega)
theorem ct_9_7_6 {l : Launch} {D : va_G} {b0 : Nat} {ad : Nat → Nat} {Hb : Heap} {tau : Nat → Int64} {d n s : Nat} {S : Nat → xS} {Z : xZ} {h : mx_H} (hx : XH n s S Z h) (hG : GI n S Z) (m6 : AB Z 6 19 (-40) 40) : ∃ z : Int, mx_Ca (tB l D b0 ad Hb tau) (d + 2) 9 [.ref 7, .ref 6] h (some (xI z), h) ∧ (0 ≤ z ∧ z ≤ 384) := by
  obtain ⟨r, hca, z, e, hp⟩ := Jmt (B := tB l D b0 ad Hb tau) (M := mt_9) (mi := 9) (as := [.ref 7, .ref 6]) (d := d + 1) (ls := [some (.ref 7), some (.ref 6), none, none, none, none]) rfl rfl rfl rfl rfl rfl (cw_9_7_6 (l := l) (D := D) (b0 := b0) (ad := ad) (Hb := Hb) (tau := tau) (d := d) (Post := fun r => ∃ z : Int, r = (some (xI z), h) ∧ (0 ≤ z ∧ z ≤ 384)) hx hG m6 (fun z hz => ⟨z, rfl, hz⟩))
  subst e; exact ⟨z, hca, hp⟩
set_option maxRecDepth 100000 in
theorem cw_9_7_42 {l : Launch} {D : va_G} {b0 : Nat} {ad : Nat → Nat} {Hb : Heap} {tau : Nat → Int64} {d n s : Nat} {S : Nat → xS} {Z : xZ} {h : mx_H} {Post : mx_R → Prop} (hx : XH n s S Z h) (hG : GI n S Z) (m42 : AB Z 42 19 (-40) 40) (hP : ∀ z : Int, 0 ≤ z ∧ z ≤ 384 → Post (some (xI z), h)) : mx_J (tB l D b0 ad Hb tau) mt_9 (d + 1) 0 [some (.ref 7), some (.ref 42), none, none, none, none] [] h Post := by
    have a7 : 7 < n := lt83 hG.1 rfl
    have s7 : S 7 = .inl (0, [2, 2, 2, 2, 0, 0]) := hG.2.1 7 rfl
    have a42 : 42 < n := lt83 hG.1 rfl
    have s42 : S 42 = .inr (.int, 19, 0) := hG.2.1 42 rfl
    refine JcI (z := 0) (show mx_Sn _ _ 0 (mx_const (.int 0) 1) from sn_9 0) rfl ?_
    refine mx_J.step (ls2 := [some (.ref 7), some (.ref 42), some (xI 0), none, none, none]) (sn_9 1) (fun _ _ => rfl) ?_
    refine mx_J.step (sn_9 2) (fun _ _ => rfl) ?_
    have b1 : 0 ≤ Z 7 4 ∧ Z 7 4 ≤ 18 := hG.pr 7 4
    refine JgetI (g := 4) (z := Z 7 4) hx (show mx_Sn _ _ 3 (mx_getf 0 4 6) from sn_9 3) a7 s7 rfl rfl rfl ?_
    refine mx_J.step (ls2 := [some (.ref 7), some (.ref 42), some (xI 0), some (xI (Z 7 4)), none, none]) (sn_9 6) (fun _ _ => rfl) ?_
    have wd := W1z (n := (Z 7 4)) (by omega)
    refine JcI (z := 18) (show mx_Sn _ _ 7 (mx_const (.int 18) 9) from sn_9 7) rfl ?_
    refine mx_J.step (ls2 := [some (.ref 7), some (.ref 42), some (xI 0), some (xI (Z 7 4)), some (xI 18), none]) (sn_9 9) (fun _ _ => rfl) ?_
    refine JcI (z := 18) (show mx_Sn _ _ 11 (mx_const (.int 18) 13) from sn_9 11) rfl ?_
    refine mx_J.step (ls2 := [some (.ref 7), some (.ref 42), some (xI 0), some (xI (Z 7 4)), some (xI 18), some (xI 18)]) (sn_9 13) (fun _ _ => rfl) ?_
    have c15 : ∀ (m2 : Nat) (w2_2 : Int) (w2_3 : Int) (w2_4 : Int) (w2_5 : Int), w2_5 - 0 < (m2 : Int) → 0 ≤ w2_2 ∧ w2_2 ≤ 384 → (-719) ≤ w2_3 ∧ w2_3 ≤ 18 → 1 ≤ w2_4 ∧ w2_4 ≤ 18 → 0 ≤ w2_5 ∧ w2_5 ≤ 18 → (w2_3 ≤ 0 ∨ w2_2 + wy (w2_3 * 19 + w2_4) ≤ 385) → w2_5 ≤ w2_4 → mx_J (tB l D b0 ad Hb tau) mt_9 (d + 1) 15 [some (.ref 7), some (.ref 42), some (xI w2_2), some (xI w2_3), some (xI w2_4), some (xI w2_5)] [] h Post := by
      intro m2
      induction m2 with
      | zero => intro w2_2 w2_3 w2_4 w2_5 q2 f2_0 f2_1 f2_2 f2_3 f2_4 f2_5; exact absurd q2 (by omega)
      | succ m2 ih2 =>
        intro w2_2 w2_3 w2_4 w2_5 q2 f2_0 f2_1 f2_2 f2_3 f2_4 f2_5
        refine mx_J.step (sn_9 15) (fun _ _ => rfl) ?_
        have c69 : mx_J (tB l D b0 ad Hb tau) mt_9 (d + 1) 69 [some (.ref 7), some (.ref 42), some (xI w2_2), some (xI w2_3), some (xI w2_4), some (xI w2_5)] [] h Post := by
          refine mx_J.step (sn_9 69) (fun _ _ => rfl) ?_
          exact mx_J.ret (sn_9 70) (fun _ _ => rfl) (hP w2_2 (by omega))
        refine Jif_le (show mx_Sn _ _ 17 (mx_if_le 69 20) from sn_9 17) (by omega) (fun q4 => ?_) (fun q4 => ?_)
        · skip
          exact c69 
        · skip
          refine mx_J.step (sn_9 20) (fun _ _ => rfl) ?_
          refine Jif_le (show mx_Sn _ _ 21 (mx_if_le 69 24) from sn_9 21) (by omega) (fun q5 => ?_) (fun q5 => ?_)
          · skip
            exact c69 
          · skip
            refine mx_J.step (sn_9 24) (fun _ _ => rfl) ?_
            refine mx_J.step (sn_9 25) (fun _ _ => rfl) ?_
            have b6 : (-40) ≤ Z 42 w2_5 ∧ Z 42 w2_5 ≤ 40 := m42 w2_5 (by omega) (by omega)
            have b7 : (-2147483648) ≤ Z 42 w2_5 ∧ Z 42 w2_5 ≤ 2147483647 := hG.pr 42 w2_5
            refine JialdI (z := Z 42 w2_5) hx (show mx_Sn _ _ 27 (mx_iald 28) from sn_9 27) a42 s42 (by omega) rfl ?_
            have c63 : ∀ (w8_2 : Int) (w8_3 : Int) (w8_4 : Int), 0 ≤ w8_2 ∧ w8_2 ≤ 384 → (-719) ≤ w8_3 ∧ w8_3 ≤ 18 → 1 ≤ w8_4 ∧ w8_4 ≤ 18 → (w8_3 ≤ 0 ∨ w8_2 + wy (w8_3 * 19 + w8_4) ≤ 385) → w2_5 ≤ w8_4 → mx_J (tB l D b0 ad Hb tau) mt_9 (d + 1) 63 [some (.ref 7), some (.ref 42), some (xI w8_2), some (xI w8_3), some (xI w8_4), some (xI w2_5)] [] h Post := by
              intro w8_2 w8_3 w8_4 f8_0 f8_1 f8_2 f8_3 f8_4
              refine Jiinc (z := w2_5) (cz := (-1)) (ls2 := [some (.ref 7), some (.ref 42), some (xI w8_2), some (xI w8_3), some (xI w8_4), some (xI (w2_5 + (-1)))]) (show mx_Sn _ _ 63 (mx_iinc 5 (-1) 66) from sn_9 63) rfl rfl rfl rfl ?_
              refine mx_J.step (sn_9 66) (fun _ _ => rfl) ?_
              exact ih2 w8_2 w8_3 w8_4 (w2_5 + (-1)) (by omega) (by omega) (by omega) (by omega) (by omega) (by omega) (by omega)
            refine Jif_le (show mx_Sn _ _ 28 (mx_if_le 63 31) from sn_9 28) (by omega) (fun q9 => ?_) (fun q9 => ?_)
            · skip
              exact c63 w2_2 w2_3 w2_4 (by omega) (by omega) (by omega) (by omega) (by omega)
            · skip
              refine mx_J.step (sn_9 31) (fun _ _ => rfl) ?_
              refine mx_J.step (sn_9 32) (fun _ _ => rfl) ?_
              refine mx_J.step (sn_9 33) (fun _ _ => rfl) ?_
              refine mx_J.step (sn_9 34) (fun _ _ => rfl) ?_
              obtain ⟨z10, hc10, b10⟩ := ct_2_7 (d := d + 0) (l := l) (D := D) (b0 := b0) (ad := ad) (Hb := Hb) (tau := tau) hx hG (show 0 ≤ w2_3 ∧ w2_3 ≤ 18 by omega) (show 0 ≤ w2_4 ∧ w2_4 ≤ 18 by omega)
              refine Jcv hx (show mx_Sn _ _ 36 (mx_callv 2 3 0 39) from sn_9 36) a7 s7 hc10 rfl rfl rfl ?_
              refine mx_J.step (sn_9 39) (fun _ _ => rfl) ?_
              refine mx_J.step (sn_9 40) (fun _ _ => rfl) ?_
              refine mx_J.step (sn_9 41) (fun _ _ => rfl) ?_
              obtain ⟨z11, hc11, b11⟩ := ct_2_7 (d := d + 0) (l := l) (D := D) (b0 := b0) (ad := ad) (Hb := Hb) (tau := tau) hx hG (show 0 ≤ w2_3 ∧ w2_3 ≤ 18 by omega) (show 0 ≤ w2_5 ∧ w2_5 ≤ 18 by omega)
              refine Jcv hx (show mx_Sn _ _ 43 (mx_callv 2 3 0 46) from sn_9 43) a7 s7 hc11 rfl rfl rfl ?_
              refine Jisub (show mx_Sn _ _ 46 (mx_isub 47) from sn_9 46) ?_
              refine Jiadd (show mx_Sn _ _ 47 (mx_iadd 48) from sn_9 47) ?_
              refine mx_J.step (ls2 := [some (.ref 7), some (.ref 42), some (xI (w2_2 + (z10 - z11))), some (xI w2_3), some (xI w2_4), some (xI w2_5)]) (sn_9 48) (fun _ _ => rfl) ?_
              refine mx_J.step (sn_9 49) (fun _ _ => rfl) ?_
              refine mx_J.step (sn_9 50) (fun _ _ => rfl) ?_
              refine mx_J.step (sn_9 52) (fun _ _ => rfl) ?_
              refine mx_J.step (sn_9 53) (fun _ _ => rfl) ?_
              have b12 : (-40) ≤ Z 42 w2_5 ∧ Z 42 w2_5 ≤ 40 := m42 w2_5 (by omega) (by omega)
              have b13 : (-2147483648) ≤ Z 42 w2_5 ∧ Z 42 w2_5 ≤ 2147483647 := hG.pr 42 w2_5
              refine JialdI (z := Z 42 w2_5) hx (show mx_Sn _ _ 55 (mx_iald 56) from sn_9 55) a42 s42 (by omega) rfl ?_
              refine JimulP (A := 18) (C := 40) (show mx_Sn _ _ 56 (mx_imul 57) from sn_9 56) (by omega) (by omega) (by decide) (fun y14 hy14 => ?_)
              refine Jisub (show mx_Sn _ _ 57 (mx_isub 58) from sn_9 57) ?_
              have wa := W1 (n := w2_3) (m := w2_5) (by omega) (by omega)
              have wb : (w2_3 - y14) < 0 ∨ wy ((w2_3 - y14) * 19 + w2_5) ≤ wy (w2_3 * 19 + w2_5) := W2 (by omega) (by omega)
              have wc : wy (w2_3 * 19 + w2_5) ≤ wy (w2_3 * 19 + w2_4) := W3 (by omega) (by omega)
              refine mx_J.step (ls2 := [some (.ref 7), some (.ref 42), some (xI (w2_2 + (z10 - z11))), some (xI (w2_3 - y14)), some (xI w2_4), some (xI w2_5)]) (sn_9 58) (fun _ _ => rfl) ?_
              refine mx_J.step (sn_9 59) (fun _ _ => rfl) ?_
              refine mx_J.step (ls2 := [some (.ref 7), some (.ref 42), some (xI (w2_2 + (z10 - z11))), some (xI (w2_3 - y14)), some (xI w2_5), some (xI w2_5)]) (sn_9 61) (fun _ _ => rfl) ?_
              exact c63 (w2_2 + (z10 - z11)) (w2_3 - y14) w2_5 (by omega) (by omega) (by omega) (by omega) (by omega)
    exact c15 (Int.toNat (18 - 0) + 1) 0 (Z 7 4) 18 18 (by omega) (by omega) (by omega) (by omega) (by omega) (by omega) (by omega)
theorem ct_9_7_42 {l : Launch} {D : va_G} {b0 : Nat} {ad : Nat → Nat} {Hb : Heap} {tau : Nat → Int64} {d n s : Nat} {S : Nat → xS} {Z : xZ} {h : mx_H} (hx : XH n s S Z h) (hG : GI n S Z) (m42 : AB Z 42 19 (-40) 40) : ∃ z : Int, mx_Ca (tB l D b0 ad Hb tau) (d + 2) 9 [.ref 7, .ref 42] h (some (xI z), h) ∧ (0 ≤ z ∧ z ≤ 384) := by
  obtain ⟨r, hca, z, e, hp⟩ := Jmt (B := tB l D b0 ad Hb tau) (M := mt_9) (mi := 9) (as := [.ref 7, .ref 42]) (d := d + 1) (ls := [some (.ref 7), some (.ref 42), none, none, none, none]) rfl rfl rfl rfl rfl rfl (cw_9_7_42 (l := l) (D := D) (b0 := b0) (ad := ad) (Hb := Hb) (tau := tau) (d := d) (Post := fun r => ∃ z : Int, r = (some (xI z), h) ∧ (0 ≤ z ∧ z ≤ 384)) hx hG m42 (fun z hz => ⟨z, rfl, hz⟩))
  subst e; exact ⟨z, hca, hp⟩
set_option maxRecDepth 100000 in
theorem cw_9_7_19 {l : Launch} {D : va_G} {b0 : Nat} {ad : Nat → Nat} {Hb : Heap} {tau : Nat → Int64} {d n s : Nat} {S : Nat → xS} {Z : xZ} {h : mx_H} {Post : mx_R → Prop} (hx : XH n s S Z h) (hG : GI n S Z) (m19 : AB Z 19 19 (-40) 40) (hP : ∀ z : Int, 0 ≤ z ∧ z ≤ 384 → Post (some (xI z), h)) : mx_J (tB l D b0 ad Hb tau) mt_9 (d + 1) 0 [some (.ref 7), some (.ref 19), none, none, none, none] [] h Post := by
    have a7 : 7 < n := lt83 hG.1 rfl
    have s7 : S 7 = .inl (0, [2, 2, 2, 2, 0, 0]) := hG.2.1 7 rfl
    have a19 : 19 < n := lt83 hG.1 rfl
    have s19 : S 19 = .inr (.int, 19, 0) := hG.2.1 19 rfl
    refine JcI (z := 0) (show mx_Sn _ _ 0 (mx_const (.int 0) 1) from sn_9 0) rfl ?_
    refine mx_J.step (ls2 := [some (.ref 7), some (.ref 19), some (xI 0), none, none, none]) (sn_9 1) (fun _ _ => rfl) ?_
    refine mx_J.step (sn_9 2) (fun _ _ => rfl) ?_
    have b1 : 0 ≤ Z 7 4 ∧ Z 7 4 ≤ 18 := hG.pr 7 4
    refine JgetI (g := 4) (z := Z 7 4) hx (show mx_Sn _ _ 3 (mx_getf 0 4 6) from sn_9 3) a7 s7 rfl rfl rfl ?_
    refine mx_J.step (ls2 := [some (.ref 7), some (.ref 19), some (xI 0), some (xI (Z 7 4)), none, none]) (sn_9 6) (fun _ _ => rfl) ?_
    have wd := W1z (n := (Z 7 4)) (by omega)
    refine JcI (z := 18) (show mx_Sn _ _ 7 (mx_const (.int 18) 9) from sn_9 7) rfl ?_
    refine mx_J.step (ls2 := [some (.ref 7), some (.ref 19), some (xI 0), some (xI (Z 7 4)), some (xI 18), none]) (sn_9 9) (fun _ _ => rfl) ?_
    refine JcI (z := 18) (show mx_Sn _ _ 11 (mx_const (.int 18) 13) from sn_9 11) rfl ?_
    refine mx_J.step (ls2 := [some (.ref 7), some (.ref 19), some (xI 0), some (xI (Z 7 4)), some (xI 18), some (xI 18)]) (sn_9 13) (fun _ _ => rfl) ?_
    have c15 : ∀ (m2 : Nat) (w2_2 : Int) (w2_3 : Int) (w2_4 : Int) (w2_5 : Int), w2_5 - 0 < (m2 : Int) → 0 ≤ w2_2 ∧ w2_2 ≤ 384 → (-719) ≤ w2_3 ∧ w2_3 ≤ 18 → 1 ≤ w2_4 ∧ w2_4 ≤ 18 → 0 ≤ w2_5 ∧ w2_5 ≤ 18 → (w2_3 ≤ 0 ∨ w2_2 + wy (w2_3 * 19 + w2_4) ≤ 385) → w2_5 ≤ w2_4 → mx_J (tB l D b0 ad Hb tau) mt_9 (d + 1) 15 [some (.ref 7), some (.ref 19), some (xI w2_2), some (xI w2_3), some (xI w2_4), some (xI w2_5)] [] h Post := by
      intro m2
      induction m2 with
      | zero => intro w2_2 w2_3 w2_4 w2_5 q2 f2_0 f2_1 f2_2 f2_3 f2_4 f2_5; exact absurd q2 (by omega)
      | succ m2 ih2 =>
        intro w2_2 w2_3 w2_4 w2_5 q2 f2_0 f2_1 f2_2 f2_3 f2_4 f2_5
        refine mx_J.step (sn_9 15) (fun _ _ => rfl) ?_
        have c69 : mx_J (tB l D b0 ad Hb tau) mt_9 (d + 1) 69 [some (.ref 7), some (.ref 19), some (xI w2_2), some (xI w2_3), some (xI w2_4), some (xI w2_5)] [] h Post := by
          refine mx_J.step (sn_9 69) (fun _ _ => rfl) ?_
          exact mx_J.ret (sn_9 70) (fun _ _ => rfl) (hP w2_2 (by omega))
        refine Jif_le (show mx_Sn _ _ 17 (mx_if_le 69 20) from sn_9 17) (by omega) (fun q4 => ?_) (fun q4 => ?_)
        · skip
          exact c69 
        · skip
          refine mx_J.step (sn_9 20) (fun _ _ => rfl) ?_
          refine Jif_le (show mx_Sn _ _ 21 (mx_if_le 69 24) from sn_9 21) (by omega) (fun q5 => ?_) (fun q5 => ?_)
          · skip
            exact c69 
          · skip
            refine mx_J.step (sn_9 24) (fun _ _ => rfl) ?_
            refine mx_J.step (sn_9 25) (fun _ _ => rfl) ?_
            have b6 : (-40) ≤ Z 19 w2_5 ∧ Z 19 w2_5 ≤ 40 := m19 w2_5 (by omega) (by omega)
            have b7 : (-2147483648) ≤ Z 19 w2_5 ∧ Z 19 w2_5 ≤ 2147483647 := hG.pr 19 w2_5
            refine JialdI (z := Z 19 w2_5) hx (show mx_Sn _ _ 27 (mx_iald 28) from sn_9 27) a19 s19 (by omega) rfl ?_
            have c63 : ∀ (w8_2 : Int) (w8_3 : Int) (w8_4 : Int), 0 ≤ w8_2 ∧ w8_2 ≤ 384 → (-719) ≤ w8_3 ∧ w8_3 ≤ 18 → 1 ≤ w8_4 ∧ w8_4 ≤ 18 → (w8_3 ≤ 0 ∨ w8_2 + wy (w8_3 * 19 + w8_4) ≤ 385) → w2_5 ≤ w8_4 → mx_J (tB l D b0 ad Hb tau) mt_9 (d + 1) 63 [some (.ref 7), some (.ref 19), some (xI w8_2), some (xI w8_3), some (xI w8_4), some (xI w2_5)] [] h Post := by
              intro w8_2 w8_3 w8_4 f8_0 f8_1 f8_2 f8_3 f8_4
              refine Jiinc (z := w2_5) (cz := (-1)) (ls2 := [some (.ref 7), some (.ref 19), some (xI w8_2), some (xI w8_3), some (xI w8_4), some (xI (w2_5 + (-1)))]) (show mx_Sn _ _ 63 (mx_iinc 5 (-1) 66) from sn_9 63) rfl rfl rfl rfl ?_
              refine mx_J.step (sn_9 66) (fun _ _ => rfl) ?_
              exact ih2 w8_2 w8_3 w8_4 (w2_5 + (-1)) (by omega) (by omega) (by omega) (by omega) (by omega) (by omega) (by omega)
            refine Jif_le (show mx_Sn _ _ 28 (mx_if_le 63 31) from sn_9 28) (by omega) (fun q9 => ?_) (fun q9 => ?_)
            · skip
              exact c63 w2_2 w2_3 w2_4 (by omega) (by omega) (by omega) (by omega) (by omega)
            · skip
              refine mx_J.step (sn_9 31) (fun _ _ => rfl) ?_
              refine mx_J.step (sn_9 32) (fun _ _ => rfl) ?_
              refine mx_J.step (sn_9 33) (fun _ _ => rfl) ?_
              refine mx_J.step (sn_9 34) (fun _ _ => rfl) ?_
              obtain ⟨z10, hc10, b10⟩ := ct_2_7 (d := d + 0) (l := l) (D := D) (b0 := b0) (ad := ad) (Hb := Hb) (tau := tau) hx hG (show 0 ≤ w2_3 ∧ w2_3 ≤ 18 by omega) (show 0 ≤ w2_4 ∧ w2_4 ≤ 18 by omega)
              refine Jcv hx (show mx_Sn _ _ 36 (mx_callv 2 3 0 39) from sn_9 36) a7 s7 hc10 rfl rfl rfl ?_
              refine mx_J.step (sn_9 39) (fun _ _ => rfl) ?_
              refine mx_J.step (sn_9 40) (fun _ _ => rfl) ?_
              refine mx_J.step (sn_9 41) (fun _ _ => rfl) ?_
              obtain ⟨z11, hc11, b11⟩ := ct_2_7 (d := d + 0) (l := l) (D := D) (b0 := b0) (ad := ad) (Hb := Hb) (tau := tau) hx hG (show 0 ≤ w2_3 ∧ w2_3 ≤ 18 by omega) (show 0 ≤ w2_5 ∧ w2_5 ≤ 18 by omega)
              refine Jcv hx (show mx_Sn _ _ 43 (mx_callv 2 3 0 46) from sn_9 43) a7 s7 hc11 rfl rfl rfl ?_
              refine Jisub (show mx_Sn _ _ 46 (mx_isub 47) from sn_9 46) ?_
              refine Jiadd (show mx_Sn _ _ 47 (mx_iadd 48) from sn_9 47) ?_
              refine mx_J.step (ls2 := [some (.ref 7), some (.ref 19), some (xI (w2_2 + (z10 - z11))), some (xI w2_3), some (xI w2_4), some (xI w2_5)]) (sn_9 48) (fun _ _ => rfl) ?_
              refine mx_J.step (sn_9 49) (fun _ _ => rfl) ?_
              refine mx_J.step (sn_9 50) (fun _ _ => rfl) ?_
              refine mx_J.step (sn_9 52) (fun _ _ => rfl) ?_
              refine mx_J.step (sn_9 53) (fun _ _ => rfl) ?_
              have b12 : (-40) ≤ Z 19 w2_5 ∧ Z 19 w2_5 ≤ 40 := m19 w2_5 (by omega) (by omega)
              have b13 : (-2147483648) ≤ Z 19 w2_5 ∧ Z 19 w2_5 ≤ 2147483647 := hG.pr 19 w2_5
              refine JialdI (z := Z 19 w2_5) hx (show mx_Sn _ _ 55 (mx_iald 56) from sn_9 55) a19 s19 (by omega) rfl ?_
              refine JimulP (A := 18) (C := 40) (show mx_Sn _ _ 56 (mx_imul 57) from sn_9 56) (by omega) (by omega) (by decide) (fun y14 hy14 => ?_)
              refine Jisub (show mx_Sn _ _ 57 (mx_isub 58) from sn_9 57) ?_
              have wa := W1 (n := w2_3) (m := w2_5) (by omega) (by omega)
              have wb : (w2_3 - y14) < 0 ∨ wy ((w2_3 - y14) * 19 + w2_5) ≤ wy (w2_3 * 19 + w2_5) := W2 (by omega) (by omega)
              have wc : wy (w2_3 * 19 + w2_5) ≤ wy (w2_3 * 19 + w2_4) := W3 (by omega) (by omega)
              refine mx_J.step (ls2 := [some (.ref 7), some (.ref 19), some (xI (w2_2 + (z10 - z11))), some (xI (w2_3 - y14)), some (xI w2_4), some (xI w2_5)]) (sn_9 58) (fun _ _ => rfl) ?_
              refine mx_J.step (sn_9 59) (fun _ _ => rfl) ?_
              refine mx_J.step (ls2 := [some (.ref 7), some (.ref 19), some (xI (w2_2 + (z10 - z11))), some (xI (w2_3 - y14)), some (xI w2_5), some (xI w2_5)]) (sn_9 61) (fun _ _ => rfl) ?_
              exact c63 (w2_2 + (z10 - z11)) (w2_3 - y14) w2_5 (by omega) (by omega) (by omega) (by omega) (by omega)
    exact c15 (Int.toNat (18 - 0) + 1) 0 (Z 7 4) 18 18 (by omega) (by omega) (by omega) (by omega) (by omega) (by omega) (by omega)
theorem ct_9_7_19 {l : Launch} {D : va_G} {b0 : Nat} {ad : Nat → Nat} {Hb : Heap} {tau : Nat → Int64} {d n s : Nat} {S : Nat → xS} {Z : xZ} {h : mx_H} (hx : XH n s S Z h) (hG : GI n S Z) (m19 : AB Z 19 19 (-40) 40) : ∃ z : Int, mx_Ca (tB l D b0 ad Hb tau) (d + 2) 9 [.ref 7, .ref 19] h (some (xI z), h) ∧ (0 ≤ z ∧ z ≤ 384) := by
  obtain ⟨r, hca, z, e, hp⟩ := Jmt (B := tB l D b0 ad Hb tau) (M := mt_9) (mi := 9) (as := [.ref 7, .ref 19]) (d := d + 1) (ls := [some (.ref 7), some (.ref 19), none, none, none, none]) rfl rfl rfl rfl rfl rfl (cw_9_7_19 (l := l) (D := D) (b0 := b0) (ad := ad) (Hb := Hb) (tau := tau) (d := d) (Post := fun r => ∃ z : Int, r = (some (xI z), h) ∧ (0 ≤ z ∧ z ≤ 384)) hx hG m19 (fun z hz => ⟨z, rfl, hz⟩))
  subst e; exact ⟨z, hca, hp⟩
set_option maxRecDepth 100000 in
theorem cw_8_7_42 {l : Launch} {D : va_G} {b0 : Nat} {ad : Nat → Nat} {Hb : Heap} {tau : Nat → Int64} {d n s : Nat} {S : Nat → xS} {Z : xZ} {h : mx_H} {Post : mx_R → Prop} (hx : XH n s S Z h) (hG : GI n S Z) {x0 : Int} (p0 : (-2147483648) ≤ x0 ∧ x0 ≤ 2147483647) (hP : ∀ (Z' : xZ) (h' : mx_H), XH n s S Z' h' → GI n S Z' → fr' [(42, (-1))] Z Z' → AB Z' 42 19 0 18 → Post (none, h')) : mx_J (tB l D b0 ad Hb tau) mt_8 (d + 1) 0 [some (.ref 7), some (xI x0), some (.ref 42), none, none] [] h Post := by
    have a7 : 7 < n := lt83 hG.1 rfl
    have s7 : S 7 = .inl (0, [2, 2, 2, 2, 0, 0]) := hG.2.1 7 rfl
    have a9 : 9 < n := lt83 hG.1 rfl
    have s9 : S 9 = .inr (.byte, 6930, 0) := hG.2.1 9 rfl
    have a42 : 42 < n := lt83 hG.1 rfl
    have s42 : S 42 = .inr (.int, 19, 0) := hG.2.1 42 rfl
    refine mx_J.step (sn_8 0) (fun _ _ => rfl) ?_
    refine JcI (z := 0) (show mx_Sn _ _ 1 (mx_const (.int 0) 2) from sn_8 1) rfl ?_
    obtain ⟨Z1, h1, hc1, hx1, hG1, hf1, m1_42⟩ := ct_284_42_i0 (d := d + 0) (l := l) (D := D) (b0 := b0) (ad := ad) (Hb := Hb) (tau := tau) hx hG 
    refine Jcs0 (show mx_Sn _ _ 2 (mx_calls 284 2 5) from sn_8 2) hc1 rfl rfl rfl ?_
    refine mx_J.step (sn_8 5) (fun _ _ => rfl) ?_
    refine mx_J.step (sn_8 6) (fun _ _ => rfl) ?_
    obtain ⟨z2, hc2, b2⟩ := ct_5_7 (d := d + 0) (l := l) (D := D) (b0 := b0) (ad := ad) (Hb := Hb) (tau := tau) hx1 hG1 (show (-2147483648) ≤ x0 ∧ x0 ≤ 2147483647 by omega)
    refine Jcv hx1 (show mx_Sn _ _ 7 (mx_callv 5 2 0 10) from sn_8 7) a7 s7 hc2 rfl rfl rfl ?_
    refine mx_J.step (ls2 := [some (.ref 7), some (xI x0), some (.ref 42), some (xI z2), none]) (sn_8 10) (fun _ _ => rfl) ?_
    refine JcI (z := 0) (show mx_Sn _ _ 11 (mx_const (.int 0) 12) from sn_8 11) rfl ?_
    refine mx_J.step (ls2 := [some (.ref 7), some (xI x0), some (.ref 42), some (xI z2), some (xI 0)]) (sn_8 12) (fun _ _ => rfl) ?_
    have c14 : ∀ (m3 : Nat) (w3_4 : Int) (Z4 : xZ) (h4 : mx_H), 18 - w3_4 < (m3 : Int) → 0 ≤ w3_4 ∧ w3_4 ≤ 18 → AB Z4 42 (19) (0) (w3_4) → XH n s S Z4 h4 → GI n S Z4 → fr' [(42, (-1))] Z1 Z4 → mx_J (tB l D b0 ad Hb tau) mt_8 (d + 1) 14 [some (.ref 7), some (xI x0), some (.ref 42), some (xI z2), some (xI w3_4)] [] h4 Post := by
      intro m3
      induction m3 with
      | zero => intro w3_4 Z4 h4 q3 f3_0 f3_1 hx4 hG4 hf4; exact absurd q3 (by omega)
      | succ m3 ih3 =>
        intro w3_4 Z4 h4 q3 f3_0 f3_1 hx4 hG4 hf4
        refine mx_J.step (sn_8 14) (fun _ _ => rfl) ?_
        refine mx_J.step (sn_8 16) (fun _ _ => rfl) ?_
        refine Jicmp_ge (show mx_Sn _ _ 17 (mx_icmp_ge 44 20) from sn_8 17) (by omega) (by omega) (fun q5 => ?_) (fun q5 => ?_)
        · skip
          exact mx_J.ret (sn_8 44) (fun _ _ => rfl) (hP Z4 h4 hx4 hG4 (fr_tr (M := [(42, (-1))]) (fr_tr (M := [(42, (-1))]) fr_rf (hf1) (M1 := []) rfl rfl) (hf4) rfl rfl) (ab_mono f3_1 (by omega) (by omega) (by omega)))
        · skip
          refine mx_J.step (sn_8 20) (fun _ _ => rfl) ?_
          refine mx_J.step (sn_8 21) (fun _ _ => rfl) ?_
          refine JgetR (g := 1) (b := 9) hx4 (show mx_Sn _ _ 22 (mx_getf 0 1 25) from sn_8 22) a7 s7 rfl rfl (hG4.prr 7 1 rfl) ?_
          refine mx_J.step (sn_8 25) (fun _ _ => rfl) ?_
          refine JcI (z := 18) (show mx_Sn _ _ 26 (mx_const (.int 18) 28) from sn_8 26) rfl ?_
          refine Jimul (show mx_Sn _ _ 28 (mx_imul 29) from sn_8 28) ?_
          refine mx_J.step (sn_8 29) (fun _ _ => rfl) ?_
          refine Jiadd (show mx_Sn _ _ 31 (mx_iadd 32) from sn_8 31) ?_
          have b6 : 0 ≤ Z 9 ((x0 * 18) + w3_4) ∧ Z 9 ((x0 * 18) + w3_4) ≤ 18 := hG.pr 9 ((x0 * 18) + w3_4)
          refine JbaldI (z := Z 9 ((x0 * 18) + w3_4)) hx4 (show mx_Sn _ _ 32 (mx_bald 33) from sn_8 32) a9 s9 (by omega) ((hf4 9 ((x0 * 18) + w3_4) rfl).trans (hf1 9 ((x0 * 18) + w3_4) rfl)) ?_
          refine mx_J.step (sn_8 33) (fun _ _ => rfl) ?_
          have b7 : 0 ≤ Z4 42 (Z 9 ((x0 * 18) + w3_4)) ∧ Z4 42 (Z 9 ((x0 * 18) + w3_4)) ≤ w3_4 := f3_1 (Z 9 ((x0 * 18) + w3_4)) (by omega) (by omega)
          have b8 : (-2147483648) ≤ Z4 42 (Z 9 ((x0 * 18) + w3_4)) ∧ Z4 42 (Z 9 ((x0 * 18) + w3_4)) ≤ 2147483647 := hG4.pr 42 (Z 9 ((x0 * 18) + w3_4))
          refine JialdI (z := Z4 42 (Z 9 ((x0 * 18) + w3_4))) hx4 (show mx_Sn _ _ 34 (mx_iald 35) from sn_8 34) a42 s42 (by omega) rfl ?_
          refine JcI (z := 1) (show mx_Sn _ _ 35 (mx_const (.int 1) 36) from sn_8 35) rfl ?_
          refine Jiadd (show mx_Sn _ _ 36 (mx_iadd 37) from sn_8 36) ?_
          refine JiastI hx4 (show mx_Sn _ _ 37 (mx_iast 1 38) from sn_8 37) a42 s42 rfl (by omega) (fun Z9 h9 hx9 hE9 => ?_)
          have hG9 := GI_up hG4 hE9 (show (-2147483648) ≤ (Z4 42 (Z 9 ((x0 * 18) + w3_4))) + 1 ∧ (Z4 42 (Z 9 ((x0 * 18) + w3_4))) + 1 ≤ 2147483647 by omega) trivial rfl
          have m9 : AB Z9 42 19 0 (w3_4 + 1) := ab_up hE9 f3_1 (by omega) (by omega) (by omega)
          refine Jiinc (z := w3_4) (cz := 1) (ls2 := [some (.ref 7), some (xI x0), some (.ref 42), some (xI z2), some (xI (w3_4 + 1))]) (show mx_Sn _ _ 38 (mx_iinc 4 1 41) from sn_8 38) rfl rfl rfl rfl ?_
          refine mx_J.step (sn_8 41) (fun _ _ => rfl) ?_
          exact ih3 (w3_4 + 1) Z9 h9 (by omega) (by omega) (ab_mono m9 (by omega) (by omega) (by omega)) hx9 hG9 (fr_tr (M := [(42, (-1))]) (fr_tr (M := [(42, (-1))]) fr_rf (hf4) (M1 := []) rfl rfl) (fr_ua hE9) rfl rfl)
    exact c14 (Int.toNat (18 - 0) + 1) 0 Z1 h1 (by omega) (by omega) (ab_mono m1_42 (by omega) (by omega) (by omega)) hx1 hG1 fr_rf
theorem ct_8_7_42 {l : Launch} {D : va_G} {b0 : Nat} {ad : Nat → Nat} {Hb : Heap} {tau : Nat → Int64} {d n s : Nat} {S : Nat → xS} {Z : xZ} {h : mx_H} (hx : XH n s S Z h) (hG : GI n S Z) {x0 : Int} (p0 : (-2147483648) ≤ x0 ∧ x0 ≤ 2147483647) : ∃ (Z' : xZ) (h' : mx_H), mx_Ca (tB l D b0 ad Hb tau) (d + 2) 8 [.ref 7, xI x0, .ref 42] h (none, h') ∧ XH n s S Z' h' ∧ GI n S Z' ∧ fr' [(42, (-1))] Z Z' ∧ (AB Z' 42 19 0 18) := by
  obtain ⟨r, hca, Z', h', e, q⟩ := Jmt (B := tB l D b0 ad Hb tau) (M := mt_8) (mi := 8) (as := [.ref 7, xI x0, .ref 42]) (d := d + 1) (ls := [some (.ref 7), some (xI x0), some (.ref 42), none, none]) rfl rfl rfl rfl rfl rfl (cw_8_7_42 (l := l) (D := D) (b0 := b0) (ad := ad) (Hb := Hb) (tau := tau) (d := d) (Post := fun r => ∃ (Z' : xZ) (h' : mx_H), r = (none, h') ∧ XH n s S Z' h' ∧ GI n S Z' ∧ fr' [(42, (-1))] Z Z' ∧ (AB Z' 42 19 0 18)) hx hG p0 (fun Z' h' q1 q2 q3 q5_42 => ⟨Z', h', rfl, q1, q2, q3, q5_42⟩))
  subst e; exact ⟨Z', h', hca, q⟩
